/-! ===== calls that make PEACE ===== -/
section PEACEOPS
variable {M M' : Mem} {t u n ea kp i j c kind : Nat} {K S : Nat → Nat} {d0 d : Dm} {s : Ts} {A A1 A2 : Al} {tx Z : Tx}
/-- what is owed behind PEACE -/
def o_left (K : Nat → Nat) (day : Nat) (d : Dm) : Nat := d_all (mpF K day d).2
theorem AC.trial (hC : AC M t tx n ea K S d0 s A kp A1 A2 Z) (hn : n ≤ 7) : ∃ M', X4_copyFrom (t + 23) (t + 16) M = some ((), M') ∧ TC M' (t + 23) n s.2.1 ea s.1 K S s.2.2 ∧ Sc t M M' := by
  obtain ⟨M', e, hT, hF⟩ := X4_copyFrom_s (t := t + 23) hC.2.2.1 (by omega) (by omega)
  exact ⟨M', e, hT, Sc.tri hF⟩
theorem SV.day (hV : SV tx n ea K S d0 s A kp A1 A2 Z) : s.2.1 ≤ 360 := by
  have := hV.2.2.2.2.2.2.1
  have := hV.2.2.2.2.2.2.2.1.1
  omega
theorem AC.left (hC : AC M t tx n ea K S d0 s A kp A1 A2 Z) (hV : SV tx n ea K S d0 s A kp A1 A2 Z) : ∃ M', X5_owedWithout t (-1) (-1) M = some (nI (o_left K s.2.1 s.2.2), M') ∧ Sc t M M' := by
  have hd := hV.day
  obtain ⟨M1, e1, hT1, hS1⟩ := hC.trial hV.2.2.2.2.1.1
  obtain ⟨M2, e2, hT2, hF2, hV2, _⟩ := X4_makePeace_s hT1 hV.2.2.2.2.2.1 (by omega)
  refine ⟨M2, ?_, hS1.tr (Sc.tri hF2)⟩
  unfold X5_owedWithout X5_forgiveInTrial
  rw [e1, zz_call, if_pos rfl, zz_call, if_pos rfl, zz_call, e2, zz_call, X4_allOwed_s hT2 hV2, zz_call]
  rfl
theorem AR.left (hR : AR M u tx n ea K S d0 s A kp A1 A2 Z) (hV : SV tx n ea K S d0 s A kp A1 A2 Z) : ∃ M', X6_owedBehind u (nI 0) M = some (nI (o_left K s.2.1 s.2.2), M') ∧ ScR u M M' := by
  have hd := hV.day
  obtain ⟨M1, e1, hF1⟩ := X6_owedBehind_s hR.2.2.2.2.1 hV.2.2.2.2.2.1 (by omega) (by omega)
  exact ⟨M1, e1, hF1.ScR (by omega)⟩
theorem X6_peace_31_s {x : Int32} {v day al : Nat} (hT : TR M u 1 n day al K S d) (hV : t_ok n al K d) : X6_peace_31 u x (nI v) FU (nI 0) (nI 0) M = some (if x = 0 then nI v else if x = 1 then nI (d_all d) else nI (o_stuck d 8), M) := by
  have w := hV.1
  refine lp (S := Int32 × Int32 × Mem) (fun f z => X6_peace_31 u x (nI v) f z.1 z.2.1 z.2.2) (fun k z => z = (nI (o_stuck d k), nI k, M)) (fun r => r = some (if x = 0 then nI v else if x = 1 then nI (d_all d) else nI (o_stuck d 8), M)) 8 ?_ ?_ 0 FU (nI 0, nI 0, M) (by omega) (FU_lt (by omega)) rfl
  · intro k f z hk e
    subst e
    left
    have r := hV.row k
    have r2 := hV.col k
    refine ⟨(nI (o_stuck d (k + 1)), nI (k + 1), M), ?_, rfl⟩
    have e1 : o_stuck d (k + 1) = if 0 < d_row d k + d_col d k then o_stuck d k ||| 2 ^ k else o_stuck d k := rfl
    show X6_peace_31 u x (nI v) (f + 1) (nI (o_stuck d k)) (nI k) M = X6_peace_31 u x (nI v) f (nI (o_stuck d (k + 1))) (nI (k + 1)) M
    rw [X6_peace_31, zz_shl (by omega), e1, if_neg (show ¬ (8 : Int32) ≤ nI k from nI_ge (b := 8) hk (by omega)), nl1, X6_debtsOf_s hT (by omega) (by omega), zz_call, X6_owedTo_s hT (by omega) (by omega), zz_call, nI_add]
    by_cases a : 0 < d_row d k + d_col d k
    · rw [if_neg (show ¬ nI (d_row d k + d_col d k) ≤ 0 from nI_nle a (by omega)), if_pos a, zz_let, fa_or, nI_add]
    · rw [if_pos (show nI (d_row d k + d_col d k) ≤ 0 from nI_le (b := 0) (by omega) (by omega)), if_neg a, zz_let, nl0, fa_or, Nat.or_zero, nI_add]
  · intro f z e
    subst e
    show X6_peace_31 u x (nI v) (f + 1) (nI (o_stuck d 8)) (nI 8) M = _
    rw [X6_peace_31, if_pos (by decide)]
    by_cases h0 : x = 0
    · rw [if_neg (not_not_intro h0), if_pos h0]
    · rw [if_pos h0, if_neg h0]
      by_cases h1 : x = 1
      · rw [if_neg (not_not_intro h1), if_pos h1, nl1, X6_allOf_s hT (by omega), zz_call]
      · rw [if_pos h1, if_neg h1]
theorem P_peace {x : Int32} (hC : AC M t tx n ea K S d0 s A kp A1 A2 Z) (hR : AR M u tx n ea K S d0 s A kp A1 A2 Z) (hV : SV tx n ea K S d0 s A kp A1 A2 Z) (htu : t + 44 ≤ u) : PS t u M (X5_peace t x) (X6_peace u x) := by
  have hd := hV.day
  have hn7 := hV.2.2.2.2.1.1
  have hV1 := hV.2.2.2.2.2.1
  rcases inR_c (lo := 0) (hi := 2) (x := x) (by omega) (by omega) with ⟨h, w, _, hw, rfl⟩ | ⟨h, h2⟩
  · refine PS.ro (v := if nI w = 0 then nI (mpF K s.2.1 s.2.2).1 else if nI w = 1 then nI (o_left K s.2.1 s.2.2) else nI (o_stuck (mpF K s.2.1 s.2.2).2 8)) hC hR hV htu ?_ (fun M1 hR1 => ?_)
    · obtain ⟨M1, e1, hT1, hS1⟩ := hC.trial hn7
      obtain ⟨M2, e2, hT2, hF2, hV2, _⟩ := X4_makePeace_s hT1 hV1 (by omega)
      refine ⟨M2, ?_, hS1.tr (Sc.tri hF2)⟩
      unfold X5_peace
      rw [if_neg (nI_pos (by omega)), if_pos (show nI w ≤ (2 : Int32) from nI_le (b := 2) hw (by omega)), e1, zz_call, e2, zz_call]
      by_cases h0 : nI w = 0
      · rw [if_neg (not_not_intro h0), if_pos h0]
      · rw [if_pos h0, if_neg h0]
        by_cases h1 : nI w = 1
        · rw [if_neg (not_not_intro h1), if_pos h1, X4_allOwed_s hT2 hV2, zz_call]
          rfl
        · rw [if_pos h1, if_neg h1, X4_stuckBits_s hT2 hV2, zz_call, o_stuck_n hV2]
    · obtain ⟨M2, e2, hT2, hF2⟩ := X6_copy_s (b := 1) hR1.2.2.2.2.1 (by omega) (by omega) (by omega)
      obtain ⟨M3, e3, hT3, hF3, hV3⟩ := X6_makePeace_s hT2 hV1 (by omega) (by omega)
      refine ⟨M3, ?_, (hF2.tr hF3).ScR (by omega)⟩
      unfold X6_peace
      rw [show X6_in (nI w).toInt64 0 2 M1 = _ from X6_in_s (lo := 0) (hi := 2), h, zz_call, if_pos (by decide), nl0, nl1, e2, zz_call, e3, zz_call, X6_peace_31_s hT3 hV3]
      rfl
  · refine PS.ro (v := -1) hC hR hV htu ⟨M, ?_, Sc.rf⟩ (fun M1 hR1 => ⟨M1, ?_, ScR.rf⟩)
    · unfold X5_peace
      rcases h2 with h2 | h2
      · rw [if_pos (show x < 0 from h2)]
      · by_cases h3 : x < 0
        · rw [if_pos h3]
        · rw [if_neg h3, if_neg (show ¬ x ≤ 2 from Int32.not_le.2 h2)]
    · unfold X6_peace
      rw [show X6_in x.toInt64 0 2 M1 = _ from X6_in_s (lo := 0) (hi := 2), h, zz_call, if_neg (by decide)]
/-! by which ACT it began -/
def bgP (n : Nat) (K : Nat → Nat) (d0 : Dm) (A : Al) (owed k : Nat) : Bool := decide (o_left K (o_rep n K A k A.1 (2 ^ n - 1, 0, d0)).2.1 (o_rep n K A k A.1 (2 ^ n - 1, 0, d0)).2.2 < owed)
theorem o_left_le {day al : Nat} (hV : t_ok n al K d) (hd : day < 2 ^ 29) (hT : TC M t n day ea al K S d) : o_left K day d ≤ 441 := by
  obtain ⟨_, _, _, _, _, h⟩ := X4_makePeace_s hT hV (by omega)
  have := hV.all7
  unfold o_left
  omega
theorem k_but {k : Nat} (hk : k < 40) : ∀ q, q < 40 → (nI q = nI k ↔ q = k) := fun q hq => nI_eq (by omega) (by omega)
theorem P_began (hC : AC M t tx n ea K S d0 s A kp A1 A2 Z) (hR : AR M u tx n ea K S d0 s A kp A1 A2 Z) (hV : SV tx n ea K S d0 s A kp A1 A2 Z) (htu : t + 44 ≤ u) : PS t u M (X5_began t) (X6_began u) := by
  obtain ⟨v1, v2, v3, v4, v5, v6, v7, v8, v9, v10, v11, v12, v13⟩ := id hV
  have hd := hV.day
  have h40 := v8.1
  obtain ⟨ow, how⟩ : ∃ ow, ow = o_left K s.2.1 s.2.2 := ⟨_, rfl⟩
  have hbd : ow ≤ 441 := by rw [how]; exact o_left_le v6 (by omega) hC.2.2.1
  refine PS.ro (v := fI (ff (bgP n K d0 A ow) A.1)) hC hR hV htu ?_ (fun M1 hR1 => ?_)
  · obtain ⟨M1, e1, hS1⟩ := hC.left hV
    unfold X5_began
    rw [e1, zz_call, ← how]
    refine lp (S := Int32 × Mem) (fun f z => X5_began_9 t (nI ow) f z.1 z.2) (fun k z => z.1 = nI k ∧ Sc t M z.2 ∧ ∀ q, q < k → bgP n K d0 A ow q = false) (fun r => ∃ M1, r = some (fI (ff (bgP n K d0 A ow) A.1), M1) ∧ Sc t M M1) A.1 ?_ ?_ 0 FU (nI 0, M1) (by omega) (FU_lt (by omega)) ⟨rfl, hS1, fun q hq => by omega⟩
    · intro k f z hk ⟨e1, hS1, hq⟩
      obtain ⟨x, M1⟩ := z
      dsimp only at e1 hS1
      subst e1
      have hC1 := hC.sc hS1
      obtain ⟨M2, e2, hT2, hF2⟩ := X5_doAgain_s (t1 := t + 23) (x2 := nI k) (but := k) hC1.2.1 hC1.2.2.2.1 v5 v8 (by omega) (by omega) (k_but (by omega))
      obtain ⟨hT2, hV2, hd2⟩ := hT2 _ rfl
      have hbd2 := o_left_le hV2 (by omega) hT2
      obtain ⟨M3, e3, hT3, hF3, hV3, _⟩ := X4_makePeace_s hT2 hV2 (by omega)
      have hS3 : Sc t M M3 := (hS1.tr (Sc.tri hF2)).tr (Sc.tri hF3)
      show (∃ s', X5_began_9 t (nI ow) (f + 1) (nI k) M1 = _ ∧ _) ∨ (∃ M', X5_began_9 t (nI ow) (f + 1) (nI k) M1 = _ ∧ _)
      rw [X5_began_9]
      unfold X0_size
      rw [zz_call, hC1.2.2.2.1.1, if_neg (nI_ge hk (by omega)), e2, zz_call, e3, zz_call, X4_allOwed_s hT3 hV3, zz_call]
      by_cases hb : bgP n K d0 A ow k = true
      · right
        refine ⟨M3, ?_, hS3⟩
        rw [if_neg, ff_is hk hb hq]
        · rfl
        · unfold bgP at hb
          rw [decide_eq_true_iff] at hb
          exact nI_ge hb (by omega)
      · left
        refine ⟨(nI (k + 1), M3), ?_, rfl, hS3, fun q hq' => ?_⟩
        · rw [if_pos]
          · rw [nI_1]
          · unfold bgP at hb
            rw [decide_eq_true_iff] at hb
            exact nI_le (by unfold o_left at hb; omega) (by unfold o_left at hbd2; omega)
        · by_cases hz : q = k
          · rw [hz]; simpa using hb
          · exact hq q (by omega)
    · intro f z ⟨e1, hS1, hq⟩
      obtain ⟨x, M1⟩ := z
      dsimp only at e1 hS1
      subst e1
      have hC1 := hC.sc hS1
      refine ⟨M1, ?_, hS1⟩
      show X5_began_9 t (nI ow) (f + 1) (nI A.1) M1 = _
      rw [X5_began_9, ff_no hq]
      unfold X0_size
      rw [zz_call, hC1.2.2.2.1.1, if_pos (nI_le (Nat.le_refl _) (by omega))]
      rfl
  · obtain ⟨M2, e2, hS2⟩ := hR1.left hV
    unfold X6_began
    rw [nl0, e2, zz_call, ← how]
    refine lp (S := Int32 × Mem) (fun f z => X6_began_8 u (nI ow) f z.1 z.2) (fun k z => z.1 = nI k ∧ ScR u M1 z.2 ∧ ∀ q, q < k → bgP n K d0 A ow q = false) (fun r => ∃ M2, r = some (fI (ff (bgP n K d0 A ow) A.1), M2) ∧ ScR u M1 M2) A.1 ?_ ?_ 0 FU (nI 0, M2) (by omega) (FU_lt (by omega)) ⟨rfl, hS2, fun q hq => by omega⟩
    · intro k f z hk ⟨e1, hS1, hq⟩
      obtain ⟨x, M3⟩ := z
      dsimp only at e1 hS1
      subst e1
      have hR3 := hR1.sc v5.1 hS1
      obtain ⟨r1, r2, r3, r4, rk, rs, r6, r7, r8, r9, r10, r11⟩ := hR3.x
      obtain ⟨M4, e4, hT4, hF4⟩ := X6_beginBut_s (M := M3) (t := u) (b := 1) (x2 := nI k) (but := k) (K := K) (S := S) r2 rk rs r4 r6 v5 v8 (by omega) (k_but (by omega))
      obtain ⟨hT4, hV4, hd4⟩ := hT4 _ rfl
      obtain ⟨M5, e5, hF5⟩ := X6_owedBehind_s hT4 hV4 (by omega) (by omega)
      obtain ⟨M6, e6, hT6, hF6, hV6⟩ := X6_makePeace_s hT4 hV4 (by omega) (by omega)
      have hbd2 : o_left K (o_rep n K A k A.1 (2 ^ n - 1, 0, d0)).2.1 (o_rep n K A k A.1 (2 ^ n - 1, 0, d0)).2.2 ≤ 441 := hV6.all7
      have hS5 : ScR u M1 M5 := (hS1.tr (hF4.ScR (by omega))).tr (hF5.ScR (by omega))
      show (∃ s', X6_began_8 u (nI ow) (f + 1) (nI k) M3 = _ ∧ _) ∨ (∃ M', X6_began_8 u (nI ow) (f + 1) (nI k) M3 = _ ∧ _)
      rw [X6_began_8, nl0, zz_ald (by omega) (by omega), r6.1, if_neg (nI_ge hk (by omega)), nl1, e4, zz_call, e5, zz_call]
      by_cases hb : bgP n K d0 A ow k = true
      · right
        refine ⟨M5, ?_, hS5⟩
        rw [if_neg, ff_is hk hb hq]
        · rfl
        · unfold bgP at hb
          rw [decide_eq_true_iff] at hb
          exact nI_ge hb (by omega)
      · left
        refine ⟨(nI (k + 1), M5), ?_, rfl, hS5, fun q hq' => ?_⟩
        · rw [if_pos]
          · rw [nI_add]
          · unfold bgP at hb
            rw [decide_eq_true_iff] at hb
            exact nI_le (by unfold o_left at hb; omega) (by unfold o_left at hbd2; omega)
        · by_cases hz : q = k
          · rw [hz]; simpa using hb
          · exact hq q (by omega)
    · intro f z ⟨e1, hS1, hq⟩
      obtain ⟨x, M3⟩ := z
      dsimp only at e1 hS1
      subst e1
      have hR3 := hR1.sc v5.1 hS1
      refine ⟨M3, ?_, hS1⟩
      show X6_began_8 u (nI ow) (f + 1) (nI A.1) M3 = _
      rw [X6_began_8, ff_no hq, nl0, zz_ald (by omega) (by omega), hR3.2.2.2.2.2.1.1, if_pos (nI_le (Nat.le_refl _) (by omega))]
      rfl
end PEACEOPS
