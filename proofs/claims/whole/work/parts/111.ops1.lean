/-! ===== THE TEXT, silence, counts ===== -/
def LT (M : Mem) (c : Nat) (tx : Tx) : Prop := M c 1 = nI tx.1 ∧ ∀ k, k < tx.1 → M (c + 1) k = nI (tx.2 k)
def t_add (tx : Tx) (a : Nat) : Tx := (tx.1 + 1, fun k => if k = tx.1 then a else tx.2 k)
section OPS1
variable {M M' : Mem} {t u n ea kp i j c : Nat} {K S : Nat → Nat} {d0 d : Dm} {s : Ts} {A A1 A2 : Al} {tx Z : Tx}
theorem X1_add_s {a : Nat} (h : LT M c tx) (hl : tx.1 < 200) : ∃ M', X1_add c (nI a) M = some ((), M') ∧ LT M' c (t_add tx a) ∧ Fr c (c + 2) M M' := by
  obtain ⟨h0, h1⟩ := h
  refine ⟨me_upd (me_upd M (c + 1) tx.1 (nI a)) c 1 (nI (tx.1 + 1)), ?_, ⟨up_s, fun k hk => ?_⟩, (Fr.up (by omega) (by omega)).tr (Fr.up (by omega) (by omega))⟩
  · unfold X1_add
    have e : me_upd M (c + 1) tx.1 (nI a) c 1 = nI tx.1 := by rw [up_c (by omega)]; exact h0
    rw [h0]
    simp (disch := omega) only [nl0, nl1, nl2, nl3, nl4, nl5, nl6, nl7, nl8, nl9, nl10, nl32, nl40, nl44, nl48, nl57, nl59, nl60, nl63, nl64, nl99, nl100, nl101, nl111, nl112, nl126, nl128, nl200, nl504, nl9999, nl65521, zz_ald, zz_ast, zz_let, zz_call, zz_put, zz_rem, zz_div, zz_rz, zz_rz0, zz_rz1, pk_mul, nI_add, pk_sub, b2_0, b2_1, nI_leI, nI_ltI, nI_eq, e]
    rw [if_neg (by omega)]
  · rw [up_c (by omega)]
    by_cases hz : k = tx.1
    · rw [hz, up_s]
      show nI a = nI (if tx.1 = tx.1 then a else tx.2 tx.1)
      rw [if_pos rfl]
    · rw [up_j hz]
      show _ = nI (if k = tx.1 then a else tx.2 k)
      rw [if_neg hz]
      exact h1 k (by change k < tx.1 + 1 at hk; omega)
theorem AC.text (hC : AC M t tx n ea K S d0 s A kp A1 A2 Z) {tx' : Tx} (h : LT M' (t + 1) tx') (hF : Fr (t + 1) (t + 3) M M') : AC M' t tx' n ea K S d0 s A kp A1 A2 Z := by
  obtain ⟨a1, a2, a3, a4, a5, a6, a7, a8, a9⟩ := hC
  refine ⟨h, a2.fr (fun c h1 h2 => hF c (by omega)), a3.fr (fun c h1 h2 => hF c (by omega)), a4.fr (fun c h1 h2 => hF c (by omega)), fun hk => (a5 hk).fr (fun c h1 h2 => hF c (by omega)), fun hk => (a6 hk).fr (fun c h1 h2 => hF c (by omega)), ?_, ?_, ?_⟩
  · rw [hF t (by omega)]; exact a7
  · rw [hF t (by omega)]; exact a8
  · rw [hF t (by omega)]; exact a9
theorem AR.text (hR : AR M u tx n ea K S d0 s A kp A1 A2 Z) {tx' : Tx} (h : M' u 0 = nI tx'.1 ∧ ∀ k, k < tx'.1 → M' (u + 1) k = nI (tx'.2 k)) (hF : Fr u (u + 2) M M') (hF2 : ∀ k, k ≠ 0 → M' u k = M u k) : AR M' u tx' n ea K S d0 s A kp A1 A2 Z := by
  obtain ⟨a1, a2, a3, a4, ⟨c0, c1, c2, ck, cs, cd⟩, a6, a7, a8, a9, a10, a11⟩ := hR
  refine ⟨h, ?_, ?_, ?_, ⟨?_, ?_, ?_, ?_, ?_, ?_⟩, a6.fr (fun c h1 h2 => hF c (by omega)), fun hk => (a7 hk).fr (fun c h1 h2 => hF c (by omega)), fun hk => (a8 hk).fr (fun c h1 h2 => hF c (by omega)), (hF2 _ (by omega)).trans a9, (hF2 _ (by omega)).trans a10, ?_⟩
  · rw [hF _ (by omega)]; exact a2
  · rw [hF _ (by omega)]; exact a3
  · rw [hF _ (by omega)]; exact a4
  · rw [hF _ (by omega)]; exact c0
  · rw [hF _ (by omega)]; exact c1
  · rw [hF _ (by omega)]; exact c2
  · rw [hF _ (by omega)]; exact ck
  · rw [hF _ (by omega)]; exact cs
  · rw [hF _ (by omega)]; exact cd
  · rw [hF _ (by omega)]; exact a11
theorem P_write {x : Int32} (hC : AC M t tx n ea K S d0 s A kp A1 A2 Z) (hR : AR M u tx n ea K S d0 s A kp A1 A2 Z) (hV : SV tx n ea K S d0 s A kp A1 A2 Z) (htu : t + 44 ≤ u) : PS t u M (X5_write t x) (X6_write u x) := by
  have hl := hV.1.1
  have hT : LT M (t + 1) tx := hC.1
  rcases inR_c (lo := 32) (hi := 126) (x := x) (by omega) (by omega) with ⟨h, a, ha1, ha2, rfl⟩ | ⟨h, h2⟩
  · by_cases hf : tx.1 < 200
    · obtain ⟨M1, e1, hT1, hF1⟩ := X1_add_s (a := a) hT hf
      have hC1 := hC.text hT1 hF1
      have hR1 : AR M1 u tx n ea K S d0 s A kp A1 A2 Z := hR.out (fun c h1 h2 => hF1 c (by omega))
      have e0 : me_upd M1 (u + 1) tx.1 (nI a) u 0 = nI tx.1 := by rw [up_c (by omega)]; exact hR1.1.1
      refine PS.of (v := nI (tx.1 + 1)) (M1 := M1) (M2 := me_upd (me_upd M1 (u + 1) tx.1 (nI a)) u 0 (nI (tx.1 + 1))) (tx := t_add tx a) htu ?_ hC1 ?_ (hR1.text (M' := me_upd (me_upd M1 (u + 1) tx.1 (nI a)) u 0 (nI (tx.1 + 1))) ⟨up_s, fun k hk => ?_⟩ ((Fr.up (by omega) (by omega)).tr (Fr.up (by omega) (by omega))) (fun k hk => by rw [up_j hk, up_c (by omega)])) ((Fr.up (by omega) (by omega)).tr (Fr.up (by omega) (by omega))) ?_
      · unfold X5_write X1_length
        rw [hC.1.1, show (32 : Int32) = nI 32 from rfl, show (126 : Int32) = nI 126 from rfl, if_neg (nI_nlt (by omega) (by omega)), if_pos (nI_le (by omega) (by omega)), zz_call, nl200, if_pos (nI_lt hf (by omega)), e1, zz_call, hT1.1]
        rfl
      · unfold X6_write
        rw [show X6_in (nI a).toInt64 32 126 M1 = _ from X6_in_s (lo := 32) (hi := 126), h, zz_call, if_pos (by decide), hR1.1.1]
        simp (disch := omega) only [nl0, nl1, nl2, nl3, nl4, nl5, nl6, nl7, nl8, nl9, nl10, nl32, nl40, nl44, nl48, nl57, nl59, nl60, nl63, nl64, nl99, nl100, nl101, nl111, nl112, nl126, nl128, nl200, nl504, nl9999, nl65521, zz_ald, zz_ast, zz_let, zz_call, zz_put, zz_rem, zz_div, zz_rz, zz_rz0, zz_rz1, pk_mul, nI_add, pk_sub, b2_0, b2_1, nI_leI, nI_ltI, nI_eq, e0, up_s]
        rw [if_pos (by omega)]
      · rw [up_c (by omega)]
        by_cases hz : k = tx.1
        · rw [hz, up_s]
          show nI a = nI (if tx.1 = tx.1 then a else tx.2 tx.1)
          rw [if_pos rfl]
        · rw [up_j hz]
          show _ = nI (if k = tx.1 then a else tx.2 k)
          rw [if_neg hz]
          exact hR1.1.2 k (by change k < tx.1 + 1 at hk; omega)
      · refine ⟨⟨by show tx.1 + 1 ≤ 200; omega, fun k hk => ?_⟩, hV.2⟩
        show 32 ≤ (if k = tx.1 then a else tx.2 k) ∧ (if k = tx.1 then a else tx.2 k) ≤ 126
        split
        · exact ⟨ha1, ha2⟩
        · exact hV.1.2 k (by change k < tx.1 + 1 at hk; omega)
    · refine PS.ro (v := -3) hC hR hV htu ⟨M, ?_, Sc.rf⟩ (fun M1 hR1 => ⟨M1, ?_, ScR.rf⟩)
      · unfold X5_write X1_length
        rw [hC.1.1, show (32 : Int32) = nI 32 from rfl, show (126 : Int32) = nI 126 from rfl, if_neg (nI_nlt (by omega) (by omega)), if_pos (nI_le (by omega) (by omega)), zz_call, nl200, if_neg (nI_nlt (by omega) (by omega))]
      · unfold X6_write
        rw [show X6_in (nI a).toInt64 32 126 M1 = _ from X6_in_s (lo := 32) (hi := 126), h, zz_call, if_pos (by decide), hR1.1.1, show tx.1 = 200 by omega, if_neg (by decide)]
  · refine PS.ro (v := -1) hC hR hV htu ⟨M, ?_, Sc.rf⟩ (fun M1 hR1 => ⟨M1, ?_, ScR.rf⟩)
    · unfold X5_write
      rcases h2 with h2 | h2
      · rw [if_pos (show x < 32 from h2)]
      · by_cases h3 : x < 32
        · rw [if_pos h3]
        · rw [if_neg h3, if_neg (show ¬ x ≤ 126 from Int32.not_le.2 h2)]
    · unfold X6_write
      rw [show X6_in x.toInt64 32 126 M1 = _ from X6_in_s (lo := 32) (hi := 126), h, zz_call, if_neg (by decide)]
theorem P_wipe (hC : AC M t tx n ea K S d0 s A kp A1 A2 Z) (hR : AR M u tx n ea K S d0 s A kp A1 A2 Z) (hV : SV tx n ea K S d0 s A kp A1 A2 Z) (htu : t + 44 ≤ u) : PS t u M (X5_wipe t) (X6_wipe u) := by
  have hC1 : AC (me_upd M (t + 1) 1 (nI 0)) t (0, tx.2) n ea K S d0 s A kp A1 A2 Z := hC.text ⟨up_s, fun k hk => by cases hk⟩ (Fr.up (by omega) (by omega))
  have hR1 : AR (me_upd M (t + 1) 1 (nI 0)) u tx n ea K S d0 s A kp A1 A2 Z := hR.out (fun c h1 h2 => up_c (by omega))
  refine PS.of (v := nI tx.1) (tx := (0, tx.2)) htu ?_ hC1 ?_ (hR1.text (M' := me_upd (me_upd M (t + 1) 1 (nI 0)) u 0 (nI 0)) ⟨up_s, fun k hk => by cases hk⟩ (Fr.up (by omega) (by omega)) (fun k hk => up_j hk)) (Fr.up (by omega) (by omega)) ⟨⟨by show 0 ≤ 200; omega, fun k hk => by cases hk⟩, hV.2⟩
  · unfold X5_wipe X1_length X1_clear
    rw [hC.1.1]
    rfl
  · unfold X6_wipe
    rw [hR1.1.1]
    rfl
theorem AC.sil (hC : AC M t tx n ea K S d0 s A kp A1 A2 Z) {Z' : Tx} : AC (me_upd (me_upd M t 9 (nI Z'.1)) t 10 (nI (zb Z'))) t tx n ea K S d0 s A kp A1 A2 Z' := by
  obtain ⟨a1, a2, a3, a4, a5, a6, a7, a8, a9⟩ := hC
  have hF : ∀ c, c ≠ t → me_upd (me_upd M t 9 (nI Z'.1)) t 10 (nI (zb Z')) c = M c := fun c hc => by rw [up_c hc, up_c hc]
  refine ⟨?_, a2.fr (fun c h1 h2 => hF c (by omega)), a3.fr (fun c h1 h2 => hF c (by omega)), a4.fr (fun c h1 h2 => hF c (by omega)), fun hk => (a5 hk).fr (fun c h1 h2 => hF c (by omega)), fun hk => (a6 hk).fr (fun c h1 h2 => hF c (by omega)), ?_, ?_, up_s⟩
  · rw [hF _ (by omega), hF _ (by omega)]; exact a1
  · rw [up_j (by omega), up_j (by omega)]; exact a7
  · rw [up_j (by omega), up_s]
theorem AR.sil (hR : AR M u tx n ea K S d0 s A kp A1 A2 Z) {Z' : Tx} (h : M' u 12 = nI Z'.1 ∧ ∀ k, k < Z'.1 → M' (u + 11) k = nI (Z'.2 k)) (hF : ∀ c, c ≠ u → c ≠ u + 11 → M' c = M c) (hF2 : ∀ k, k ≠ 12 → M' u k = M u k) : AR M' u tx n ea K S d0 s A kp A1 A2 Z' := by
  obtain ⟨a1, a2, a3, a4, ⟨c0, c1, c2, ck, cs, cd⟩, a6, a7, a8, a9, a10, a11⟩ := hR
  refine ⟨?_, ?_, ?_, ?_, ⟨?_, ?_, ?_, ?_, ?_, ?_⟩, a6.fr (fun c h1 h2 => hF c (by omega) (by omega)), fun hk => (a7 hk).fr (fun c h1 h2 => hF c (by omega) (by omega)), fun hk => (a8 hk).fr (fun c h1 h2 => hF c (by omega) (by omega)), (hF2 _ (by omega)).trans a9, h.1, h.2⟩
  · rw [hF2 _ (by omega), hF _ (by omega) (by omega)]; exact a1
  · rw [hF _ (by omega) (by omega)]; exact a2
  · rw [hF _ (by omega) (by omega)]; exact a3
  · rw [hF _ (by omega) (by omega)]; exact a4
  · rw [hF _ (by omega) (by omega)]; exact c0
  · rw [hF _ (by omega) (by omega)]; exact c1
  · rw [hF _ (by omega) (by omega)]; exact c2
  · rw [hF _ (by omega) (by omega)]; exact ck
  · rw [hF _ (by omega) (by omega)]; exact cs
  · rw [hF _ (by omega) (by omega)]; exact cd
theorem P_forget (hC : AC M t tx n ea K S d0 s A kp A1 A2 Z) (hR : AR M u tx n ea K S d0 s A kp A1 A2 Z) (hV : SV tx n ea K S d0 s A kp A1 A2 Z) (htu : t + 44 ≤ u) : PS t u M (X5_forget t) (X6_forget u) := by
  have hC1 : AC (me_upd (me_upd M t 9 (nI 0)) t 10 (nI 0)) t tx n ea K S d0 s A kp A1 A2 (0, Z.2) := hC.sil (Z' := (0, Z.2))
  have hR1 : AR (me_upd (me_upd M t 9 (nI 0)) t 10 (nI 0)) u tx n ea K S d0 s A kp A1 A2 Z := hR.out (fun c h1 h2 => by rw [up_c (by omega), up_c (by omega)])
  obtain ⟨v1, v2, v3, v4, v5, v6, v7, v8, v9, v10, v11, v12, v13⟩ := hV
  refine PS.of (v := nI Z.1) (Z := (0, Z.2)) htu ?_ hC1 ?_ (hR1.sil (M' := me_upd (me_upd (me_upd M t 9 (nI 0)) t 10 (nI 0)) u 12 (nI 0)) ⟨up_s, fun k hk => by cases hk⟩ (fun c h1 h2 => up_c h1) (fun k hk => up_j hk)) (Fr.up (by omega) (by omega)) ⟨v1, v2, v3, v4, v5, v6, v7, v8, v9, v10, v11, by show 0 ≤ 6; omega, fun k hk => by cases hk⟩
  · unfold X5_forget X5_forgetSilence
    rw [hC.2.2.2.2.2.2.2.1]
    rfl
  · unfold X6_forget
    rw [hR1.2.2.2.2.2.2.2.2.2.1]
    rfl
theorem zb_add {a : Nat} : zb (t_add Z a) = zb Z ||| 2 ^ a := by
  unfold zb
  show (fo _ Z.1 0) ||| 2 ^ (if Z.1 = Z.1 then a else Z.2 Z.1) = _
  rw [if_pos rfl, fo_ext (g := fun k x => x ||| 2 ^ Z.2 k) Z.1 0 (fun i z hi => ?_)]
  show z ||| 2 ^ (if i = Z.1 then a else Z.2 i) = _
  rw [if_neg (by omega)]
theorem P_silent {x : Int32} (hC : AC M t tx n ea K S d0 s A kp A1 A2 Z) (hR : AR M u tx n ea K S d0 s A kp A1 A2 Z) (hV : SV tx n ea K S d0 s A kp A1 A2 Z) (htu : t + 44 ≤ u) : PS t u M (X5_silent t x) (X6_silent u x) := by
  obtain ⟨v1, v2, v3, v4, v5, v6, v7, v8, v9, v10, v11, v12, v13⟩ := id hV
  rcases inR_c (lo := 0) (hi := 3) (x := x) (by omega) (by omega) with ⟨h, a, ha1, ha2, rfl⟩ | ⟨h, h2⟩
  · by_cases hf : Z.1 < 6
    · have hC1 : AC (me_upd (me_upd M t 9 (nI (Z.1 + 1))) t 10 (nI (zb Z ||| 2 ^ a))) t tx n ea K S d0 s A kp A1 A2 (t_add Z a) := by
        have := hC.sil (Z' := t_add Z a)
        rw [zb_add] at this
        exact this
      have hR1 : AR (me_upd (me_upd M t 9 (nI (Z.1 + 1))) t 10 (nI (zb Z ||| 2 ^ a))) u tx n ea K S d0 s A kp A1 A2 Z := hR.out (fun c h1 h2 => by rw [up_c (by omega), up_c (by omega)])
      generalize hM1 : me_upd (me_upd M t 9 (nI (Z.1 + 1))) t 10 (nI (zb Z ||| 2 ^ a)) = M1 at hC1 hR1
      have e0 : me_upd M1 (u + 11) Z.1 (nI a) u 12 = nI Z.1 := by rw [up_c (by omega)]; exact hR1.2.2.2.2.2.2.2.2.2.1
      refine PS.of (v := nI (Z.1 + 1)) (M1 := M1) (M2 := me_upd (me_upd M1 (u + 11) Z.1 (nI a)) u 12 (nI (Z.1 + 1))) (Z := t_add Z a) htu ?_ hC1 ?_ (hR1.sil (M' := me_upd (me_upd M1 (u + 11) Z.1 (nI a)) u 12 (nI (Z.1 + 1))) ⟨up_s, fun k hk => ?_⟩ (fun c h1 h2 => by rw [up_c h1, up_c h2]) (fun k hk => by rw [up_j hk, up_c (by omega)])) ((Fr.up (by omega) (by omega)).tr (Fr.up (by omega) (by omega))) ⟨v1, v2, v3, v4, v5, v6, v7, v8, v9, v10, v11, by show Z.1 + 1 ≤ 6; omega, fun k hk => ?_⟩
      · unfold X5_silent
        rw [hC.2.2.2.2.2.2.2.1, if_neg (nI_pos (by omega)), if_pos (show nI a < (4 : Int32) from nI_lt (b := 4) (by omega) (by omega)), if_pos (show nI Z.1 < (6 : Int32) from nI_lt (b := 6) hf (by omega)), zz_put, nl1, nI_add, zz_put, ← nl1, up_j (M := M) (by omega), hC.2.2.2.2.2.2.2.2, zz_shl (by omega), fa_or]
        rw [hM1, hC1.2.2.2.2.2.2.2.1]
        rfl
      · unfold X6_silent
        rw [show X6_in (nI a).toInt64 0 3 M1 = _ from X6_in_s (lo := 0) (hi := 3), h, zz_call, if_pos (by decide), hR1.2.2.2.2.2.2.2.2.2.1]
        simp (disch := omega) only [nl0, nl1, nl2, nl3, nl4, nl5, nl6, nl7, nl8, nl9, nl10, nl32, nl40, nl44, nl48, nl57, nl59, nl60, nl63, nl64, nl99, nl100, nl101, nl111, nl112, nl126, nl128, nl200, nl504, nl9999, nl65521, zz_ald, zz_ast, zz_let, zz_call, zz_put, zz_rem, zz_div, zz_rz, zz_rz0, zz_rz1, pk_mul, nI_add, pk_sub, b2_0, b2_1, nI_leI, nI_ltI, nI_eq, e0, up_s]
        rw [if_pos (by omega)]
      · rw [up_c (by omega)]
        by_cases hz : k = Z.1
        · rw [hz, up_s]
          show nI a = nI (if Z.1 = Z.1 then a else Z.2 Z.1)
          rw [if_pos rfl]
        · rw [up_j hz]
          show _ = nI (if k = Z.1 then a else Z.2 k)
          rw [if_neg hz]
          exact hR1.2.2.2.2.2.2.2.2.2.2 k (by change k < Z.1 + 1 at hk; omega)
      · show (if k = Z.1 then a else Z.2 k) ≤ 3
        split
        · exact ha2
        · exact v13 k (by change k < Z.1 + 1 at hk; omega)
    · refine PS.ro (v := -3) hC hR hV htu ⟨M, ?_, Sc.rf⟩ (fun M1 hR1 => ⟨M1, ?_, ScR.rf⟩)
      · unfold X5_silent
        rw [hC.2.2.2.2.2.2.2.1, if_neg (nI_pos (by omega)), if_pos (show nI a < (4 : Int32) from nI_lt (b := 4) (by omega) (by omega)), if_neg (show ¬ nI Z.1 < (6 : Int32) from nI_nlt (b := 6) (by omega) (by omega))]
      · unfold X6_silent
        rw [show X6_in (nI a).toInt64 0 3 M1 = _ from X6_in_s (lo := 0) (hi := 3), h, zz_call, if_pos (by decide), hR1.2.2.2.2.2.2.2.2.2.1, show Z.1 = 6 by omega, if_neg (by decide)]
  · refine PS.ro (v := -1) hC hR hV htu ⟨M, ?_, Sc.rf⟩ (fun M1 hR1 => ⟨M1, ?_, ScR.rf⟩)
    · unfold X5_silent
      rcases h2 with h2 | h2
      · rw [if_pos (show x < 0 from h2)]
      · by_cases h3 : x < 0
        · rw [if_pos h3]
        · rw [if_neg h3, if_neg]
          rw [nl4, Int32.lt_iff_toInt_lt, nI_toInt (by omega)]
          rw [Int32.lt_iff_toInt_lt, nI_toInt (by omega)] at h2
          omega
    · unfold X6_silent
      rw [show X6_in x.toInt64 0 3 M1 = _ from X6_in_s (lo := 0) (hi := 3), h, zz_call, if_neg (by decide)]
theorem P_count {x : Int32} (hC : AC M t tx n ea K S d0 s A kp A1 A2 Z) (hR : AR M u tx n ea K S d0 s A kp A1 A2 Z) (hV : SV tx n ea K S d0 s A kp A1 A2 Z) (htu : t + 44 ≤ u) : PS t u M (X5_count t x) (X6_count u x) := by
  have hV1 := hV.2.2.2.2.2.1
  have qa := hV1.al
  have go : ∀ v, X5_count t x M = some (v, M) → (∀ M1, AR M1 u tx n ea K S d0 s A kp A1 A2 Z → X6_count u x M1 = some (v, M1)) → PS t u M (X5_count t x) (X6_count u x) :=
    fun v h1 h2 => PS.ro (v := v) hC hR hV htu ⟨M, h1, Sc.rf⟩ (fun M1 hR1 => ⟨M1, h2 M1 hR1, ScR.rf⟩)
  by_cases c0 : x = 0
  · subst c0
    refine go (nI n) ?_ (fun M1 hR1 => ?_)
    · unfold X5_count
      rw [if_pos rfl]
      unfold X4_persons
      rw [zz_call, hC.2.2.1.1]
    · unfold X6_count
      rw [if_pos rfl]
      rw [nl0, zz_ald (by omega) (by omega), hR1.2.1]
  by_cases c1 : x = 1
  · subst c1
    refine go (nI (pc s.1)) ?_ (fun M1 hR1 => ?_)
    · unfold X5_count
      rw [if_neg (by decide), if_pos rfl]
      unfold X4_aliveBits
      rw [zz_call, hC.2.2.1.2.2.2.1, J6_bitCount_s qa, zz_call]
    · unfold X6_count
      rw [if_neg (by decide), if_pos rfl]
      rw [nl0, zz_ald (by omega) (by omega), hR1.2.2.2.2.1.2.2.1, X6_bits_s qa, zz_call]
  by_cases c2 : x = 2
  · subst c2
    refine go (nI s.2.1) ?_ (fun M1 hR1 => ?_)
    · unfold X5_count
      rw [if_neg (by decide), if_neg (by decide), if_pos rfl]
      unfold X4_day
      rw [zz_call, hC.2.2.1.2.1]
    · unfold X6_count
      rw [if_neg (by decide), if_neg (by decide), if_pos rfl]
      rw [nl0, zz_ald (by omega) (by omega), hR1.2.2.2.2.1.2.1]
  by_cases c3 : x = 3
  · subst c3
    refine go (nI (d_all s.2.2)) ?_ (fun M1 hR1 => ?_)
    · unfold X5_count
      rw [if_neg (by decide), if_neg (by decide), if_neg (by decide), if_pos rfl]
      rw [X4_allOwed_s hC.2.2.1 hV1, zz_call]
    · unfold X6_count
      rw [if_neg (by decide), if_neg (by decide), if_neg (by decide), if_pos rfl]
      rw [nl0, X6_allOf_s hR1.2.2.2.2.1 (by omega), zz_call]
  by_cases c4 : x = 4
  · subst c4
    refine go (nI A.1) ?_ (fun M1 hR1 => ?_)
    · unfold X5_count
      rw [if_neg (by decide), if_neg (by decide), if_neg (by decide), if_neg (by decide), if_pos rfl]
      unfold X0_size
      rw [zz_call, hC.2.2.2.1.1]
    · unfold X6_count
      rw [if_neg (by decide), if_neg (by decide), if_neg (by decide), if_neg (by decide), if_pos rfl]
      rw [nl0, zz_ald (by omega) (by omega), hR1.2.2.2.2.2.1.1]
  by_cases c5 : x = 5
  · subst c5
    exact go (nI Z.1) (congrArg (fun q => some (q, M)) hC.2.2.2.2.2.2.2.1) (fun M1 hR1 => congrArg (fun q => some (q, M1)) hR1.2.2.2.2.2.2.2.2.2.1)
  by_cases c6 : x = 6
  · subst c6
    exact go (nI kp) (congrArg (fun q => some (q, M)) hC.2.2.2.2.2.2.1) (fun M1 hR1 => congrArg (fun q => some (q, M1)) hR1.2.2.2.2.2.2.2.2.1)
  by_cases c7 : x = 7
  · subst c7
    refine go (nI tx.1) ?_ (fun M1 hR1 => congrArg (fun q => some (q, M1)) hR1.1.1)
    unfold X5_count
    rw [if_neg (by decide), if_neg (by decide), if_neg (by decide), if_neg (by decide), if_neg (by decide), if_neg (by decide), if_neg (by decide), if_pos rfl]
    unfold X1_length
    rw [zz_call, hC.1.1]
  · refine go (-1) ?_ (fun M1 hR1 => ?_)
    · unfold X5_count
      rw [if_neg c0, if_neg c1, if_neg c2, if_neg c3, if_neg c4, if_neg c5, if_neg c6, if_neg c7]
    · unfold X6_count
      rw [if_neg c0, if_neg c1, if_neg c2, if_neg c3, if_neg c4, if_neg c5, if_neg c6, if_neg c7]
end OPS1
