/-! ===== which one debt forgiven would free most ===== -/
theorem cn_sur {P : Nat → Bool} : ∀ (N r : Nat), r < cn P N → ∃ q, q < N ∧ P q = true ∧ cn P q = r := by
  intro N
  induction N with
  | zero => intro r h; cases h
  | succ N ih =>
    intro r h
    by_cases hr : r < cn P N
    · obtain ⟨q, h1, h2, h3⟩ := ih r hr
      exact ⟨q, by omega, h2, h3⟩
    · change r < cn P N + (if P N = true then 1 else 0) at h
      by_cases hp : P N = true
      · rw [if_pos hp] at h
        exact ⟨N, by omega, hp, by omega⟩
      · rw [if_neg hp] at h
        omega
def fg1 (v q : Nat) (x : Option (Nat × Nat)) : Option (Nat × Nat) := x.elim (some (q, v)) (fun p => if v < p.2 then some (q, v) else some p)
def fgF (K : Nat → Nat) (day : Nat) (d : Dm) (N : Nat) : Option (Nat × Nat) := fo (fun q x => if poP d q = true then fg1 (o_left K day (d_one d q)) q x else x) N none
def fgb (x : Option (Nat × Nat)) : Int32 := x.elim (-4) (fun p => nI p.1)
def fgl (z : Int32) (x : Option (Nat × Nat)) : Int32 := x.elim z (fun p => nI p.2)
theorem fgb_s {p : Nat × Nat} : fgb (some p) = nI p.1 := rfl
theorem fgl_s {z : Int32} {p : Nat × Nat} : fgl z (some p) = nI p.2 := rfl
section FORG
variable {M M' : Mem} {t u n ea kp i j c kind : Nat} {K S : Nat → Nat} {d0 d : Dm} {s : Ts} {A A1 A2 : Al} {tx Z : Tx}
theorem P_forgiven {x : Int32} (hC : AC M t tx n ea K S d0 s A kp A1 A2 Z) (hR : AR M u tx n ea K S d0 s A kp A1 A2 Z) (hV : SV tx n ea K S d0 s A kp A1 A2 Z) (htu : t + 44 ≤ u) : PS t u M (X5_forgiven t x) (X6_forgiven u x) := by
  have hd := hV.day
  have hn7 := hV.2.2.2.2.1.1
  have hV1 := hV.2.2.2.2.2.1
  cases h : inR 0 1 x with
  | false =>
    refine PS.ro (v := -1) hC hR hV htu ⟨M, ?_, Sc.rf⟩ (fun M1 hR1 => ⟨M1, ?_, ScR.rf⟩)
    · unfold X5_forgiven
      rw [X5_zo_s, h, zz_call, if_neg (by decide)]
    · unfold X6_forgiven
      rw [show X6_in x.toInt64 0 1 M1 = _ from X6_in_s (lo := 0) (hi := 1), h, zz_call, if_neg (by decide)]
  | true =>
    refine PS.ro (v := if x = 0 then fgb (fgF K s.2.1 s.2.2 64) else fgl (-4) (fgF K s.2.1 s.2.2 64)) hC hR hV htu ?_ (fun M1 hR1 => ?_)
    · obtain ⟨M1, e1, hP1, hS1⟩ := X5_listDebts_s hC hV1
      have hc := cn42 hV1
      obtain ⟨pf, hpf⟩ : ∃ pf : Nat → Nat, pf = fun r => (M1 (t + 43) r).toNatClampNeg := ⟨_, rfl⟩
      have hpq : ∀ q, q < 64 → poP s.2.2 q = true → pf (cn (poP s.2.2) q) = q := fun q hq hp => by
        rw [hpf]
        show (M1 (t + 43) (cn (poP s.2.2) q)).toNatClampNeg = q
        rw [hP1 q hq hp, nI_clamp (by omega)]
      have hrq : ∀ r, r < cn (poP s.2.2) 64 → pf r < 64 ∧ M1 (t + 43) r = nI (pf r) := fun r hr => by
        obtain ⟨q, h1, h2, h3⟩ := cn_sur 64 r hr
        have := hpq q h1 h2
        rw [h3] at this
        rw [this]
        refine ⟨h1, ?_⟩
        rw [← h3]
        exact hP1 q h1 h2
      have hfo := fo_cn (P := poP s.2.2) (F := fun q x => fg1 (o_left K s.2.1 (d_one s.2.2 q)) q x) (pf := pf) 64 (none : Option (Nat × Nat)) hpq
      unfold X5_forgiven
      rw [X5_zo_s, h, zz_call, if_pos (by decide), e1, zz_call]
      unfold fgF
      rw [hfo]
      refine lp (S := Int32 × Int32 × Int32 × Mem) (fun f z => X5_forgiven_24 t x (nI (cn (poP s.2.2) 64)) f z.1 z.2.1 z.2.2.1 z.2.2.2) (fun k z => (∀ a, a = fo (fun r x => fg1 (o_left K s.2.1 (d_one s.2.2 (pf r))) (pf r) x) k (none : Option (Nat × Nat)) → z.1 = fgb a ∧ z.2.1 = fgl (-4) a ∧ ∀ p, a = some p → p.1 < 64 ∧ p.2 ≤ 441) ∧ z.2.2.1 = nI k ∧ Sc t M z.2.2.2 ∧ z.2.2.2 (t + 43) = M1 (t + 43)) (fun r => ∃ M1, r = some (if x = 0 then fgb (fo (fun r x => fg1 (o_left K s.2.1 (d_one s.2.2 (pf r))) (pf r) x) (cn (poP s.2.2) 64) (none : Option (Nat × Nat))) else fgl (-4) (fo (fun r x => fg1 (o_left K s.2.1 (d_one s.2.2 (pf r))) (pf r) x) (cn (poP s.2.2) 64) (none : Option (Nat × Nat))), M1) ∧ Sc t M M1) (cn (poP s.2.2) 64) ?_ ?_ 0 FU (-4, -4, nI 0, M1) (by omega) (FU_lt (by omega)) ⟨fun a ha => by rw [ha]; exact ⟨rfl, rfl, fun p hp => by cases hp⟩, rfl, hS1, rfl⟩
      · intro k f z hk ⟨hI, e3, hS2, h43⟩
        obtain ⟨y1, y2, y3, M2⟩ := z
        dsimp only at hI e3 hS2 h43
        subst e3
        left
        have er : fo (fun r x => fg1 (o_left K s.2.1 (d_one s.2.2 (pf r))) (pf r) x) (k + 1) (none : Option (Nat × Nat)) = fg1 (o_left K s.2.1 (d_one s.2.2 (pf k))) (pf k) (fo (fun r x => fg1 (o_left K s.2.1 (d_one s.2.2 (pf r))) (pf r) x) k none) := rfl
        rw [er]
        generalize fo (fun r x => fg1 (o_left K s.2.1 (d_one s.2.2 (pf r))) (pf r) x) k (none : Option (Nat × Nat)) = a at hI
        obtain ⟨i1, i2, i3⟩ := hI a rfl
        subst i1 i2
        obtain ⟨g1, g2⟩ := hrq k hk
        have hC2 := hC.sc hS2
        obtain ⟨M3, e3, hF3, hb3⟩ := hC2.left1 hV (r := k) (q := pf k) (by rw [h43]; exact g2) (by omega) g1
        have h43' : M3 (t + 43) = M1 (t + 43) := by rw [hF3 _ (by omega)]; exact h43
        show ∃ s', X5_forgiven_24 t x (nI (cn (poP s.2.2) 64)) (f + 1) (fgb a) (fgl (-4) a) (nI k) M2 = _ ∧ _
        rw [X5_forgiven_24, if_neg (nI_ge hk (by omega)), e3, zz_call]
        cases a with
        | none =>
          rw [if_pos (by rfl), zz_ald (by omega) (by omega), h43', g2, nI_1]
          exact ⟨(nI (pf k), nI (o_left K s.2.1 (d_one s.2.2 (pf k))), nI (k + 1), M3), rfl, fun a ha => by rw [ha]; exact ⟨rfl, rfl, fun p hp => by cases hp; exact ⟨g1, hb3⟩⟩, rfl, hS2.tr (Sc.tri hF3), h43'⟩
        | some p =>
          obtain ⟨i4, i5⟩ := i3 p rfl
          rw [fgb_s, fgl_s, if_neg (show ¬ nI p.1 = (-4 : Int32) from fun e => by
            have h := nI_pos' (n := p.1) (by omega)
            rw [e] at h
            exact absurd h (by decide))]
          by_cases hl : o_left K s.2.1 (d_one s.2.2 (pf k)) < p.2
          · have ef : fg1 (o_left K s.2.1 (d_one s.2.2 (pf k))) (pf k) (some p) = some (pf k, o_left K s.2.1 (d_one s.2.2 (pf k))) := if_pos hl
            rw [ef, if_neg (show ¬ nI p.2 ≤ _ from nI_ge hl (by omega)), zz_ald (by omega) (by omega), h43', g2, nI_1]
            exact ⟨(nI (pf k), nI (o_left K s.2.1 (d_one s.2.2 (pf k))), nI (k + 1), M3), rfl, fun a ha => by rw [ha]; exact ⟨rfl, rfl, fun p hp => by cases hp; exact ⟨g1, hb3⟩⟩, rfl, hS2.tr (Sc.tri hF3), h43'⟩
          · have ef : fg1 (o_left K s.2.1 (d_one s.2.2 (pf k))) (pf k) (some p) = some p := if_neg hl
            rw [ef, if_pos (show nI p.2 ≤ _ from nI_le (by omega) (by omega)), nI_1]
            exact ⟨(nI p.1, nI p.2, nI (k + 1), M3), rfl, fun a ha => by rw [ha]; exact ⟨rfl, rfl, fun p' hp => by cases hp; exact ⟨i4, i5⟩⟩, rfl, hS2.tr (Sc.tri hF3), h43'⟩
      · intro f z ⟨hI, e3, hS2, h43⟩
        obtain ⟨y1, y2, y3, M2⟩ := z
        dsimp only at hI e3 hS2 h43
        subst e3
        obtain ⟨i1, i2, i3⟩ := hI _ rfl
        refine ⟨M2, ?_, hS2⟩
        show X5_forgiven_24 t x (nI (cn (poP s.2.2) 64)) (f + 1) y1 y2 (nI (cn (poP s.2.2) 64)) M2 = _
        rw [X5_forgiven_24, if_pos (nI_le (Nat.le_refl _) (by omega)), i1, i2]
        by_cases hx : x = 0
        · rw [if_neg (not_not_intro hx), if_pos hx]
        · rw [if_pos hx, if_neg hx]
    · unfold X6_forgiven
      rw [show X6_in x.toInt64 0 1 M1 = _ from X6_in_s (lo := 0) (hi := 1), h, zz_call, if_pos (by decide)]
      refine lp (S := Int32 × Int32 × Int32 × Mem) (fun f z => X6_forgiven_20 u x f z.1 z.2.1 z.2.2.1 z.2.2.2) (fun k z => (∀ a, a = fgF K s.2.1 s.2.2 k → z.1 = fgb a ∧ z.2.1 = fgl 0 a ∧ ∀ p, a = some p → p.1 < 64 ∧ p.2 ≤ 441) ∧ z.2.2.1 = nI k ∧ ScR u M1 z.2.2.2) (fun r => ∃ M2, r = some (if x = 0 then fgb (fgF K s.2.1 s.2.2 64) else fgl (-4) (fgF K s.2.1 s.2.2 64), M2) ∧ ScR u M1 M2) 64 ?_ ?_ 0 FU (-4, 0, nI 0, M1) (by omega) (FU_lt (by omega)) ⟨fun a ha => by rw [ha]; exact ⟨rfl, rfl, fun p hp => by cases hp⟩, rfl, ScR.rf⟩
      · intro k f z hk ⟨hI, e3, hS2⟩
        obtain ⟨y1, y2, y3, M2⟩ := z
        dsimp only at hI e3 hS2
        subst e3
        left
        have er : fgF K s.2.1 s.2.2 (k + 1) = if poP s.2.2 k = true then fg1 (o_left K s.2.1 (d_one s.2.2 k)) k (fgF K s.2.1 s.2.2 k) else fgF K s.2.1 s.2.2 k := rfl
        rw [er]
        generalize fgF K s.2.1 s.2.2 k = a at hI
        obtain ⟨i1, i2, i3⟩ := hI a rfl
        subst i1 i2
        have hR2 := hR1.sc hn7 hS2
        have hdk : M2 (u + 13) k = nI (s.2.2 (k / 8) (k % 8)) := by
          have := hR2.2.2.2.2.1.2.2.2.2.2 (k / 8) (k % 8) (by omega) (by omega)
          rw [show 64 * 0 + 8 * (k / 8) + k % 8 = k by omega] at this
          exact this
        have q9 := hV1.2.2.2.1 (k / 8) (k % 8)
        show ∃ s', X6_forgiven_20 u x (f + 1) (fgb a) (fgl 0 a) (nI k) M2 = _ ∧ _
        rw [X6_forgiven_20, if_neg (show ¬ (64 : Int32) ≤ nI k from nI_ge (b := 64) hk (by omega)), zz_ald (by omega) (by omega), hdk]
        by_cases hp : 0 < s.2.2 (k / 8) (k % 8)
        · have hpo : poP s.2.2 k = true := decide_eq_true hp
          obtain ⟨M3, M4, e3, e4, hS4⟩ := hR2.left1 hV hk
          rw [if_neg (nI_nle hp (by omega)), show X6_copy u 0 1 M2 = _ from e3, zz_call, show (64 : Int32) + nI k = nI (64 + k) from nI_add 64 k, zz_ast (by omega) (by omega), show X6_owedBehind u 1 (me_upd M3 (u + 13) (64 + k) 0) = _ from e4, zz_call, if_pos hpo]
          have hb : o_left K s.2.1 (d_one s.2.2 k) ≤ 441 := by
            obtain ⟨M5, e5, hT5, _⟩ := X6_copy_s (b := 1) hR2.2.2.2.2.1 (by omega) (by omega) (by omega)
            obtain ⟨_, _, _, _, hV6⟩ := X6_makePeace_s (hT5.one hk) (d_one_ok hV1) (by omega) (by omega)
            exact hV6.all7
          cases a with
          | none =>
            rw [if_pos (show fgb none < 0 from by decide), nI_1]
            exact ⟨(nI k, nI (o_left K s.2.1 (d_one s.2.2 k)), nI (k + 1), M4), rfl, fun a ha => by rw [ha]; exact ⟨rfl, rfl, fun p hp => by cases hp; exact ⟨hk, hb⟩⟩, rfl, hS2.tr hS4⟩
          | some p =>
            obtain ⟨i4, i5⟩ := i3 p rfl
            rw [fgb_s, fgl_s, if_neg (show ¬ nI p.1 < 0 from nI_pos (by omega))]
            by_cases hl : o_left K s.2.1 (d_one s.2.2 k) < p.2
            · have ef : fg1 (o_left K s.2.1 (d_one s.2.2 k)) k (some p) = some (k, o_left K s.2.1 (d_one s.2.2 k)) := if_pos hl
              rw [ef, if_neg (show ¬ nI p.2 ≤ _ from nI_ge hl (by omega)), nI_1]
              exact ⟨(nI k, nI (o_left K s.2.1 (d_one s.2.2 k)), nI (k + 1), M4), rfl, fun a ha => by rw [ha]; exact ⟨rfl, rfl, fun p hp => by cases hp; exact ⟨hk, hb⟩⟩, rfl, hS2.tr hS4⟩
            · have ef : fg1 (o_left K s.2.1 (d_one s.2.2 k)) k (some p) = some p := if_neg hl
              rw [ef, if_pos (show nI p.2 ≤ _ from nI_le (by omega) (by omega)), nI_1]
              exact ⟨(nI p.1, nI p.2, nI (k + 1), M4), rfl, fun a ha => by rw [ha]; exact ⟨rfl, rfl, fun p' hp => by cases hp; exact ⟨i4, i5⟩⟩, rfl, hS2.tr hS4⟩
        · have hpo : ¬ poP s.2.2 k = true := by unfold poP; rw [decide_eq_true_iff]; exact hp
          rw [if_pos (show nI (s.2.2 (k / 8) (k % 8)) ≤ 0 from nI_le (b := 0) (by omega) (by omega)), if_neg hpo, nI_1]
          exact ⟨(fgb a, fgl 0 a, nI (k + 1), M2), rfl, fun a' ha => by rw [ha]; exact ⟨rfl, rfl, i3⟩, rfl, hS2⟩
      · intro f z ⟨hI, e3, hS2⟩
        obtain ⟨y1, y2, y3, M2⟩ := z
        dsimp only at hI e3 hS2
        subst e3
        obtain ⟨i1, i2, i3⟩ := hI _ rfl
        refine ⟨M2, ?_, hS2⟩
        show X6_forgiven_20 u x (f + 1) y1 y2 (nI 64) M2 = _
        rw [X6_forgiven_20, if_pos (by decide), i1, i2]
        generalize fgF K s.2.1 s.2.2 64 = a at i3
        cases a with
        | none =>
          rw [if_pos (show fgb none < 0 from by decide)]
          by_cases hx : x = 0
          · rw [if_pos hx]
          · rw [if_neg hx]; rfl
        | some p =>
          obtain ⟨i4, i5⟩ := i3 p rfl
          rw [fgb_s, fgl_s, if_neg (show ¬ nI p.1 < 0 from nI_pos (by omega))]
          by_cases hx : x = 0
          · rw [if_neg (not_not_intro hx), if_pos hx]
          · rw [if_pos hx, if_neg hx]; rfl
end FORG
