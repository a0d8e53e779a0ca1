/-! ===== PEACE as the class makes it ===== -/
section PEACEC
variable {M : Mem} {t n day ea al i j : Nat} {K S : Nat → Nat} {d : Dm}
def BS (K : Nat → Nat) (day n al c : Nat) (d : Dm) (c' : Nat) (d' : Dm) (A : Nat → Nat → Prop) : Prop :=
  t_ok n al K d' ∧ c ≤ c' ∧ c' + d_all d' ≤ c + d_all d ∧ bwF K day d = ((bwF K day d').1 + (c' - c), (bwF K day d').2) ∧ (c' = c → d' = d ∧ ∀ a b, A a b → p_en K day d a b = false)
theorem BS.rf {c : Nat} (hV : t_ok n al K d) {A : Nat → Nat → Prop} (hA : ∀ a b, A a b → p_en K day d a b = false) : BS K day n al c d c d A :=
  ⟨hV, Nat.le_refl _, Nat.le_refl _, by rw [Nat.sub_self]; rfl, fun _ => ⟨rfl, hA⟩⟩
theorem BS.tr {c c1 c2 : Nat} {d1 d2 : Dm} {A B C : Nat → Nat → Prop} (h1 : BS K day n al c d c1 d1 A) (h2 : BS K day n al c1 d1 c2 d2 B) (hC : ∀ a b, C a b → A a b ∨ B a b) : BS K day n al c d c2 d2 C := by
  obtain ⟨v1, l1, s1, e1, q1⟩ := h1
  obtain ⟨v2, l2, s2, e2, q2⟩ := h2
  refine ⟨v2, by omega, by omega, ?_, fun hc => ?_⟩
  · rw [e1, e2]
    show (_ + (c2 - c1) + (c1 - c), _) = _
    rw [Nat.add_assoc, show c2 - c1 + (c1 - c) = c2 - c by omega]
  · obtain ⟨g1, g2⟩ := q1 (by omega)
    obtain ⟨g3, g4⟩ := q2 (by omega)
    subst g1
    subst g3
    refine ⟨rfl, fun a b hab => ?_⟩
    rcases hC a b hab with h | h
    · exact g2 a b h
    · exact g4 a b h
theorem BS.one {c : Nat} (hV : t_ok n al K d) {A : Nat → Nat → Prop} (he : p_en K day d i j = true) : BS K day n al c d (c + (if K i = 2 then 1 else d i j)) (d_up d i j 0) A := by
  have h0 := (p_en_iff.1 he).1
  obtain ⟨z1, z2, z3, z4, z5⟩ := hV.2.2.2.2 i j (by omega)
  have w := hV.1
  have e := d_all_up (d := d) (i := i) (j := j) (v := 0) (by omega) (by omega)
  have hf : 1 ≤ (if K i = 2 then 1 else d i j) ∧ (if K i = 2 then 1 else d i j) ≤ d i j := by split <;> omega
  refine ⟨hV.up (by omega) (fun h => absurd rfl h), by omega, by omega, ?_, fun hc => by omega⟩
  rw [Nat.add_sub_cancel_left]
  exact bwF_whole (d i j) d rfl (by omega) (by omega) z3 he
theorem p_en_row0 (h : d_row d i = 0) (hj : j < 8) : p_en K day d i j = false := by
  cases e : p_en K day d i j with
  | false => rfl
  | true =>
    have h0 := (p_en_iff.1 e).1
    have := d_sm_pos (f := d i) 8 hj
    unfold d_row at h
    omega
theorem X4_bow35_s {c : Nat} {x2 x3 : Int32} {k6 : Int32 → Int32 → Int32 → Mem → Option (Int32 × Mem)} {k23 : Int32 → Int32 → Mem → Option (Int32 × Mem)} (hT : TC M t n day ea al K S d) (hV : t_ok n al K d) (hday : day < 2 ^ 30) (hi : i < n) :
    ∃ M' c' d', X4_bowAllThatCanBe_35 t x2 x3 (nI i) k6 k23 FU (nI c) (nI 0) M = k23 (nI c') (nI (i + 1)) M' ∧ TC M' t n day ea al K S d' ∧ Fr t (t + 5) M M' ∧ BS K day n al c d c' d' (fun a b => a = i ∧ b < n) := by
  have w := hV.1
  have q3 := hV.2.2.1 i hi
  refine lp (S := Int32 × Int32 × Mem) (fun f s => X4_bowAllThatCanBe_35 t x2 x3 (nI i) k6 k23 f s.1 s.2.1 s.2.2) (fun k s => ∃ c' d', s.1 = nI c' ∧ s.2.1 = nI k ∧ TC s.2.2 t n day ea al K S d' ∧ Fr t (t + 5) M s.2.2 ∧ BS K day n al c d c' d' (fun a b => a = i ∧ b < k))
    (fun r => ∃ M' c' d', r = k23 (nI c') (nI (i + 1)) M' ∧ TC M' t n day ea al K S d' ∧ Fr t (t + 5) M M' ∧ BS K day n al c d c' d' (fun a b => a = i ∧ b < n)) n ?_ ?_ 0 FU (nI c, nI 0, M) (by omega) (FU_lt (by omega)) ⟨c, d, rfl, rfl, hT, Fr.rf, BS.rf hV (fun a b h => by omega)⟩
  · intro k f s hk ⟨c1, d1, e1, e2, hT1, hF1, hB1⟩
    obtain ⟨x, y, M1⟩ := s
    dsimp only at e1 e2 hT1 hF1
    subst e1 e2
    have hV1 := hB1.1
    obtain ⟨h0, h1, h2, h3, hkk, hs, hd, ho⟩ := id hT1
    have r1 := hV1.row i
    have q1 := hV1.2.2.2.1 i k
    show (∃ s', X4_bowAllThatCanBe_35 t x2 x3 (nI i) k6 k23 (f + 1) (nI c1) (nI k) M1 = _ ∧ _) ∨ _
    rw [X4_bowAllThatCanBe_35]
    simp (disch := omega) only [nl0, nl1, nl2, nl3, nl4, nl5, nl6, nl7, nl8, nl9, nl10, nl32, nl40, nl44, nl48, nl57, nl59, nl60, nl63, nl64, nl99, nl100, nl101, nl111, nl112, nl126, nl128, nl200, nl504, nl9999, nl65521, zz_ald, zz_ast, zz_let, zz_call, zz_put, zz_rem, zz_div, zz_rz, zz_rz0, zz_rz1, pk_mul, nI_add, pk_sub, b2_0, b2_1, nI_leI, nI_ltI, nI_eq, h0, ho, hkk, X4_canBow_s hT1 hV1, X4_paysToday_s hT1 hV1 hday hi, X4_debt_s hT1]
    rw [if_neg (by omega)]
    by_cases z : d_row d1 i = 0
    · right
      rw [if_pos (by omega)]
      refine ⟨M1, c1, d1, rfl, hT1, hF1, hB1.tr (BS.rf hV1 (A := fun a b => a = i ∧ b < n) (fun a b h => ?_)) (fun a b h => Or.inr h)⟩
      rw [h.1]
      exact p_en_row0 z (by omega)
    · left
      rw [if_neg (by omega)]
      by_cases e : p_en K day d1 i k = true
      · have he := e
        unfold p_en at he
        rw [Bool.and_eq_true] at he
        rw [if_neg (by simp [he.1]), if_neg (by simp [he.2])]
        obtain ⟨M2, e2, hT2, hF2⟩ := X4_setDebt_s (v := 0) hT1 (i := i) (j := k) (by omega) (by omega)
        refine ⟨(nI (c1 + (if K i = 2 then 1 else d1 i k)), nI (k + 1), M2), ?_, _, _, rfl, rfl, hT2, hF1.tr hF2, hB1.tr (BS.one hV1 (A := fun _ _ => True) e) (fun a b h => Or.inr trivial)⟩
        rw [e2]
        by_cases c2 : K i = 2
        · rw [if_neg (not_not_intro c2), if_pos c2]; rfl
        · rw [if_pos c2, if_neg c2]; rfl
      · refine ⟨(nI c1, nI (k + 1), M1), ?_, c1, d1, rfl, rfl, hT1, hF1, hB1.tr (BS.rf hV1 (A := fun a b => a = i ∧ b = k) (fun a b h => by rw [h.1, h.2]; simpa using e)) (fun a b h => by omega)⟩
        unfold p_en at e
        by_cases g : o_bow K d1 i k = false
        · rw [if_pos g]
        · rw [if_neg g, if_pos]
          simp only [Bool.and_eq_true, not_and, Bool.not_eq_true] at e
          exact e (by simpa using g)
  · intro f s ⟨c1, d1, e1, e2, hT1, hF1, hB1⟩
    obtain ⟨x, y, M1⟩ := s
    dsimp only at e1 e2 hT1 hF1
    subst e1 e2
    refine ⟨M1, c1, d1, ?_, hT1, hF1, hB1⟩
    show X4_bowAllThatCanBe_35 t x2 x3 (nI i) k6 k23 (f + 1) (nI c1) (nI n) M1 = _
    rw [X4_bowAllThatCanBe_35]
    simp (disch := omega) only [nl0, nl1, nl2, nl3, nl4, nl5, nl6, nl7, nl8, nl9, nl10, nl32, nl40, nl44, nl48, nl57, nl59, nl60, nl63, nl64, nl99, nl100, nl101, nl111, nl112, nl126, nl128, nl200, nl504, nl9999, nl65521, zz_ald, zz_ast, zz_let, zz_call, zz_put, zz_rem, zz_div, zz_rz, zz_rz0, zz_rz1, pk_mul, nI_add, pk_sub, b2_0, b2_1, nI_leI, nI_ltI, nI_eq, hT1.1]
    rw [if_pos (by omega)]
theorem X4_bow23_s {c : Nat} {x2 x3 : Int32} {k6 : Int32 → Int32 → Int32 → Mem → Option (Int32 × Mem)} (hT : TC M t n day ea al K S d) (hV : t_ok n al K d) (hday : day < 2 ^ 30) :
    ∃ M' c' d', X4_bowAllThatCanBe_23 t x2 x3 k6 FU (nI c) (nI 0) M = k6 (nI c') x2 (x3 + nI 1) M' ∧ TC M' t n day ea al K S d' ∧ Fr t (t + 5) M M' ∧ BS K day n al c d c' d' (fun a b => a < n ∧ b < n) := by
  have w := hV.1
  refine lp (S := Int32 × Int32 × Mem) (fun f s => X4_bowAllThatCanBe_23 t x2 x3 k6 f s.1 s.2.1 s.2.2) (fun k s => ∃ c' d', s.1 = nI c' ∧ s.2.1 = nI k ∧ TC s.2.2 t n day ea al K S d' ∧ Fr t (t + 5) M s.2.2 ∧ BS K day n al c d c' d' (fun a b => a < k ∧ b < n))
    (fun r => ∃ M' c' d', r = k6 (nI c') x2 (x3 + nI 1) M' ∧ TC M' t n day ea al K S d' ∧ Fr t (t + 5) M M' ∧ BS K day n al c d c' d' (fun a b => a < n ∧ b < n)) n ?_ ?_ 0 FU (nI c, nI 0, M) (by omega) (FU_lt (by omega)) ⟨c, d, rfl, rfl, hT, Fr.rf, BS.rf hV (fun a b h => by omega)⟩
  · intro k f s hk ⟨c1, d1, e1, e2, hT1, hF1, hB1⟩
    obtain ⟨x, y, M1⟩ := s
    dsimp only at e1 e2 hT1 hF1
    subst e1 e2
    left
    obtain ⟨M2, c2, d2, e3, hT2, hF2, hB2⟩ := X4_bow35_s (c := c1) (x2 := x2) (x3 := x3) (k6 := k6) (k23 := X4_bowAllThatCanBe_23 t x2 x3 k6 f) hT1 hB1.1 hday hk
    refine ⟨(nI c2, nI (k + 1), M2), ?_, c2, d2, rfl, rfl, hT2, hF1.tr hF2, hB1.tr hB2 (fun a b h => by omega)⟩
    show X4_bowAllThatCanBe_23 t x2 x3 k6 (f + 1) (nI c1) (nI k) M1 = X4_bowAllThatCanBe_23 t x2 x3 k6 f (nI c2) (nI (k + 1)) M2
    rw [X4_bowAllThatCanBe_23, hT1.1]
    simp (disch := omega) only [nl0, nl1, nl2, nl3, nl4, nl5, nl6, nl7, nl8, nl9, nl10, nl32, nl40, nl44, nl48, nl57, nl59, nl60, nl63, nl64, nl99, nl100, nl101, nl111, nl112, nl126, nl128, nl200, nl504, nl9999, nl65521, zz_ald, zz_ast, zz_let, zz_call, zz_put, zz_rem, zz_div, zz_rz, zz_rz0, zz_rz1, pk_mul, nI_add, pk_sub, b2_0, b2_1, nI_leI, nI_ltI, nI_eq, e3]
    rw [if_neg (by omega)]
  · intro f s ⟨c1, d1, e1, e2, hT1, hF1, hB1⟩
    obtain ⟨x, y, M1⟩ := s
    dsimp only at e1 e2 hT1 hF1
    subst e1 e2
    refine ⟨M1, c1, d1, ?_, hT1, hF1, hB1⟩
    show X4_bowAllThatCanBe_23 t x2 x3 k6 (f + 1) (nI c1) (nI n) M1 = _
    rw [X4_bowAllThatCanBe_23, hT1.1, if_pos (nI_le (Nat.le_refl _) (by omega))]
    rfl
theorem fb_none (hV : t_ok n al K d) (h : ∀ a b, a < n ∧ b < n → p_en K day d a b = false) : ff (fbP K day d) 64 = none := by
  apply ff_no
  intro k hk
  unfold fbP
  by_cases z : d (k / 8) (k % 8) = 0
  · cases e : p_en K day d (k / 8) (k % 8) with
    | false => rfl
    | true => have := (p_en_iff.1 e).1; omega
  · have := hV.2.2.2.2 _ _ z
    exact h _ _ ⟨this.1, this.2.1⟩
theorem X4_bowAll_s (hT : TC M t n day ea al K S d) (hV : t_ok n al K d) (hday : day < 2 ^ 30) :
    ∃ M', X4_bowAllThatCanBe t M = some (nI (bwF K day d).1, M') ∧ TC M' t n day ea al K S (bwF K day d).2 ∧ Fr t (t + 5) M M' ∧ t_ok n al K (bwF K day d).2 ∧ (bwF K day d).1 + d_all (bwF K day d).2 ≤ d_all d := by
  have w := hV.1
  have q7 := hV.all7
  unfold X4_bowAllThatCanBe
  have fin : ∀ (M1 : Mem) (c1 : Nat) (d1 : Dm), TC M1 t n day ea al K S d1 → Fr t (t + 5) M M1 → BS K day n al 0 d c1 d1 (fun _ _ => False) → (∀ a b, a < n ∧ b < n → p_en K day d1 a b = false) → ∃ M', some (nI c1, M1) = some (nI (bwF K day d).1, M') ∧ TC M' t n day ea al K S (bwF K day d).2 ∧ Fr t (t + 5) M M' ∧ t_ok n al K (bwF K day d).2 ∧ (bwF K day d).1 + d_all (bwF K day d).2 ≤ d_all d := by
    intro M1 c1 d1 hT1 hF1 hB1 hn
    obtain ⟨v1, l1, s1, e1, q1⟩ := hB1
    have e2 : bwF K day d1 = (0, d1) := bw_none (fb_none v1 hn)
    have e3 : bwF K day d = (c1, d1) := by
      rw [e1, e2]
      show (0 + (c1 - 0), d1) = _
      rw [Nat.sub_zero, Nat.zero_add]
    rw [e3]
    exact ⟨M1, rfl, hT1, hF1, v1, by show c1 + d_all d1 ≤ d_all d; omega⟩
  refine lp (S := Int32 × Int32 × Int32 × Mem) (fun f s => X4_bowAllThatCanBe_6 t f s.1 s.2.1 s.2.2.1 s.2.2.2) (fun k s => ∃ c' d', s.1 = nI c' ∧ s.2.2.1 = nI k ∧ TC s.2.2.2 t n day ea al K S d' ∧ Fr t (t + 5) M s.2.2.2 ∧ BS K day n al 0 d c' d' (fun _ _ => False) ∧ ((s.2.1 = nI c' ∧ ∀ a b, a < n ∧ b < n → p_en K day d' a b = false) ∨ (s.2.1 ≠ nI c' ∧ d_all d' + k ≤ 441)))
    (fun r => ∃ M', r = some (nI (bwF K day d).1, M') ∧ TC M' t n day ea al K S (bwF K day d).2 ∧ Fr t (t + 5) M M' ∧ t_ok n al K (bwF K day d).2 ∧ (bwF K day d).1 + d_all (bwF K day d).2 ≤ d_all d) 443 ?_ ?_ 0 FU (nI 0, -1, nI 0, M) (by omega) (FU_lt (by omega)) ⟨0, d, rfl, rfl, hT, Fr.rf, BS.rf hV (fun a b h => h.elim), Or.inr ⟨by show (-1 : Int32) ≠ nI 0; decide, by omega⟩⟩
  · intro k f s hk ⟨c1, d1, e1, e2, hT1, hF1, hB1, hc⟩
    obtain ⟨x, y, z, M1⟩ := s
    dsimp only at e1 e2 hT1 hF1
    subst e1 e2
    change (y = nI c1 ∧ _) ∨ (y ≠ nI c1 ∧ _) at hc
    show (∃ s', X4_bowAllThatCanBe_6 t (f + 1) (nI c1) y (nI k) M1 = _ ∧ _) ∨ (∃ M', X4_bowAllThatCanBe_6 t (f + 1) (nI c1) y (nI k) M1 = _ ∧ _)
    rw [X4_bowAllThatCanBe_6, nl504, if_neg (nI_ge (by omega) (by omega))]
    rcases hc with ⟨hy, hn⟩ | ⟨hy, hm⟩
    · right
      rw [if_pos hy.symm]
      exact fin M1 c1 d1 hT1 hF1 hB1 hn
    · left
      rw [if_neg (fun h => hy h.symm)]
      obtain ⟨M2, c2, d2, e3, hT2, hF2, hB2⟩ := X4_bow23_s (c := c1) (x2 := nI c1) (x3 := nI k) (k6 := X4_bowAllThatCanBe_6 t f) hT1 hB1.1 hday
      refine ⟨(nI c2, nI c1, nI (k + 1), M2), ?_, c2, d2, rfl, rfl, hT2, hF1.tr hF2, hB1.tr hB2 (fun a b h => h.elim), ?_⟩
      · show X4_bowAllThatCanBe_23 t (nI c1) (nI k) (X4_bowAllThatCanBe_6 t f) FU (nI c1) (nI 0) M1 = X4_bowAllThatCanBe_6 t f (nI c2) (nI c1) (nI (k + 1)) M2
        rw [e3, nI_add]
      · obtain ⟨v2, l2, s2, g2, q2⟩ := hB2
        obtain ⟨v1, l1, s1, g1, q1⟩ := hB1
        by_cases hcc : c2 = c1
        · left
          obtain ⟨r1, r2⟩ := q2 hcc
          subst r1
          exact ⟨by show nI c1 = nI c2; rw [hcc], r2⟩
        · right
          refine ⟨?_, by omega⟩
          show nI c1 ≠ nI c2
          intro h
          exact hcc ((nI_eq (by omega) (by omega)).1 h).symm
  · intro f s ⟨c1, d1, e1, e2, hT1, hF1, hB1, hc⟩
    obtain ⟨x, y, z, M1⟩ := s
    dsimp only at e1 e2 hT1 hF1
    subst e1 e2
    change (y = nI c1 ∧ _) ∨ (y ≠ nI c1 ∧ _) at hc
    show ∃ M', X4_bowAllThatCanBe_6 t (f + 1) (nI c1) y (nI 443) M1 = _ ∧ _
    rcases hc with ⟨hy, hn⟩ | ⟨hy, hm⟩
    · rw [X4_bowAllThatCanBe_6, nl504, if_neg (nI_ge (by omega) (by omega)), if_pos hy.symm]
      exact fin M1 c1 d1 hT1 hF1 hB1 hn
    · omega
end PEACEC
