section PEACEC2
variable {M : Mem} {t n day ea al i j : Nat} {K S : Nat → Nat} {d : Dm}
theorem ao_out (hV : t_ok n al K d) {k : Nat} (h : n ≤ k / 8 ∨ n ≤ k % 8 ∨ k % 8 ≤ k / 8) : aoP K day d k = false := by
  cases e : aoP K day d k with
  | false => rfl
  | true =>
    have h3 := aoP_iff.1 e
    have h4 := o_ao_iff.1 h3.2.1
    have := hV.2.2.2.2 _ _ (Nat.ne_of_gt h4.1)
    omega
theorem X4_first14_s {k2 : Int32 → Mem → Option (Int32 × Mem)} (hT : TC M t n day ea al K S d) (hV : t_ok n al K d) (hday : day < 2 ^ 30) (hi : i < n) (hp : ∀ k, k < 8 * i → aoP K day d k = false) :
    (X4_firstTwoBowAtOnce_14 t (nI i) k2 FU (nI (i + 1)) M = k2 (nI (i + 1)) M ∧ ∀ k, k < 8 * (i + 1) → aoP K day d k = false) ∨ (∃ M' k, X4_firstTwoBowAtOnce_14 t (nI i) k2 FU (nI (i + 1)) M = some (b2 true, M') ∧ ff (aoP K day d) 64 = some k ∧ TC M' t n day ea al K S (o_two K day d (k / 8) (k % 8)) ∧ Fr t (t + 5) M M') := by
  have w := hV.1
  refine lp (S := Int32 × Mem) (fun f s => X4_firstTwoBowAtOnce_14 t (nI i) k2 f s.1 s.2) (fun k s => s = (nI k, M) ∧ i < k ∧ ∀ q, q < 8 * i + k → aoP K day d q = false)
    (fun r => (r = k2 (nI (i + 1)) M ∧ ∀ k, k < 8 * (i + 1) → aoP K day d k = false) ∨ (∃ M' k, r = some (b2 true, M') ∧ ff (aoP K day d) 64 = some k ∧ TC M' t n day ea al K S (o_two K day d (k / 8) (k % 8)) ∧ Fr t (t + 5) M M')) n ?_ ?_ (i + 1) FU (nI (i + 1), M) (by omega) (FU_lt (by omega)) ⟨rfl, by omega, fun q hq => ?_⟩
  · intro k f s hk ⟨e1, hik, hq⟩
    subst e1
    show (∃ s', X4_firstTwoBowAtOnce_14 t (nI i) k2 (f + 1) (nI k) M = _ ∧ _) ∨ (_ ∨ ∃ M' k', X4_firstTwoBowAtOnce_14 t (nI i) k2 (f + 1) (nI k) M = _ ∧ _)
    rw [X4_firstTwoBowAtOnce_14, hT.1]
    have e8 : (8 * i + k) / 8 = i := by omega
    have e9 : (8 * i + k) % 8 = k := by omega
    simp (disch := omega) only [nl0, nl1, nl2, nl3, nl4, nl5, nl6, nl7, nl8, nl9, nl10, nl32, nl40, nl44, nl48, nl57, nl59, nl60, nl63, nl64, nl99, nl100, nl101, nl111, nl112, nl126, nl128, nl200, nl504, nl9999, nl65521, zz_ald, zz_ast, zz_let, zz_call, zz_put, zz_rem, zz_div, zz_rz, zz_rz0, zz_rz1, pk_mul, nI_add, pk_sub, b2_0, b2_1, nI_leI, nI_ltI, nI_eq, X4_canBowAtOnce_s hT hV, X4_paysToday_s hT hV hday]
    rw [if_neg (by omega)]
    by_cases a : aoP K day d (8 * i + k) = true
    · right
      right
      have h3 := aoP_iff.1 a
      rw [e8, e9] at h3
      obtain ⟨M2, e2, hT2, hF2⟩ := X4_pay_s hT hV hday hi (j := k) (by omega)
      obtain ⟨M3, e3, hT3, hF3⟩ := X4_pay_s hT2 (o_pay_ok hV) hday (i := k) (j := i) (by omega) (by omega)
      refine ⟨M3, 8 * i + k, ?_, ff_is (by omega) a hq, by rw [e8, e9]; exact hT3, hF2.tr hF3⟩
      rw [if_neg (by simp [h3.2.1])]
      by_cases p1 : o_py K day i = true
      · rw [if_pos (by simp [p1]), e2, zz_call, e3, zz_call]
      · have p2 : o_py K day k = true := by
          rcases h3.2.2 with h | h
          · exact absurd h p1
          · exact h
        rw [if_neg (by simp [p1]), if_neg (by simp [p2]), e2, zz_call, e3, zz_call]
    · left
      refine ⟨(nI (k + 1), M), ?_, rfl, by omega, fun q hq' => ?_⟩
      · by_cases b : o_ao d i k = false
        · rw [if_pos b]
        · rw [if_neg b]
          have p1 : ¬ o_py K day i = true := fun h => a (aoP_iff.2 (by rw [e8, e9]; exact ⟨hik, by simpa using b, Or.inl h⟩))
          have p2 : ¬ o_py K day k = true := fun h => a (aoP_iff.2 (by rw [e8, e9]; exact ⟨hik, by simpa using b, Or.inr h⟩))
          rw [if_neg (by simp [p1]), if_pos (by simpa using p2)]
      · by_cases hz : q = 8 * i + k
        · rw [hz]; simpa using a
        · exact hq q (by omega)
  · intro f s ⟨e1, hik, hq⟩
    subst e1
    left
    refine ⟨?_, fun q hq' => ?_⟩
    · show X4_firstTwoBowAtOnce_14 t (nI i) k2 (f + 1) (nI n) M = _
      rw [X4_firstTwoBowAtOnce_14, hT.1, if_pos (nI_le (Nat.le_refl _) (by omega)), nI_1]
    · by_cases hz : q < 8 * i + n
      · exact hq q hz
      · exact ao_out hV (by omega)
  · by_cases hz : q < 8 * i
    · exact hp q hz
    · exact ao_out hV (by omega)
theorem X4_firstTwo_s (hT : TC M t n day ea al K S d) (hV : t_ok n al K d) (hday : day < 2 ^ 30) :
    (X4_firstTwoBowAtOnce t M = some (b2 false, M) ∧ ff (aoP K day d) 64 = none) ∨ (∃ M' k, X4_firstTwoBowAtOnce t M = some (b2 true, M') ∧ ff (aoP K day d) 64 = some k ∧ TC M' t n day ea al K S (o_two K day d (k / 8) (k % 8)) ∧ Fr t (t + 5) M M') := by
  have w := hV.1
  unfold X4_firstTwoBowAtOnce
  refine lp (S := Int32 × Mem) (fun f s => X4_firstTwoBowAtOnce_2 t f s.1 s.2) (fun k s => s = (nI k, M) ∧ ∀ q, q < 8 * k → aoP K day d q = false)
    (fun r => (r = some (b2 false, M) ∧ ff (aoP K day d) 64 = none) ∨ (∃ M' k, r = some (b2 true, M') ∧ ff (aoP K day d) 64 = some k ∧ TC M' t n day ea al K S (o_two K day d (k / 8) (k % 8)) ∧ Fr t (t + 5) M M')) n ?_ ?_ 0 FU (nI 0, M) (by omega) (FU_lt (by omega)) ⟨rfl, fun q hq => by omega⟩
  · intro k f s hk ⟨e1, hq⟩
    subst e1
    show (∃ s', X4_firstTwoBowAtOnce_2 t (f + 1) (nI k) M = _ ∧ _) ∨ (_ ∨ ∃ M' k', X4_firstTwoBowAtOnce_2 t (f + 1) (nI k) M = _ ∧ _)
    rw [X4_firstTwoBowAtOnce_2, hT.1, if_neg (nI_ge hk (by omega)), zz_let, nI_1]
    rcases X4_first14_s (k2 := X4_firstTwoBowAtOnce_2 t f) hT hV hday hk hq with ⟨e, hq2⟩ | ⟨M', k', e, h1, h2, h3⟩
    · left
      exact ⟨(nI (k + 1), M), e, rfl, hq2⟩
    · right
      right
      exact ⟨M', k', e, h1, h2, h3⟩
  · intro f s ⟨e1, hq⟩
    subst e1
    left
    refine ⟨?_, ff_no fun q hq' => ?_⟩
    · show X4_firstTwoBowAtOnce_2 t (f + 1) (nI n) M = _
      rw [X4_firstTwoBowAtOnce_2, hT.1, if_pos (nI_le (Nat.le_refl _) (by omega))]
      exact zz_rz0
    · by_cases hz : q < 8 * n
      · exact hq q hz
      · exact ao_out hV (by omega)
theorem o_two_ok (hV : t_ok n al K d) : t_ok n al K (o_two K day d i j) := o_pay_ok (o_pay_ok hV)
theorem X4_makePeace_s (hT : TC M t n day ea al K S d) (hV : t_ok n al K d) (hday : day < 2 ^ 30) :
    ∃ M', X4_makePeace t M = some (nI (mpF K day d).1, M') ∧ TC M' t n day ea al K S (mpF K day d).2 ∧ Fr t (t + 5) M M' ∧ t_ok n al K (mpF K day d).2 ∧ (mpF K day d).1 + d_all (mpF K day d).2 ≤ d_all d := by
  have w := hV.1
  have q7 := hV.all7
  obtain ⟨M1, e1, hT1, hF1, hV1, hc1⟩ := X4_bowAll_s hT hV hday
  obtain ⟨g1, g2⟩ := mpF_bw (K := K) (day := day) _ d (Nat.le_refl _)
  unfold X4_makePeace
  rw [e1, zz_call]
  refine lp (S := Int32 × Int32 × Mem) (fun f s => X4_makePeace_7 t f s.1 s.2.1 s.2.2) (fun k s => ∃ c' d', s.1 = nI c' ∧ s.2.1 = nI k ∧ TC s.2.2 t n day ea al K S d' ∧ Fr t (t + 5) M s.2.2 ∧ t_ok n al K d' ∧ mpF K day d = (c' + (mpF K day d').1, (mpF K day d').2) ∧ ff (fbP K day d') 64 = none ∧ d_all d' + k ≤ 441 ∧ c' + d_all d' ≤ d_all d)
    (fun r => ∃ M', r = some (nI (mpF K day d).1, M') ∧ TC M' t n day ea al K S (mpF K day d).2 ∧ Fr t (t + 5) M M' ∧ t_ok n al K (mpF K day d).2 ∧ (mpF K day d).1 + d_all (mpF K day d).2 ≤ d_all d) 442 ?_ ?_ 0 FU (nI (bwF K day d).1, nI 0, M1) (by omega) (FU_lt (by omega)) ⟨(bwF K day d).1, (bwF K day d).2, rfl, rfl, hT1, hF1, hV1, g1, g2, by omega, hc1⟩
  · intro k f s hk ⟨c1, d1, e1, e2, hT1, hF1, hV1, hm, hn, hk1, hk2⟩
    obtain ⟨x, y, M1⟩ := s
    dsimp only at e1 e2 hT1 hF1
    subst e1 e2
    show (∃ s', X4_makePeace_7 t (f + 1) (nI c1) (nI k) M1 = _ ∧ _) ∨ (∃ M', X4_makePeace_7 t (f + 1) (nI c1) (nI k) M1 = _ ∧ _)
    rw [X4_makePeace_7, nl504, if_neg (nI_ge (by omega) (by omega))]
    rcases X4_firstTwo_s hT1 hV1 hday with ⟨e, hno⟩ | ⟨M2, q, e, hq, hT2, hF2⟩
    · right
      rw [e, zz_call, if_neg (by decide)]
      rw [mpF_none hn hno] at hm
      rw [hm]
      exact ⟨M1, rfl, hT1, hF1, hV1, hk2⟩
    · left
      rw [e, zz_call, if_pos (by decide)]
      have hV2 := o_two_ok (day := day) (i := q / 8) (j := q % 8) hV1
      have ha := ao_all hq
      obtain ⟨M3, e3, hT3, hF3, hV3, hc3⟩ := X4_bowAll_s hT2 hV2 hday
      obtain ⟨j1, j2⟩ := mpF_bw (K := K) (day := day) _ (o_two K day d1 (q / 8) (q % 8)) (Nat.le_refl _)
      refine ⟨(nI (c1 + (1 + (bwF K day (o_two K day d1 (q / 8) (q % 8))).1)), nI (k + 1), M3), ?_, _, _, rfl, rfl, hT3, (hF1.tr hF2).tr hF3, hV3, ?_, j2, by omega, by omega⟩
      · rw [e3, zz_call, zz_let]
        simp (disch := omega) only [nl0, nl1, nl2, nl3, nl4, nl5, nl6, nl7, nl8, nl9, nl10, nl32, nl40, nl44, nl48, nl57, nl59, nl60, nl63, nl64, nl99, nl100, nl101, nl111, nl112, nl126, nl128, nl200, nl504, nl9999, nl65521, zz_ald, zz_ast, zz_let, zz_call, zz_put, zz_rem, zz_div, zz_rz, zz_rz0, zz_rz1, pk_mul, nI_add, pk_sub, b2_0, b2_1, nI_leI, nI_ltI, nI_eq]
      · rw [hm, mpF_ao hn hq, j1]
        show (_ + (_ + _ + 1), _) = (_ + (1 + _) + _, _)
        congr 1
        omega
  · intro f s ⟨c1, d1, e1, e2, hT1, hF1, hV1, hm, hn, hk1, hk2⟩
    omega
end PEACEC2
