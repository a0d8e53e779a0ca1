/-! ===== PEACE as the reference makes it ===== -/
section PEACER
variable {M : Mem} {t b n day al i j : Nat} {K S : Nat → Nat} {d : Dm}
def fI (o : Option Nat) : Int32 := o.elim (-4) nI
theorem fI_s {q : Nat} : fI (some q) = nI q := rfl
theorem fI_n : fI none = -4 := rfl
theorem o_amt_0 (h : d i j ≠ 0) : o_amt K day d i j = 0 ↔ o_py K day i = false := by
  unfold o_amt o_py
  by_cases a : K i = 2
  · rw [if_pos a]
    simp [a, h]
  · rw [if_neg a]
    by_cases c : K i = 3
    · by_cases e : day % 2 = 1
      · rw [if_pos ⟨c, e⟩]
        simp [c, e]
      · rw [if_neg (fun h => e h.2)]
        have : day % 2 = 0 := by omega
        simp [this]
    · rw [if_neg (fun h => c h.1)]
      simp [c]
theorem o_amt_10 (hV : t_ok n al K d) : o_amt K day d i j ≤ 9 := by
  have := hV.2.2.2.1 i j
  unfold o_amt
  split
  · omega
  · split <;> omega
theorem X6_firstBow_s (hT : TR M t b n day al K S d) (hV : t_ok n al K d) (hday : day < 2 ^ 30) (hb : b < 3) : X6_firstBow t (nI b) M = some (fI (ff (fbP K day d) 64), M) := by
  have w := hV.1
  unfold X6_firstBow
  refine lp (S := Int32 × Mem) (fun f s => X6_firstBow_2 t (nI b) f s.1 s.2) (fun k s => s = (nI k, M) ∧ ∀ q, q < k → fbP K day d q = false) (fun r => r = some (fI (ff (fbP K day d) 64), M)) 64 ?_ ?_ 0 FU (nI 0, M) (by omega) (FU_lt (by omega)) ⟨rfl, fun q hq => by omega⟩
  · intro k f s hk ⟨e1, hq⟩
    subst e1
    show (∃ s', X6_firstBow_2 t (nI b) (f + 1) (nI k) M = _ ∧ _) ∨ X6_firstBow_2 t (nI b) (f + 1) (nI k) M = _
    rw [X6_firstBow_2]
    simp (disch := omega) only [nl0, nl1, nl2, nl3, nl4, nl5, nl6, nl7, nl8, nl9, nl10, nl32, nl40, nl44, nl48, nl57, nl59, nl60, nl63, nl64, nl99, nl100, nl101, nl111, nl112, nl126, nl128, nl200, nl504, nl9999, nl65521, zz_ald, zz_ast, zz_let, zz_call, zz_put, zz_rem, zz_div, zz_rz, zz_rz0, zz_rz1, pk_mul, nI_add, pk_sub, b2_0, b2_1, nI_leI, nI_ltI, nI_eq, X6_canBow_s hT hV]
    rw [if_neg (by omega)]
    by_cases c : o_bow K d (k / 8) (k % 8) = false
    · left
      rw [if_pos c]
      refine ⟨(nI (k + 1), M), rfl, rfl, fun q hq' => ?_⟩
      by_cases hz : q = k
      · rw [hz]; unfold fbP p_en; rw [c]; rfl
      · exact hq q (by omega)
    · rw [if_neg c]
      have c' : o_bow K d (k / 8) (k % 8) = true := by simpa using c
      have hne : d (k / 8) (k % 8) ≠ 0 := by
        have h := c'
        unfold o_bow at h
        simp only [Bool.and_eq_true, decide_eq_true_eq] at h
        omega
      have hn := (hV.2.2.2.2 _ _ hne).1
      have ha := o_amt_10 (day := day) (i := k / 8) (j := k % 8) hV
      rw [X6_pays_s hT hV hday hb hn (by omega), zz_call]
      simp (disch := omega) only [nl0, nl1, nl2, nl3, nl4, nl5, nl6, nl7, nl8, nl9, nl10, nl32, nl40, nl44, nl48, nl57, nl59, nl60, nl63, nl64, nl99, nl100, nl101, nl111, nl112, nl126, nl128, nl200, nl504, nl9999, nl65521, zz_ald, zz_ast, zz_let, zz_call, zz_put, zz_rem, zz_div, zz_rz, zz_rz0, zz_rz1, pk_mul, nI_add, pk_sub, b2_0, b2_1, nI_leI, nI_ltI, nI_eq]
      have hz := o_amt_0 (K := K) (day := day) hne
      by_cases p : o_py K day (k / 8) = false
      · left
        rw [if_pos (by have := hz.2 p; omega)]
        refine ⟨(nI (k + 1), M), rfl, rfl, fun q hq' => ?_⟩
        by_cases hz : q = k
        · rw [hz]; unfold fbP p_en; rw [p, Bool.and_false]
        · exact hq q (by omega)
      · right
        rw [if_neg (by have := mt hz.1 p; omega), ff_is hk (by unfold fbP p_en; rw [c', Bool.true_and]; simpa using p) hq]
        rfl
  · intro f s ⟨e1, hq⟩
    subst e1
    show X6_firstBow_2 t (nI b) (f + 1) (nI 64) M = _
    rw [X6_firstBow_2, ff_no hq]
    rfl
theorem X6_firstAtOnce_s (hT : TR M t b n day al K S d) (hV : t_ok n al K d) (hday : day < 2 ^ 30) (hb : b < 3) : X6_firstAtOnce t (nI b) M = some (fI (ff (aoP K day d) 64), M) := by
  have w := hV.1
  unfold X6_firstAtOnce
  refine lp (S := Int32 × Mem) (fun f s => X6_firstAtOnce_2 t (nI b) f s.1 s.2) (fun k s => s = (nI k, M) ∧ ∀ q, q < k → aoP K day d q = false) (fun r => r = some (fI (ff (aoP K day d) 64), M)) 64 ?_ ?_ 0 FU (nI 0, M) (by omega) (FU_lt (by omega)) ⟨rfl, fun q hq => by omega⟩
  · intro k f s hk ⟨e1, hq⟩
    subst e1
    have no : aoP K day d k = false → ∃ s' : Int32 × Mem, X6_firstAtOnce_2 t (nI b) f (nI (k + 1)) M = X6_firstAtOnce_2 t (nI b) f s'.1 s'.2 ∧ (s' = (nI (k + 1), M) ∧ ∀ q, q < k + 1 → aoP K day d q = false) := by
      intro h
      refine ⟨(nI (k + 1), M), rfl, rfl, fun q hq' => ?_⟩
      by_cases hz : q = k
      · rw [hz]; exact h
      · exact hq q (by omega)
    show (∃ s', X6_firstAtOnce_2 t (nI b) (f + 1) (nI k) M = _ ∧ _) ∨ X6_firstAtOnce_2 t (nI b) (f + 1) (nI k) M = _
    rw [X6_firstAtOnce_2]
    simp (disch := omega) only [nl0, nl1, nl2, nl3, nl4, nl5, nl6, nl7, nl8, nl9, nl10, nl32, nl40, nl44, nl48, nl57, nl59, nl60, nl63, nl64, nl99, nl100, nl101, nl111, nl112, nl126, nl128, nl200, nl504, nl9999, nl65521, zz_ald, zz_ast, zz_let, zz_call, zz_put, zz_rem, zz_div, zz_rz, zz_rz0, zz_rz1, pk_mul, nI_add, pk_sub, b2_0, b2_1, nI_leI, nI_ltI, nI_eq, X6_canAtOnce_s hT hV]
    rw [if_neg (by omega)]
    by_cases l : k % 8 ≤ k / 8
    · left
      rw [if_pos l]
      exact no (ao_out hV (by omega))
    · rw [if_neg l]
      by_cases c : o_ao d (k / 8) (k % 8) = false
      · left
        rw [if_pos c]
        exact no (by unfold aoP; rw [c, Bool.and_false, Bool.false_and])
      · rw [if_neg c]
        have c' : o_ao d (k / 8) (k % 8) = true := by simpa using c
        have h4 := o_ao_iff.1 c'
        have hn := hV.2.2.2.2 _ _ (Nat.ne_of_gt h4.1)
        have ha := o_amt_10 (day := day) (i := k / 8) (j := k % 8) hV
        have ha2 := o_amt_10 (day := day) (i := k % 8) (j := k / 8) hV
        rw [X6_pays_s hT hV hday hb hn.1 (by omega), zz_call, X6_pays_s hT hV hday hb hn.2.1 (by omega), zz_call]
        simp (disch := omega) only [nl0, nl1, nl2, nl3, nl4, nl5, nl6, nl7, nl8, nl9, nl10, nl32, nl40, nl44, nl48, nl57, nl59, nl60, nl63, nl64, nl99, nl100, nl101, nl111, nl112, nl126, nl128, nl200, nl504, nl9999, nl65521, zz_ald, zz_ast, zz_let, zz_call, zz_put, zz_rem, zz_div, zz_rz, zz_rz0, zz_rz1, pk_mul, nI_add, pk_sub, b2_0, b2_1, nI_leI, nI_ltI, nI_eq]
        have hz := o_amt_0 (K := K) (day := day) (Nat.ne_of_gt h4.1)
        have hz2 := o_amt_0 (K := K) (day := day) (Nat.ne_of_gt h4.2.1)
        by_cases p : o_py K day (k / 8) = false ∧ o_py K day (k % 8) = false
        · left
          rw [if_pos (by have := hz.2 p.1; have := hz2.2 p.2; omega)]
          exact no (by unfold aoP; rw [p.1, p.2]; simp)
        · right
          have hp : o_py K day (k / 8) = true ∨ o_py K day (k % 8) = true := by
            by_cases p1 : o_py K day (k / 8) = true
            · exact Or.inl p1
            · right
              by_cases p2 : o_py K day (k % 8) = true
              · exact p2
              · exact absurd ⟨by simpa using p1, by simpa using p2⟩ p
          rw [if_neg, ff_is hk (aoP_iff.2 ⟨by omega, c', hp⟩) hq]
          · rfl
          · intro hle
            exact p ⟨hz.1 (by omega), hz2.1 (by omega)⟩
  · intro f s ⟨e1, hq⟩
    subst e1
    show X6_firstAtOnce_2 t (nI b) (f + 1) (nI 64) M = _
    rw [X6_firstAtOnce_2, ff_no hq]
    rfl
theorem X6_makePeace_s (hT : TR M t b n day al K S d) (hV : t_ok n al K d) (hday : day < 2 ^ 29) (hb : b < 3) :
    ∃ M', X6_makePeace t (nI b) M = some (nI (mpF K day d).1, M') ∧ TR M' t b n day al K S (mpF K day d).2 ∧ FrR t b M M' ∧ t_ok n al K (mpF K day d).2 := by
  have w := hV.1
  have q7 := hV.all7
  unfold X6_makePeace
  refine lp (S := Int32 × Int32 × Mem) (fun f s => X6_makePeace_4 t (nI b) f s.1 s.2.1 s.2.2) (fun k s => ∃ c' d', s.1 = nI c' ∧ TR s.2.2 t b n day al K S d' ∧ FrR t b M s.2.2 ∧ t_ok n al K d' ∧ mpF K day d = (c' + (mpF K day d').1, (mpF K day d').2) ∧ ((s.2.1 = nI 1 ∧ d_all d' + k ≤ 441) ∨ (s.2.1 = nI 0 ∧ mpF K day d' = (0, d'))))
    (fun r => ∃ M', r = some (nI (mpF K day d).1, M') ∧ TR M' t b n day al K S (mpF K day d).2 ∧ FrR t b M M' ∧ t_ok n al K (mpF K day d).2) 443 ?_ ?_ 0 FU (nI 0, nI 1, M) (by omega) (FU_lt (by omega)) ⟨0, d, rfl, hT, FrR.rf, hV, by rw [Nat.zero_add], Or.inl ⟨rfl, by omega⟩⟩
  · intro k f s hk ⟨c1, d1, e1, hT1, hF1, hV1, hm, hc⟩
    obtain ⟨x, y, M1⟩ := s
    dsimp only at e1 hT1 hF1 hc
    subst e1
    show (∃ s', X6_makePeace_4 t (nI b) (f + 1) (nI c1) y M1 = _ ∧ _) ∨ (∃ M', X6_makePeace_4 t (nI b) (f + 1) (nI c1) y M1 = _ ∧ _)
    rw [X6_makePeace_4]
    rcases hc with ⟨hy, hk1⟩ | ⟨hy, hm1⟩
    · subst hy
      left
      rw [if_neg (by decide), X6_firstBow_s hT1 hV1 (by omega) hb, zz_call]
      cases e : ff (fbP K day d1) 64 with
      | some q =>
        obtain ⟨h1, h2⟩ := fb_in e
        have h3 := (ff_some e).2.1
        have hq := (ff_some e).1
        have hen := h3
        unfold fbP p_en at hen
        rw [Bool.and_eq_true] at hen
        have h0 := (p_en_iff.1 h3).1
        have hz := hV1.2.2.2.2 _ _ (Nat.ne_of_gt h0)
        have hall := o_pay_all h1 h2 h3
        obtain ⟨M2, e2, hT2, hF2⟩ := X6_doAct_s (s := (al, day, d1)) (kind := 1) (i := q / 8) (j := q % 8) hT1 hV1 hday hb ⟨by omega, fun _ => ⟨hz.1, hz.2.1, hz.2.2.1⟩, fun h => by omega, fun h => by omega⟩ hen.1
        obtain ⟨hT3, hV3, _⟩ := hT2 (al, day, o_pay K day d1 (q / 8) (q % 8)) rfl
        refine ⟨(nI (c1 + 1), nI 1, M2), ?_, c1 + 1, o_pay K day d1 (q / 8) (q % 8), rfl, hT3, hF1.tr hF2, hV3, ?_, Or.inl ⟨rfl, ?_⟩⟩
        · rw [fI_s, if_pos (nI_pos' (by omega))]
          unfold X6_makePeace_30
          rw [if_neg (nI_pos (by omega)), nl8, zz_div (by omega) (by omega) (by omega), zz_rem (by omega) (by omega) (by omega)]
          rw [show X6_doAct t (nI b) 1 (nI (q / 8)) (nI (q % 8)) M1 = some ((), M2) from e2, zz_call, if_pos (nI_pos' (by omega))]
          unfold X6_makePeace_91
          rw [if_neg (by decide), zz_let, nI_1]
          rfl
        · rw [hm, mpF_bow e]
          show (_ + (_ + 1), _) = (_ + 1 + _, _)
          congr 1
          omega
        · show d_all (o_pay K day d1 (q / 8) (q % 8)) + (k + 1) ≤ 441
          omega
      | none =>
        rw [fI_n, if_neg (by decide), X6_firstAtOnce_s hT1 hV1 (by omega) hb, zz_call]
        cases e2 : ff (aoP K day d1) 64 with
        | some q =>
          obtain ⟨h1, h2⟩ := fb_in e2
          have hq := (ff_some e2).1
          have h3 := aoP_iff.1 (ff_some e2).2.1
          have h4 := o_ao_iff.1 h3.2.1
          have hall := ao_all e2
          obtain ⟨M2, e3, hT2, hF2⟩ := X6_bothBow_s hT1 hV1 (by omega) hb (Nat.ne_of_gt h4.1) (Nat.ne_of_gt h4.2.1)
          refine ⟨(nI (c1 + 1), nI 1, M2), ?_, c1 + 1, o_two K day d1 (q / 8) (q % 8), rfl, hT2, hF1.tr hF2, o_two_ok hV1, ?_, Or.inl ⟨rfl, by omega⟩⟩
          · unfold X6_makePeace_30
            rw [fI_s, if_pos (by decide), if_neg (nI_pos (by omega)), nl8, zz_div (by omega) (by omega) (by omega), zz_rem (by omega) (by omega) (by omega), e3, zz_call]
            rw [if_neg (by decide), if_neg (nI_pos (by omega))]
            unfold X6_makePeace_91
            rw [if_neg (by decide), zz_let, nI_1]
            rfl
          · rw [hm, mpF_ao e e2]
            show (_ + (_ + 1), _) = (_ + 1 + _, _)
            congr 1
            omega
        | none =>
          refine ⟨(nI c1, nI 0, M1), ?_, c1, d1, rfl, hT1, hF1, hV1, hm, Or.inr ⟨rfl, mpF_none e e2⟩⟩
          unfold X6_makePeace_30
          rw [fI_n, if_pos (by decide), if_pos (by decide), if_neg (by decide), if_pos (by decide)]
          unfold X6_makePeace_91
          rw [if_pos (by decide), zz_let, nl0, nI_add]
          rfl
    · subst hy
      right
      rw [if_pos (by decide)]
      rw [hm1] at hm
      rw [hm]
      exact ⟨M1, rfl, hT1, hF1, hV1⟩
  · intro f s ⟨c1, d1, e1, hT1, hF1, hV1, hm, hc⟩
    obtain ⟨x, y, M1⟩ := s
    dsimp only at e1 hT1 hF1 hc
    subst e1
    rcases hc with ⟨hy, hk1⟩ | ⟨hy, hm1⟩
    · omega
    · subst hy
      show ∃ M', X6_makePeace_4 t (nI b) (f + 1) (nI c1) (nI 0) M1 = _ ∧ _
      rw [X6_makePeace_4, if_pos (by decide)]
      rw [hm1] at hm
      rw [hm]
      exact ⟨M1, rfl, hT1, hF1, hV1⟩
end PEACER
