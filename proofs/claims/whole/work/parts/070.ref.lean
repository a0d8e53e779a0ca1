/-! ===== the reference's town: bank b of the object at cell t ===== -/
def TR (M : Mem) (t b n day al : Nat) (K S : Nat → Nat) (d : Dm) : Prop :=
  M (t + 16) b = nI n ∧ M (t + 15) b = nI day ∧ M (t + 14) b = nI al ∧ (∀ i, i < n → M (t + 3) i = nI (K i)) ∧ (∀ i, i < n → M (t + 4) i = nI (S i)) ∧ (∀ i j, i < 8 → j < 8 → M (t + 13) (64 * b + 8 * i + j) = nI (d i j))
/-- nothing but bank b has changed -/
def FrR (t b : Nat) (M M' : Mem) : Prop := (∀ c, (c < t + 13 ∨ t + 17 ≤ c) → M' c = M c) ∧ (∀ k, (k < 64 * b ∨ 64 * b + 64 ≤ k) → M' (t + 13) k = M (t + 13) k) ∧ (∀ k, k ≠ b → M' (t + 14) k = M (t + 14) k ∧ M' (t + 15) k = M (t + 15) k ∧ M' (t + 16) k = M (t + 16) k)
theorem FrR.rf {t b : Nat} {M : Mem} : FrR t b M M := ⟨fun _ _ => rfl, fun _ _ => rfl, fun _ _ => ⟨rfl, rfl, rfl⟩⟩
theorem FrR.tr {t b : Nat} {M M1 M2 : Mem} (h : FrR t b M M1) (h2 : FrR t b M1 M2) : FrR t b M M2 :=
  ⟨fun c hc => (h2.1 c hc).trans (h.1 c hc), fun k hk => (h2.2.1 k hk).trans (h.2.1 k hk), fun k hk => ⟨(h2.2.2 k hk).1.trans (h.2.2 k hk).1, (h2.2.2 k hk).2.1.trans (h.2.2 k hk).2.1, (h2.2.2 k hk).2.2.trans (h.2.2 k hk).2.2⟩⟩
section REF
variable {M : Mem} {t b n day al i j : Nat} {K S : Nat → Nat} {d : Dm}
theorem FrR.Fr {M' : Mem} (h : FrR t b M M') : Fr t (t + 19) M M' := fun c hc => h.1 c (by omega)
theorem TR.fr (hT : TR M t b n day al K S d) {b' : Nat} {M' : Mem} (h : FrR t b' M M') (hb : b ≠ b') : TR M' t b n day al K S d := by
  obtain ⟨h0, h1, h2, hk, hs, hd⟩ := hT
  obtain ⟨g1, g2, g3⟩ := h
  obtain ⟨k1, k2, k3⟩ := g3 b hb
  refine ⟨k3.trans h0, k2.trans h1, k1.trans h2, ?_, ?_, ?_⟩
  · rw [g1 _ (by omega)]; exact hk
  · rw [g1 _ (by omega)]; exact hs
  · intro a c ha hc
    rw [g2 _ (by omega)]
    exact hd a c ha hc
theorem X6_has_s {a : Nat} (ha : a < 2 ^ 31) (hi : i < 32) : X6_has (nI a) (nI i) M = some (b2 (a.testBit i), M) := by
  unfold X6_has
  by_cases h : a.testBit i = true
  · rw [if_neg (not_not_intro ((zz_bit ha hi).2 h)), h]
    exact zz_rz1
  · rw [if_pos (fun q => h ((zz_bit ha hi).1 q)), Bool.eq_false_iff.2 h]
    exact zz_rz0
theorem X6_isAlive_s (hT : TR M t b n day al K S d) (hb : b < 3) (hal : al < 128) (hi : i < 32) : X6_isAlive t (nI b) (nI i) M = some (b2 (al.testBit i), M) := by
  unfold X6_isAlive
  simp (disch := omega) only [nl0, nl1, nl2, nl3, nl4, nl5, nl6, nl7, nl8, nl9, nl10, nl32, nl40, nl44, nl48, nl57, nl59, nl60, nl63, nl64, nl99, nl100, nl101, nl111, nl112, nl126, nl128, nl200, nl504, nl9999, nl65521, zz_ald, zz_ast, zz_let, zz_call, zz_put, zz_rem, zz_div, zz_rz, zz_rz0, zz_rz1, pk_mul, nI_add, pk_sub, b2_0, b2_1, nI_leI, nI_ltI, nI_eq, hT.2.2.1, X6_has_s]
theorem X6_debt_s (hT : TR M t b n day al K S d) (hb : b < 3) (hi : i < 8) (hj : j < 8) : X6_debt t (nI b) (nI i) (nI j) M = some (nI (d i j), M) := by
  obtain ⟨h0, h1, h2, hk, hs, hd⟩ := id hT
  unfold X6_debt
  simp (disch := omega) only [nl0, nl1, nl2, nl3, nl4, nl5, nl6, nl7, nl8, nl9, nl10, nl32, nl40, nl44, nl48, nl57, nl59, nl60, nl63, nl64, nl99, nl100, nl101, nl111, nl112, nl126, nl128, nl200, nl504, nl9999, nl65521, zz_ald, zz_ast, zz_let, zz_call, zz_put, zz_rem, zz_div, zz_rz, zz_rz0, zz_rz1, pk_mul, nI_add, pk_sub, b2_0, b2_1, nI_leI, nI_ltI, nI_eq, hd]
theorem X6_debtsOf_s (hT : TR M t b n day al K S d) (hb : b < 3) (hi : i < 8) : X6_debtsOf t (nI b) (nI i) M = some (nI (d_row d i), M) := by
  unfold X6_debtsOf
  refine lp (S := Int32 × Int32 × Mem) (fun f s => X6_debtsOf_5 t (nI b) (nI i) f s.1 s.2.1 s.2.2) (fun k s => s = (nI (d_sm (d i) k), nI k, M)) (fun r => r = some (nI (d_row d i), M)) 8 ?_ ?_ 0 FU (nI 0, nI 0, M) (by omega) (FU_lt (by omega)) rfl
  · intro k f s hk e
    subst e
    left
    refine ⟨(nI (d_sm (d i) (k + 1)), nI (k + 1), M), ?_, rfl⟩
    show X6_debtsOf_5 t (nI b) (nI i) (f + 1) (nI (d_sm (d i) k)) (nI k) M = X6_debtsOf_5 t (nI b) (nI i) f (nI (d_sm (d i) k + d i k)) (nI (k + 1)) M
    rw [X6_debtsOf_5]
    simp (disch := omega) only [nl0, nl1, nl2, nl3, nl4, nl5, nl6, nl7, nl8, nl9, nl10, nl32, nl40, nl44, nl48, nl57, nl59, nl60, nl63, nl64, nl99, nl100, nl101, nl111, nl112, nl126, nl128, nl200, nl504, nl9999, nl65521, zz_ald, zz_ast, zz_let, zz_call, zz_put, zz_rem, zz_div, zz_rz, zz_rz0, zz_rz1, pk_mul, nI_add, pk_sub, b2_0, b2_1, nI_leI, nI_ltI, nI_eq, X6_debt_s hT]
    rw [if_neg (by omega)]
  · intro f s e
    subst e
    show X6_debtsOf_5 t (nI b) (nI i) (f + 1) (nI (d_sm (d i) 8)) (nI 8) M = some (nI (d_sm (d i) 8), M)
    rw [X6_debtsOf_5]
    simp (disch := omega) only [nl0, nl1, nl2, nl3, nl4, nl5, nl6, nl7, nl8, nl9, nl10, nl32, nl40, nl44, nl48, nl57, nl59, nl60, nl63, nl64, nl99, nl100, nl101, nl111, nl112, nl126, nl128, nl200, nl504, nl9999, nl65521, zz_ald, zz_ast, zz_let, zz_call, zz_put, zz_rem, zz_div, zz_rz, zz_rz0, zz_rz1, pk_mul, nI_add, pk_sub, b2_0, b2_1, nI_leI, nI_ltI, nI_eq]
    rw [if_pos (by omega)]
theorem X6_owedTo_s (hT : TR M t b n day al K S d) (hb : b < 3) (hj : j < 8) : X6_owedTo t (nI b) (nI j) M = some (nI (d_col d j), M) := by
  unfold X6_owedTo
  refine lp (S := Int32 × Int32 × Mem) (fun f s => X6_owedTo_5 t (nI b) (nI j) f s.1 s.2.1 s.2.2) (fun k s => s = (nI (d_sm (fun i => d i j) k), nI k, M)) (fun r => r = some (nI (d_col d j), M)) 8 ?_ ?_ 0 FU (nI 0, nI 0, M) (by omega) (FU_lt (by omega)) rfl
  · intro k f s hk e
    subst e
    left
    refine ⟨(nI (d_sm (fun i => d i j) (k + 1)), nI (k + 1), M), ?_, rfl⟩
    show X6_owedTo_5 t (nI b) (nI j) (f + 1) (nI (d_sm (fun i => d i j) k)) (nI k) M = X6_owedTo_5 t (nI b) (nI j) f (nI (d_sm (fun i => d i j) k + d k j)) (nI (k + 1)) M
    rw [X6_owedTo_5]
    simp (disch := omega) only [nl0, nl1, nl2, nl3, nl4, nl5, nl6, nl7, nl8, nl9, nl10, nl32, nl40, nl44, nl48, nl57, nl59, nl60, nl63, nl64, nl99, nl100, nl101, nl111, nl112, nl126, nl128, nl200, nl504, nl9999, nl65521, zz_ald, zz_ast, zz_let, zz_call, zz_put, zz_rem, zz_div, zz_rz, zz_rz0, zz_rz1, pk_mul, nI_add, pk_sub, b2_0, b2_1, nI_leI, nI_ltI, nI_eq, X6_debt_s hT]
    rw [if_neg (by omega)]
  · intro f s e
    subst e
    show X6_owedTo_5 t (nI b) (nI j) (f + 1) (nI (d_sm (fun i => d i j) 8)) (nI 8) M = some (nI (d_sm (fun i => d i j) 8), M)
    rw [X6_owedTo_5]
    simp (disch := omega) only [nl0, nl1, nl2, nl3, nl4, nl5, nl6, nl7, nl8, nl9, nl10, nl32, nl40, nl44, nl48, nl57, nl59, nl60, nl63, nl64, nl99, nl100, nl101, nl111, nl112, nl126, nl128, nl200, nl504, nl9999, nl65521, zz_ald, zz_ast, zz_let, zz_call, zz_put, zz_rem, zz_div, zz_rz, zz_rz0, zz_rz1, pk_mul, nI_add, pk_sub, b2_0, b2_1, nI_leI, nI_ltI, nI_eq]
    rw [if_pos (by omega)]
theorem X6_allOf_s (hT : TR M t b n day al K S d) (hb : b < 3) : X6_allOf t (nI b) M = some (nI (d_all d), M) := by
  unfold X6_allOf
  refine lp (S := Int32 × Int32 × Mem) (fun f s => X6_allOf_4 t (nI b) f s.1 s.2.1 s.2.2) (fun k s => s = (nI (d_sm (d_row d) k), nI k, M)) (fun r => r = some (nI (d_all d), M)) 8 ?_ ?_ 0 FU (nI 0, nI 0, M) (by omega) (FU_lt (by omega)) rfl
  · intro k f s hk e
    subst e
    left
    refine ⟨(nI (d_sm (d_row d) (k + 1)), nI (k + 1), M), ?_, rfl⟩
    show X6_allOf_4 t (nI b) (f + 1) (nI (d_sm (d_row d) k)) (nI k) M = X6_allOf_4 t (nI b) f (nI (d_sm (d_row d) k + d_row d k)) (nI (k + 1)) M
    rw [X6_allOf_4]
    simp (disch := omega) only [nl0, nl1, nl2, nl3, nl4, nl5, nl6, nl7, nl8, nl9, nl10, nl32, nl40, nl44, nl48, nl57, nl59, nl60, nl63, nl64, nl99, nl100, nl101, nl111, nl112, nl126, nl128, nl200, nl504, nl9999, nl65521, zz_ald, zz_ast, zz_let, zz_call, zz_put, zz_rem, zz_div, zz_rz, zz_rz0, zz_rz1, pk_mul, nI_add, pk_sub, b2_0, b2_1, nI_leI, nI_ltI, nI_eq, X6_debtsOf_s hT]
    rw [if_neg (by omega)]
  · intro f s e
    subst e
    show X6_allOf_4 t (nI b) (f + 1) (nI (d_sm (d_row d) 8)) (nI 8) M = some (nI (d_sm (d_row d) 8), M)
    rw [X6_allOf_4]
    simp (disch := omega) only [nl0, nl1, nl2, nl3, nl4, nl5, nl6, nl7, nl8, nl9, nl10, nl32, nl40, nl44, nl48, nl57, nl59, nl60, nl63, nl64, nl99, nl100, nl101, nl111, nl112, nl126, nl128, nl200, nl504, nl9999, nl65521, zz_ald, zz_ast, zz_let, zz_call, zz_put, zz_rem, zz_div, zz_rz, zz_rz0, zz_rz1, pk_mul, nI_add, pk_sub, b2_0, b2_1, nI_leI, nI_ltI, nI_eq]
    rw [if_pos (by omega)]
theorem t_bit (hV : t_ok n al K d) (h : al.testBit j = true) : j < n := by
  rcases Nat.lt_or_ge j n with h' | h'
  · exact h'
  · exfalso
    have h2 : al < 2 ^ j := Nat.lt_of_lt_of_le hV.2.1 (Nat.pow_le_pow_right (by decide) h')
    rw [Nat.testBit_lt_two_pow h2] at h
    cases h
theorem X6_takes_s (hT : TR M t b n day al K S d) (hV : t_ok n al K d) (hb : b < 3) (hj : j < 8) : X6_takes t (nI b) (nI j) M = some (b2 (al.testBit j && o_tk K d j), M) := by
  obtain ⟨h0, h1, h2, hk, hs, hd⟩ := id hT
  have w := hV.1
  have qa := hV.al
  have r := hV.row j
  unfold X6_takes
  simp (disch := omega) only [nl0, nl1, nl2, nl3, nl4, nl5, nl6, nl7, nl8, nl9, nl10, nl32, nl40, nl44, nl48, nl57, nl59, nl60, nl63, nl64, nl99, nl100, nl101, nl111, nl112, nl126, nl128, nl200, nl504, nl9999, nl65521, zz_ald, zz_ast, zz_let, zz_call, zz_put, zz_rem, zz_div, zz_rz, zz_rz0, zz_rz1, pk_mul, nI_add, pk_sub, b2_0, b2_1, nI_leI, nI_ltI, nI_eq, X6_isAlive_s hT]
  by_cases a : al.testBit j = true
  · have hn := t_bit hV a
    have q := hV.2.2.1 j hn
    rw [if_neg (by simp [a])]
    simp (disch := omega) only [nl0, nl1, nl2, nl3, nl4, nl5, nl6, nl7, nl8, nl9, nl10, nl32, nl40, nl44, nl48, nl57, nl59, nl60, nl63, nl64, nl99, nl100, nl101, nl111, nl112, nl126, nl128, nl200, nl504, nl9999, nl65521, zz_ald, zz_ast, zz_let, zz_call, zz_put, zz_rem, zz_div, zz_rz, zz_rz0, zz_rz1, pk_mul, nI_add, pk_sub, b2_0, b2_1, nI_leI, nI_ltI, nI_eq, hk, X6_debtsOf_s hT]
    unfold o_tk
    by_cases x : K j = 1 <;> by_cases y : d_row d j = 0 <;> simp [a, x, y]
  · rw [if_pos (by simpa using a)]
    simp [a]
theorem X6_canBow_s (hT : TR M t b n day al K S d) (hV : t_ok n al K d) (hb : b < 3) (hi : i < 8) (hj : j < 8) : X6_canBow t (nI b) (nI i) (nI j) M = some (b2 (o_bow K d i j), M) := by
  have w := hV.1
  have q1 := hV.2.2.2.1 i j
  unfold X6_canBow
  simp (disch := omega) only [nl0, nl1, nl2, nl3, nl4, nl5, nl6, nl7, nl8, nl9, nl10, nl32, nl40, nl44, nl48, nl57, nl59, nl60, nl63, nl64, nl99, nl100, nl101, nl111, nl112, nl126, nl128, nl200, nl504, nl9999, nl65521, zz_ald, zz_ast, zz_let, zz_call, zz_put, zz_rem, zz_div, zz_rz, zz_rz0, zz_rz1, pk_mul, nI_add, pk_sub, b2_0, b2_1, nI_leI, nI_ltI, nI_eq, X6_debt_s hT, X6_takes_s hT hV]
  unfold o_bow
  by_cases e : d i j = 0
  · simp [e]
  · have hn := (hV.2.2.2.2 i j e).2.2.2.2
    have : 0 < d i j := by omega
    by_cases b : o_tk K d j <;> simp [b, this, hn] <;> omega
theorem X6_canAtOnce_s (hT : TR M t b n day al K S d) (hV : t_ok n al K d) (hb : b < 3) (hi : i < 8) (hj : j < 8) : X6_canAtOnce t (nI b) (nI i) (nI j) M = some (b2 (o_ao d i j), M) := by
  have w := hV.1
  have q1 := hV.2.2.2.1 i j
  have q2 := hV.2.2.2.1 j i
  have r1 := hV.row i
  have r2 := hV.row j
  unfold X6_canAtOnce
  simp (disch := omega) only [nl0, nl1, nl2, nl3, nl4, nl5, nl6, nl7, nl8, nl9, nl10, nl32, nl40, nl44, nl48, nl57, nl59, nl60, nl63, nl64, nl99, nl100, nl101, nl111, nl112, nl126, nl128, nl200, nl504, nl9999, nl65521, zz_ald, zz_ast, zz_let, zz_call, zz_put, zz_rem, zz_div, zz_rz, zz_rz0, zz_rz1, pk_mul, nI_add, pk_sub, b2_0, b2_1, nI_leI, nI_ltI, nI_eq, X6_debt_s hT, X6_debtsOf_s hT]
  unfold o_ao
  by_cases e : d i j = 0
  · simp [e]
  · by_cases g : d j i = 0
    · simp [g]
    · have e' : 0 < d i j := by omega
      have g' : 0 < d j i := by omega
      by_cases a : d_row d i = d i j <;> by_cases b : d_row d j = d j i <;> simp [a, b, e, g, e', g']
theorem X6_maySpeak_s (hT : TR M t b n day al K S d) (hV : t_ok n al K d) (hb : b < 3) (hi : i < 8) (hj : j < 8) : X6_maySpeak t (nI b) (nI i) (nI j) M = some (b2 (o_may al d i j), M) := by
  have w := hV.1
  have q1 := hV.2.2.2.1 i j
  have q2 := hV.2.2.2.1 j i
  have qa := hV.al
  unfold X6_maySpeak
  simp (disch := omega) only [nl0, nl1, nl2, nl3, nl4, nl5, nl6, nl7, nl8, nl9, nl10, nl32, nl40, nl44, nl48, nl57, nl59, nl60, nl63, nl64, nl99, nl100, nl101, nl111, nl112, nl126, nl128, nl200, nl504, nl9999, nl65521, zz_ald, zz_ast, zz_let, zz_call, zz_put, zz_rem, zz_div, zz_rz, zz_rz0, zz_rz1, pk_mul, nI_add, pk_sub, b2_0, b2_1, nI_leI, nI_ltI, nI_eq, X6_isAlive_s hT, X6_debt_s hT]
  unfold o_may
  by_cases a : i = j <;> by_cases b : al.testBit i <;> by_cases c : al.testBit j <;> by_cases e : d i j = 0 <;> by_cases g : d j i = 0 <;> simp [a, b, c, e, g]
theorem X6_canDo_s {kind : Nat} (hT : TR M t b n day al K S d) (hV : t_ok n al K d) (hb : b < 3) (hk5 : kind ≤ 5) (hi : i < 8) (hj : j < 8 ∨ 4 ≤ kind) (hij : kind = 0 → i ≠ j) : X6_canDo t (nI b) (nI kind) (nI i) (nI j) M = some (b2 (o_can al K d kind i j), M) := by
  have w := hV.1
  have q1 := hV.2.2.2.1 i j
  have qa := hV.al
  unfold X6_canDo o_can
  rcases (by omega : kind = 0 ∨ kind = 1 ∨ kind = 2 ∨ kind = 3 ∨ kind = 4 ∨ kind = 5) with rfl | rfl | rfl | rfl | rfl | rfl
  · have hj' : j < 8 := by omega
    have a := hij rfl
    simp (disch := omega) only [nl0, nl1, nl2, nl3, nl4, nl5, nl6, nl7, nl8, nl9, nl10, nl32, nl40, nl44, nl48, nl57, nl59, nl60, nl63, nl64, nl99, nl100, nl101, nl111, nl112, nl126, nl128, nl200, nl504, nl9999, nl65521, zz_ald, zz_ast, zz_let, zz_call, zz_put, zz_rem, zz_div, zz_rz, zz_rz0, zz_rz1, pk_mul, nI_add, pk_sub, b2_0, b2_1, nI_leI, nI_ltI, nI_eq, X6_isAlive_s hT, X6_debt_s hT, if_true]
    by_cases e : d i j < 9
    · have e' : ¬ 9 ≤ d i j := by omega
      by_cases b : al.testBit i <;> by_cases c : al.testBit j <;> simp [a, b, c, e, e']
    · have e' : 9 ≤ d i j := by omega
      by_cases b : al.testBit i <;> by_cases c : al.testBit j <;> simp [a, b, c, e, e']
  · have hj' : j < 8 := by omega
    simp (disch := omega) only [nl0, nl1, nl2, nl3, nl4, nl5, nl6, nl7, nl8, nl9, nl10, nl32, nl40, nl44, nl48, nl57, nl59, nl60, nl63, nl64, nl99, nl100, nl101, nl111, nl112, nl126, nl128, nl200, nl504, nl9999, nl65521, zz_ald, zz_ast, zz_let, zz_call, zz_put, zz_rem, zz_div, zz_rz, zz_rz0, zz_rz1, pk_mul, nI_add, pk_sub, b2_0, b2_1, nI_leI, nI_ltI, nI_eq, X6_canBow_s hT hV]
    simp
  · have hj' : j < 8 := by omega
    simp (disch := omega) only [nl0, nl1, nl2, nl3, nl4, nl5, nl6, nl7, nl8, nl9, nl10, nl32, nl40, nl44, nl48, nl57, nl59, nl60, nl63, nl64, nl99, nl100, nl101, nl111, nl112, nl126, nl128, nl200, nl504, nl9999, nl65521, zz_ald, zz_ast, zz_let, zz_call, zz_put, zz_rem, zz_div, zz_rz, zz_rz0, zz_rz1, pk_mul, nI_add, pk_sub, b2_0, b2_1, nI_leI, nI_ltI, nI_eq, X6_canBow_s hT hV, X6_debt_s hT]
    by_cases e : d i j < 9
    · have e' : ¬ 9 ≤ d i j := by omega
      by_cases a : o_bow K d i j <;> simp [a, e, e']
    · have e' : 9 ≤ d i j := by omega
      by_cases a : o_bow K d i j <;> simp [a, e, e']
  · have hj' : j < 8 := by omega
    simp (disch := omega) only [nl0, nl1, nl2, nl3, nl4, nl5, nl6, nl7, nl8, nl9, nl10, nl32, nl40, nl44, nl48, nl57, nl59, nl60, nl63, nl64, nl99, nl100, nl101, nl111, nl112, nl126, nl128, nl200, nl504, nl9999, nl65521, zz_ald, zz_ast, zz_let, zz_call, zz_put, zz_rem, zz_div, zz_rz, zz_rz0, zz_rz1, pk_mul, nI_add, pk_sub, b2_0, b2_1, nI_leI, nI_ltI, nI_eq, X6_canAtOnce_s hT hV]
    simp
  · simp (disch := omega) only [nl0, nl1, nl2, nl3, nl4, nl5, nl6, nl7, nl8, nl9, nl10, nl32, nl40, nl44, nl48, nl57, nl59, nl60, nl63, nl64, nl99, nl100, nl101, nl111, nl112, nl126, nl128, nl200, nl504, nl9999, nl65521, zz_ald, zz_ast, zz_let, zz_call, zz_put, zz_rem, zz_div, zz_rz, zz_rz0, zz_rz1, pk_mul, nI_add, pk_sub, b2_0, b2_1, nI_leI, nI_ltI, nI_eq, X6_isAlive_s hT]
    simp
  · simp (disch := omega) only [nl0, nl1, nl2, nl3, nl4, nl5, nl6, nl7, nl8, nl9, nl10, nl32, nl40, nl44, nl48, nl57, nl59, nl60, nl63, nl64, nl99, nl100, nl101, nl111, nl112, nl126, nl128, nl200, nl504, nl9999, nl65521, zz_ald, zz_ast, zz_let, zz_call, zz_put, zz_rem, zz_div, zz_rz, zz_rz0, zz_rz1, pk_mul, nI_add, pk_sub, b2_0, b2_1, nI_leI, nI_ltI, nI_eq]
    simp
def o_amt (K : Nat → Nat) (day : Nat) (d : Dm) (i j : Nat) : Nat := if K i = 2 then d i j else if K i = 3 ∧ day % 2 = 1 then 0 else 1
theorem X6_pays_s (hT : TR M t b n day al K S d) (hV : t_ok n al K d) (hday : day < 2 ^ 30) (hb : b < 3) (hi : i < n) (hj : j < 8) : X6_pays t (nI b) (nI i) (nI j) M = some (nI (o_amt K day d i j), M) := by
  obtain ⟨h0, h1, h2, hk, hs, hd⟩ := id hT
  have w := hV.1
  have q := hV.2.2.1 i hi
  unfold X6_pays o_amt
  simp (disch := omega) only [nl0, nl1, nl2, nl3, nl4, nl5, nl6, nl7, nl8, nl9, nl10, nl32, nl40, nl44, nl48, nl57, nl59, nl60, nl63, nl64, nl99, nl100, nl101, nl111, nl112, nl126, nl128, nl200, nl504, nl9999, nl65521, zz_ald, zz_ast, zz_let, zz_call, zz_put, zz_rem, zz_div, zz_rz, zz_rz0, zz_rz1, pk_mul, nI_add, pk_sub, b2_0, b2_1, nI_leI, nI_ltI, nI_eq, hk, h1, X6_debt_s hT]
  by_cases a : K i = 2
  · rw [if_neg (not_not_intro a), if_pos a]
  · rw [if_pos a, if_neg a]
    by_cases c : K i = 3 <;> by_cases e : day % 2 = 1 <;> simp [c, e]
theorem X6_setDebt_s {v : Nat} (hT : TR M t b n day al K S d) (hb : b < 3) (hi : i < 8) (hj : j < 8) (hv : v ≤ 10) : ∃ M', X6_setDebt t (nI b) (nI i) (nI j) (nI v) M = some ((), M') ∧ TR M' t b n day al K S (d_up d i j (if v < 9 then v else 9)) ∧ FrR t b M M' := by
  obtain ⟨h0, h1, h2, hk, hs, hd⟩ := id hT
  refine ⟨me_upd M (t + 13) (64 * b + 8 * i + j) (nI (if v < 9 then v else 9)), ?_, ⟨?_, ?_, ?_, ?_, ?_, ?_⟩, ?_⟩
  · unfold X6_setDebt
    simp (disch := omega) only [nl0, nl1, nl2, nl3, nl4, nl5, nl6, nl7, nl8, nl9, nl10, nl32, nl40, nl44, nl48, nl57, nl59, nl60, nl63, nl64, nl99, nl100, nl101, nl111, nl112, nl126, nl128, nl200, nl504, nl9999, nl65521, zz_ald, zz_ast, zz_let, zz_call, zz_put, zz_rem, zz_div, zz_rz, zz_rz0, zz_rz1, pk_mul, nI_add, pk_sub, b2_0, b2_1, nI_leI, nI_ltI, nI_eq]
    by_cases c : v ≤ 9
    · rw [if_pos c]
      have e : (if v < 9 then v else 9) = v := by split <;> omega
      rw [e]
    · rw [if_neg c, if_neg (by omega)]
  · rw [up_c (by omega)]; exact h0
  · rw [up_c (by omega)]; exact h1
  · rw [up_c (by omega)]; exact h2
  · rw [up_c (by omega)]; exact hk
  · rw [up_c (by omega)]; exact hs
  · intro a c ha hc
    by_cases h : a = i ∧ c = j
    · rw [h.1, h.2, up_s, d_up_s]
    · rw [up_j (by omega), d_up_n (by omega)]
      exact hd a c ha hc
  · exact ⟨fun c hc => up_c (by omega), fun k hk => up_j (by omega), fun k hk => ⟨by rw [up_c (by omega)], by rw [up_c (by omega)], by rw [up_c (by omega)]⟩⟩
theorem X6_more_s (hT : TR M t b n day al K S d) (hV : t_ok n al K d) (hb : b < 3) (hi : i < 8) (hj : j < 8) : ∃ M', X6_setDebt t (nI b) (nI i) (nI j) (nI (d i j + 1)) M = some ((), M') ∧ TR M' t b n day al K S (o_more d i j) ∧ FrR t b M M' := by
  have q := hV.2.2.2.1 i j
  exact X6_setDebt_s hT hb hi hj (by omega)
theorem o_amt_le (hV : t_ok n al K d) (h : d i j ≠ 0) : o_amt K day d i j ≤ d i j := by
  unfold o_amt
  split
  · omega
  · split <;> omega
theorem o_pay_amt (hV : t_ok n al K d) (h : d i j ≠ 0) (hi : K i ≤ 3) : d_up d i j (if d i j - o_amt K day d i j < 9 then d i j - o_amt K day d i j else 9) = o_pay K day d i j := by
  have q := hV.2.2.2.1 i j
  have e : (if d i j - o_amt K day d i j < 9 then d i j - o_amt K day d i j else 9) = d i j - o_amt K day d i j := by split <;> omega
  rw [e]
  unfold o_pay o_amt o_py
  by_cases a : K i = 2
  · rw [if_pos a, if_pos a, if_pos (⟨by simp [a], by omega⟩), Nat.sub_self]
  · rw [if_neg a, if_neg a]
    by_cases c : K i = 3 ∧ day % 2 = 1
    · rw [if_pos c, if_neg (by simp [c])]
      funext x y
      unfold d_up
      split
      · next h => rw [h.1, h.2]; rfl
      · rfl
    · rw [if_neg c, if_pos]
      refine ⟨?_, by omega⟩
      by_cases x : K i = 3
      · have : day % 2 = 0 := by omega
        simp [this]
      · simp [x]
theorem X6_pay_s (hT : TR M t b n day al K S d) (hV : t_ok n al K d) (hb : b < 3) (h : d i j ≠ 0) : ∃ M', X6_setDebt t (nI b) (nI i) (nI j) (nI (d i j) - nI (o_amt K day d i j)) M = some ((), M') ∧ TR M' t b n day al K S (o_pay K day d i j) ∧ FrR t b M M' := by
  obtain ⟨z1, z2, z3, z4, z5⟩ := hV.2.2.2.2 i j h
  have w := hV.1
  have q := hV.2.2.2.1 i j
  have q2 := o_amt_le (day := day) hV h
  obtain ⟨M', e, hT', hF⟩ := X6_setDebt_s (v := d i j - o_amt K day d i j) hT hb (i := i) (j := j) (by omega) (by omega) (by omega)
  rw [o_pay_amt hV h (hV.2.2.1 i z1)] at hT'
  rw [pk_sub q2]
  exact ⟨M', e, hT', hF⟩
theorem o_amt_ne {v : Nat} {a c : Nat} (h : a ≠ i ∨ c ≠ j) : o_amt K day (d_up d a c v) i j = o_amt K day d i j := by
  unfold o_amt
  rw [d_up_n (by omega)]
theorem o_pay_ne {a c : Nat} (h : a ≠ i ∨ c ≠ j) : o_pay K day d a c i j = d i j := by
  unfold o_pay
  split
  · exact d_up_n (by omega)
  · rfl
theorem X6_bothBow_s (hT : TR M t b n day al K S d) (hV : t_ok n al K d) (hday : day < 2 ^ 30) (hb : b < 3) (h : d i j ≠ 0) (h2 : d j i ≠ 0) : ∃ M', X6_bothBow t (nI b) (nI i) (nI j) M = some ((), M') ∧ TR M' t b n day al K S (o_pay K day (o_pay K day d i j) j i) ∧ FrR t b M M' := by
  obtain ⟨z1, z2, z3, z4, z5⟩ := hV.2.2.2.2 i j h
  have w := hV.1
  obtain ⟨M2, e2, hT2, hF2⟩ := X6_pay_s hT hV hb h
  have e0 : o_pay K day d i j j i = d j i := o_pay_ne (by omega)
  have ea : o_amt K day (o_pay K day d i j) j i = o_amt K day d j i := by
    unfold o_amt
    rw [e0]
  obtain ⟨M3, e3, hT3, hF3⟩ := X6_pay_s hT2 (o_pay_ok hV) hb (i := j) (j := i) (by rw [e0]; exact h2)
  rw [ea, e0] at e3
  refine ⟨M3, ?_, hT3, hF2.tr hF3⟩
  unfold X6_bothBow
  rw [X6_pays_s hT hV hday hb z1 (by omega), zz_call, X6_pays_s hT hV hday hb z2 (by omega), zz_call, X6_debt_s hT hb (by omega) (by omega), zz_call, e2, zz_call, X6_debt_s hT2 hb (by omega) (by omega), e0, zz_call, e3, zz_call]
theorem X6_dies_s (hT : TR M t b n day al K S d) (hV : t_ok n al K d) (hb : b < 3) (hi : i < n) : ∃ M', X6_dies t (nI b) (nI i) M = some ((), M') ∧ TR M' t b n day (o_rm al i) K S (o_zap d i) ∧ FrR t b M M' := by
  have w := hV.1
  have qa := hV.al
  obtain ⟨h0, h1, h2, hk, hs, hd⟩ := id hT
  have hT0 : TR (me_upd M (t + 14) b (nI (o_rm al i))) t b n day (o_rm al i) K S (o_zk d i 0) := by
    have e : o_zk d i 0 = d := by
      funext a b
      exact if_neg (by omega)
    rw [e]
    refine ⟨?_, ?_, ?_, ?_, ?_, ?_⟩
    · rw [up_c (by omega)]; exact h0
    · rw [up_c (by omega)]; exact h1
    · exact up_s
    · rw [up_c (by omega)]; exact hk
    · rw [up_c (by omega)]; exact hs
    · rw [up_c (by omega)]; exact hd
  have hF0 : FrR t b M (me_upd M (t + 14) b (nI (o_rm al i))) := ⟨fun c hc => up_c (by omega), fun k hk => by rw [up_c (by omega)], fun k hk => ⟨up_j hk, by rw [up_c (by omega)], by rw [up_c (by omega)]⟩⟩
  have key := lp (S := Int32 × Mem) (fun f s => X6_dies_16 t (nI b) (nI i) f s.1 s.2) (fun k s => s.1 = nI k ∧ TR s.2 t b n day (o_rm al i) K S (o_zk d i k) ∧ FrR t b M s.2)
    (fun r => ∃ M', r = some ((), M') ∧ TR M' t b n day (o_rm al i) K S (o_zap d i) ∧ FrR t b M M') 8
    (by
      intro k f s hk ⟨e1, hT1, hF1⟩
      obtain ⟨x, M1⟩ := s
      dsimp only at e1 hT1 hF1
      subst e1
      left
      obtain ⟨M2, e2, hT2, hF2⟩ := X6_setDebt_s (v := 0) hT1 hb (i := i) (j := k) (by omega) (by omega) (by omega)
      obtain ⟨M3, e3, hT3, hF3⟩ := X6_setDebt_s (v := 0) hT2 hb (i := k) (j := i) (by omega) (by omega) (by omega)
      refine ⟨(nI (k + 1), M3), ?_, rfl, ?_, (hF1.tr hF2).tr hF3⟩
      · show X6_dies_16 t (nI b) (nI i) (f + 1) (nI k) M1 = X6_dies_16 t (nI b) (nI i) f (nI (k + 1)) M3
        rw [X6_dies_16]
        simp (disch := omega) only [nl0, nl1, nl2, nl3, nl4, nl5, nl6, nl7, nl8, nl9, nl10, nl32, nl40, nl44, nl48, nl57, nl59, nl60, nl63, nl64, nl99, nl100, nl101, nl111, nl112, nl126, nl128, nl200, nl504, nl9999, nl65521, zz_ald, zz_ast, zz_let, zz_call, zz_put, zz_rem, zz_div, zz_rz, zz_rz0, zz_rz1, pk_mul, nI_add, pk_sub, b2_0, b2_1, nI_leI, nI_ltI, nI_eq, e2, e3]
        rw [if_neg (by omega)]
      · have e : d_up (d_up (o_zk d i k) i k 0) k i 0 = o_zk d i (k + 1) := by
          funext a b
          unfold d_up o_zk
          by_cases c1 : a = k ∧ b = i
          · rw [if_pos c1, if_pos (by omega)]
          · rw [if_neg c1]
            by_cases c2 : a = i ∧ b = k
            · rw [if_pos c2, if_pos (by omega)]
            · rw [if_neg c2]
              by_cases c3 : (a = i ∧ b < k) ∨ (b = i ∧ a < k)
              · rw [if_pos c3, if_pos (by omega)]
              · rw [if_neg c3, if_neg (by omega)]
        rw [← e]
        exact hT3)
    (by
      intro f s ⟨e1, hT1, hF1⟩
      obtain ⟨x, M1⟩ := s
      dsimp only at e1 hT1 hF1
      subst e1
      refine ⟨M1, ?_, ?_, hF1⟩
      · show X6_dies_16 t (nI b) (nI i) (f + 1) (nI 8) M1 = _
        rw [X6_dies_16]
        simp (disch := omega) only [nl0, nl1, nl2, nl3, nl4, nl5, nl6, nl7, nl8, nl9, nl10, nl32, nl40, nl44, nl48, nl57, nl59, nl60, nl63, nl64, nl99, nl100, nl101, nl111, nl112, nl126, nl128, nl200, nl504, nl9999, nl65521, zz_ald, zz_ast, zz_let, zz_call, zz_put, zz_rem, zz_div, zz_rz, zz_rz0, zz_rz1, pk_mul, nI_add, pk_sub, b2_0, b2_1, nI_leI, nI_ltI, nI_eq]
        rw [if_pos (by omega)]
      · obtain ⟨g0, g1, g2, gk, gs, gd⟩ := hT1
        refine ⟨g0, g1, g2, gk, gs, fun a c ha hc => ?_⟩
        change M1 (t + 13) (64 * b + 8 * a + c) = _
        rw [gd a c ha hc]
        unfold o_zk o_zap
        by_cases h : a = i ∨ c = i
        · rw [if_pos h, if_pos (by omega)]
        · rw [if_neg h, if_neg (by omega)]) 0 FU (nI 0, me_upd M (t + 14) b (nI (o_rm al i))) (by omega) (FU_lt (by omega)) ⟨rfl, hT0, hF0⟩
  unfold X6_dies
  simp (disch := omega) only [nl0, nl1, nl2, nl3, nl4, nl5, nl6, nl7, nl8, nl9, nl10, nl32, nl40, nl44, nl48, nl57, nl59, nl60, nl63, nl64, nl99, nl100, nl101, nl111, nl112, nl126, nl128, nl200, nl504, nl9999, nl65521, zz_ald, zz_ast, zz_let, zz_call, zz_put, zz_rem, zz_div, zz_rz, zz_rz0, zz_rz1, pk_mul, nI_add, pk_sub, b2_0, b2_1, nI_leI, nI_ltI, nI_eq, h2]
  rw [show nI al &&& ((nI 1 <<< (nI i &&& 31)) ^^^ -nI 1) = nI (o_rm al i) from o_rm_I al qa i (by omega)]
  exact key
end REF
