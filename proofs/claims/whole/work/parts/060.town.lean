/-! ===== what is done in a town, in the abstract ===== -/
def o_tk (K : Nat → Nat) (d : Dm) (j : Nat) : Bool := decide (K j = 1) || decide (d_row d j = 0)
def o_bow (K : Nat → Nat) (d : Dm) (i j : Nat) : Bool := decide (0 < d i j) && o_tk K d j
def o_ao (d : Dm) (i j : Nat) : Bool := decide (0 < d i j) && decide (0 < d j i) && decide (d_row d i = d i j) && decide (d_row d j = d j i)
def o_py (K : Nat → Nat) (day i : Nat) : Bool := !decide (K i = 3) || decide (day % 2 = 0)
def o_pay (K : Nat → Nat) (day : Nat) (d : Dm) (i j : Nat) : Dm := if o_py K day i = true ∧ 0 < d i j then d_up d i j (if K i = 2 then 0 else d i j - 1) else d
def o_may (al : Nat) (d : Dm) (i j : Nat) : Bool := !decide (i = j) && al.testBit i && al.testBit j && decide (d i j = 0) && decide (d j i = 0)
def o_more (d : Dm) (i j : Nat) : Dm := d_up d i j (if d i j + 1 < 9 then d i j + 1 else 9)
def o_can (al : Nat) (K : Nat → Nat) (d : Dm) (kind i j : Nat) : Bool :=
  if kind = 0 then !decide (i = j) && al.testBit i && al.testBit j && decide (d i j < 9)
  else if kind = 1 then o_bow K d i j
  else if kind = 2 then o_bow K d i j && decide (d i j < 9)
  else if kind = 3 then o_ao d i j
  else if kind = 4 then al.testBit i
  else true
def o_wk1 (al : Nat) (K : Nat → Nat) (i j : Nat) (d : Dm) : Dm := if K i = 1 ∧ i ≠ j ∧ al.testBit i = true ∧ al.testBit j = true then o_more d i j else d
def o_wk (n al : Nat) (K : Nat → Nat) (d : Dm) : Dm := fo (fun i d => fo (fun j d => o_wk1 al K i j d) n d) n d
def o_zap (d : Dm) (i : Nat) : Dm := fun a b => if a = i ∨ b = i then 0 else d a b
def o_rm (al i : Nat) : Nat := al &&& (255 - 2 ^ i)
abbrev Ts : Type := Nat × Nat × Dm
def o_day (n : Nat) (K : Nat → Nat) (s : Ts) : Ts := (s.1, s.2.1 + 1, if (s.2.1 + 1) % 7 = 0 then o_wk n s.1 K s.2.2 else s.2.2)
def o_do (n : Nat) (K : Nat → Nat) (kind i j : Nat) (s : Ts) : Ts :=
  if kind = 0 then (s.1, s.2.1, o_more s.2.2 i j)
  else if kind = 1 then (s.1, s.2.1, o_pay K s.2.1 s.2.2 i j)
  else if kind = 2 then (s.1, s.2.1, o_more s.2.2 i j)
  else if kind = 3 then (s.1, s.2.1, o_pay K s.2.1 (o_pay K s.2.1 s.2.2 i j) j i)
  else if kind = 4 then (o_rm s.1 i, s.2.1, o_zap s.2.2 i)
  else fo (fun _ s => o_day n K s) j s
/-! ===== the class's town at cell t ===== -/
def TC (M : Mem) (t n day ea al : Nat) (K S : Nat → Nat) (d : Dm) : Prop :=
  M t 0 = nI n ∧ M t 1 = nI day ∧ M t 2 = nI ea ∧ M t 3 = nI al ∧ (∀ i, i < n → M (t + 1) i = nI (K i)) ∧ (∀ i, i < n → M (t + 2) i = nI (S i)) ∧ (∀ i j, i < 8 → j < 8 → M (t + 3) (8 * i + j) = nI (d i j)) ∧ (∀ i, i < 8 → M (t + 4) i = nI (d_row d i))
section TOWN
variable {M : Mem} {t n day ea al i j : Nat} {K S : Nat → Nat} {d : Dm}
theorem TC.fr (hT : TC M t n day ea al K S d) {M' : Mem} (h : ∀ c, t ≤ c → c < t + 5 → M' c = M c) : TC M' t n day ea al K S d := by
  unfold TC
  rw [h t (by omega) (by omega), h (t + 1) (by omega) (by omega), h (t + 2) (by omega) (by omega), h (t + 3) (by omega) (by omega), h (t + 4) (by omega) (by omega)]
  exact hT
theorem X4_debt_s (hT : TC M t n day ea al K S d) (hi : i < 8) (hj : j < 8) : X4_debt t (nI i) (nI j) M = some (nI (d i j), M) := by
  obtain ⟨h0, h1, h2, h3, hk, hs, hd, ho⟩ := id hT
  unfold X4_debt
  simp (disch := omega) only [nl0, nl1, nl2, nl3, nl4, nl5, nl6, nl7, nl8, nl9, nl10, nl32, nl40, nl44, nl48, nl57, nl59, nl60, nl63, nl64, nl99, nl100, nl101, nl111, nl112, nl126, nl128, nl200, nl504, nl9999, nl65521, zz_ald, zz_ast, zz_let, zz_call, zz_put, zz_rem, zz_div, zz_rz, zz_rz0, zz_rz1, pk_mul, nI_add, pk_sub, b2_0, b2_1, nI_leI, nI_ltI, nI_eq, hd]
theorem X4_isAlive_s (hT : TC M t n day ea al K S d) (hal : al < 128) (hi : i < 32) : X4_isAlive t (nI i) M = some (b2 (al.testBit i), M) := by
  unfold X4_isAlive
  rw [hT.2.2.2.1]
  by_cases h : al.testBit i = true
  · rw [if_neg (not_not_intro ((zz_bit (by omega) hi).2 h)), h]
    exact zz_rz1
  · rw [if_pos (fun q => h ((zz_bit (by omega) hi).1 q)), Bool.eq_false_iff.2 h]
    exact zz_rz0
theorem X4_owing_s (hT : TC M t n day ea al K S d) (hi : i < 8) : X4_owing t (nI i) M = some (nI (d_row d i), M) := by
  obtain ⟨h0, h1, h2, h3, hk, hs, hd, ho⟩ := id hT
  unfold X4_owing
  simp (disch := omega) only [nl0, nl1, nl2, nl3, nl4, nl5, nl6, nl7, nl8, nl9, nl10, nl32, nl40, nl44, nl48, nl57, nl59, nl60, nl63, nl64, nl99, nl100, nl101, nl111, nl112, nl126, nl128, nl200, nl504, nl9999, nl65521, zz_ald, zz_ast, zz_let, zz_call, zz_put, zz_rem, zz_div, zz_rz, zz_rz0, zz_rz1, pk_mul, nI_add, pk_sub, b2_0, b2_1, nI_leI, nI_ltI, nI_eq, ho]
theorem X4_takesApology_s (hT : TC M t n day ea al K S d) (hV : t_ok n al K d) (hi : i < n) : X4_takesApology t (nI i) M = some (b2 (o_tk K d i), M) := by
  obtain ⟨h0, h1, h2, h3, hk, hs, hd, ho⟩ := id hT
  have r := hV.row i
  have q := hV.2.2.1 i hi
  have w := hV.1
  unfold X4_takesApology
  simp (disch := omega) only [nl0, nl1, nl2, nl3, nl4, nl5, nl6, nl7, nl8, nl9, nl10, nl32, nl40, nl44, nl48, nl57, nl59, nl60, nl63, nl64, nl99, nl100, nl101, nl111, nl112, nl126, nl128, nl200, nl504, nl9999, nl65521, zz_ald, zz_ast, zz_let, zz_call, zz_put, zz_rem, zz_div, zz_rz, zz_rz0, zz_rz1, pk_mul, nI_add, pk_sub, b2_0, b2_1, nI_leI, nI_ltI, nI_eq, hk, ho]
  unfold o_tk
  by_cases a : K i = 1 <;> by_cases b : d_row d i = 0 <;> simp [a, b]
theorem X4_maySpeak_s (hT : TC M t n day ea al K S d) (hV : t_ok n al K d) (hi : i < 8) (hj : j < 8) : X4_maySpeak t (nI i) (nI j) M = some (b2 (o_may al d i j), M) := by
  have w := hV.1
  have q1 := hV.2.2.2.1 i j
  have q2 := hV.2.2.2.1 j i
  have qa := hV.al
  unfold X4_maySpeak
  simp (disch := omega) only [nl0, nl1, nl2, nl3, nl4, nl5, nl6, nl7, nl8, nl9, nl10, nl32, nl40, nl44, nl48, nl57, nl59, nl60, nl63, nl64, nl99, nl100, nl101, nl111, nl112, nl126, nl128, nl200, nl504, nl9999, nl65521, zz_ald, zz_ast, zz_let, zz_call, zz_put, zz_rem, zz_div, zz_rz, zz_rz0, zz_rz1, pk_mul, nI_add, pk_sub, b2_0, b2_1, nI_leI, nI_ltI, nI_eq, X4_isAlive_s hT, X4_debt_s hT]
  unfold o_may
  by_cases a : i = j <;> by_cases b : al.testBit i <;> by_cases c : al.testBit j <;> by_cases e : d i j = 0 <;> by_cases g : d j i = 0 <;> simp [a, b, c, e, g]
theorem X4_canBow_s (hT : TC M t n day ea al K S d) (hV : t_ok n al K d) (hi : i < 8) (hj : j < 8) : X4_canBow t (nI i) (nI j) M = some (b2 (o_bow K d i j), M) := by
  have w := hV.1
  have q1 := hV.2.2.2.1 i j
  unfold X4_canBow
  simp (disch := omega) only [nl0, nl1, nl2, nl3, nl4, nl5, nl6, nl7, nl8, nl9, nl10, nl32, nl40, nl44, nl48, nl57, nl59, nl60, nl63, nl64, nl99, nl100, nl101, nl111, nl112, nl126, nl128, nl200, nl504, nl9999, nl65521, zz_ald, zz_ast, zz_let, zz_call, zz_put, zz_rem, zz_div, zz_rz, zz_rz0, zz_rz1, pk_mul, nI_add, pk_sub, b2_0, b2_1, nI_leI, nI_ltI, nI_eq, X4_debt_s hT]
  unfold o_bow
  by_cases e : d i j = 0
  · simp [e]
  · have hn := (hV.2.2.2.2 i j e).2.1
    rw [if_neg (by omega)]
    simp (disch := omega) only [nl0, nl1, nl2, nl3, nl4, nl5, nl6, nl7, nl8, nl9, nl10, nl32, nl40, nl44, nl48, nl57, nl59, nl60, nl63, nl64, nl99, nl100, nl101, nl111, nl112, nl126, nl128, nl200, nl504, nl9999, nl65521, zz_ald, zz_ast, zz_let, zz_call, zz_put, zz_rem, zz_div, zz_rz, zz_rz0, zz_rz1, pk_mul, nI_add, pk_sub, b2_0, b2_1, nI_leI, nI_ltI, nI_eq, X4_takesApology_s hT hV hn]
    have : 0 < d i j := by omega
    by_cases b : o_tk K d j <;> simp [b, this]
theorem X4_canBowAtOnce_s (hT : TC M t n day ea al K S d) (hV : t_ok n al K d) (hi : i < 8) (hj : j < 8) : X4_canBowAtOnce t (nI i) (nI j) M = some (b2 (o_ao d i j), M) := by
  obtain ⟨h0, h1, h2, h3, hk, hs, hd, ho⟩ := id hT
  have w := hV.1
  have q1 := hV.2.2.2.1 i j
  have q2 := hV.2.2.2.1 j i
  have r1 := hV.row i
  have r2 := hV.row j
  unfold X4_canBowAtOnce
  simp (disch := omega) only [nl0, nl1, nl2, nl3, nl4, nl5, nl6, nl7, nl8, nl9, nl10, nl32, nl40, nl44, nl48, nl57, nl59, nl60, nl63, nl64, nl99, nl100, nl101, nl111, nl112, nl126, nl128, nl200, nl504, nl9999, nl65521, zz_ald, zz_ast, zz_let, zz_call, zz_put, zz_rem, zz_div, zz_rz, zz_rz0, zz_rz1, pk_mul, nI_add, pk_sub, b2_0, b2_1, nI_leI, nI_ltI, nI_eq, X4_debt_s hT, ho]
  unfold o_ao
  by_cases e : d i j = 0
  · simp [e]
  · by_cases g : d j i = 0
    · simp [g]
    · have e' : 0 < d i j := by omega
      have g' : 0 < d j i := by omega
      by_cases a : d_row d i = d i j <;> by_cases b : d_row d j = d j i <;> simp [a, b, e, g, e', g']
theorem X4_canBeDone_s {kind : Nat} (hT : TC M t n day ea al K S d) (hV : t_ok n al K d) (hk5 : kind ≤ 5) (hi : i < 8) (hj : kind < 4 → j < 8) : X4_canBeDone t (nI kind) (nI i) (nI j) M = some (b2 (o_can al K d kind i j), M) := by
  have w := hV.1
  have q1 := hV.2.2.2.1 i j
  have qa := hV.al
  unfold X4_canBeDone o_can
  rcases (by omega : kind = 0 ∨ kind = 1 ∨ kind = 2 ∨ kind = 3 ∨ kind = 4 ∨ kind = 5) with rfl | rfl | rfl | rfl | rfl | rfl
  · have hj' := hj (by omega)
    simp (disch := omega) only [nl0, nl1, nl2, nl3, nl4, nl5, nl6, nl7, nl8, nl9, nl10, nl32, nl40, nl44, nl48, nl57, nl59, nl60, nl63, nl64, nl99, nl100, nl101, nl111, nl112, nl126, nl128, nl200, nl504, nl9999, nl65521, zz_ald, zz_ast, zz_let, zz_call, zz_put, zz_rem, zz_div, zz_rz, zz_rz0, zz_rz1, pk_mul, nI_add, pk_sub, b2_0, b2_1, nI_leI, nI_ltI, nI_eq, X4_isAlive_s hT, X4_debt_s hT, if_true]
    by_cases a : i = j <;> by_cases b : al.testBit i <;> by_cases c : al.testBit j <;> by_cases e : d i j < 9 <;> simp [a, b, c, e, Nat.not_le.2, Nat.not_lt.1] <;> omega
  · have hj' := hj (by omega)
    simp (disch := omega) only [nl0, nl1, nl2, nl3, nl4, nl5, nl6, nl7, nl8, nl9, nl10, nl32, nl40, nl44, nl48, nl57, nl59, nl60, nl63, nl64, nl99, nl100, nl101, nl111, nl112, nl126, nl128, nl200, nl504, nl9999, nl65521, zz_ald, zz_ast, zz_let, zz_call, zz_put, zz_rem, zz_div, zz_rz, zz_rz0, zz_rz1, pk_mul, nI_add, pk_sub, b2_0, b2_1, nI_leI, nI_ltI, nI_eq, X4_canBow_s hT hV]
    simp
  · have hj' := hj (by omega)
    simp (disch := omega) only [nl0, nl1, nl2, nl3, nl4, nl5, nl6, nl7, nl8, nl9, nl10, nl32, nl40, nl44, nl48, nl57, nl59, nl60, nl63, nl64, nl99, nl100, nl101, nl111, nl112, nl126, nl128, nl200, nl504, nl9999, nl65521, zz_ald, zz_ast, zz_let, zz_call, zz_put, zz_rem, zz_div, zz_rz, zz_rz0, zz_rz1, pk_mul, nI_add, pk_sub, b2_0, b2_1, nI_leI, nI_ltI, nI_eq, X4_canBow_s hT hV, X4_debt_s hT]
    by_cases e : d i j < 9
    · have e' : ¬ 9 ≤ d i j := by omega
      by_cases a : o_bow K d i j <;> simp [a, e, e']
    · have e' : 9 ≤ d i j := by omega
      by_cases a : o_bow K d i j <;> simp [a, e, e']
  · have hj' := hj (by omega)
    simp (disch := omega) only [nl0, nl1, nl2, nl3, nl4, nl5, nl6, nl7, nl8, nl9, nl10, nl32, nl40, nl44, nl48, nl57, nl59, nl60, nl63, nl64, nl99, nl100, nl101, nl111, nl112, nl126, nl128, nl200, nl504, nl9999, nl65521, zz_ald, zz_ast, zz_let, zz_call, zz_put, zz_rem, zz_div, zz_rz, zz_rz0, zz_rz1, pk_mul, nI_add, pk_sub, b2_0, b2_1, nI_leI, nI_ltI, nI_eq, X4_canBowAtOnce_s hT hV]
    simp
  · simp (disch := omega) only [nl0, nl1, nl2, nl3, nl4, nl5, nl6, nl7, nl8, nl9, nl10, nl32, nl40, nl44, nl48, nl57, nl59, nl60, nl63, nl64, nl99, nl100, nl101, nl111, nl112, nl126, nl128, nl200, nl504, nl9999, nl65521, zz_ald, zz_ast, zz_let, zz_call, zz_put, zz_rem, zz_div, zz_rz, zz_rz0, zz_rz1, pk_mul, nI_add, pk_sub, b2_0, b2_1, nI_leI, nI_ltI, nI_eq, X4_isAlive_s hT]
    simp
  · simp (disch := omega) only [nl0, nl1, nl2, nl3, nl4, nl5, nl6, nl7, nl8, nl9, nl10, nl32, nl40, nl44, nl48, nl57, nl59, nl60, nl63, nl64, nl99, nl100, nl101, nl111, nl112, nl126, nl128, nl200, nl504, nl9999, nl65521, zz_ald, zz_ast, zz_let, zz_call, zz_put, zz_rem, zz_div, zz_rz, zz_rz0, zz_rz1, pk_mul, nI_add, pk_sub, b2_0, b2_1, nI_leI, nI_ltI, nI_eq]
    simp
theorem X4_paysToday_s (hT : TC M t n day ea al K S d) (hV : t_ok n al K d) (hday : day < 2 ^ 30) (hi : i < n) : X4_paysToday t (nI i) M = some (b2 (o_py K day i), M) := by
  obtain ⟨h0, h1, h2, h3, hk, hs, hd, ho⟩ := id hT
  have w := hV.1
  have q := hV.2.2.1 i hi
  unfold X4_paysToday
  simp (disch := omega) only [nl0, nl1, nl2, nl3, nl4, nl5, nl6, nl7, nl8, nl9, nl10, nl32, nl40, nl44, nl48, nl57, nl59, nl60, nl63, nl64, nl99, nl100, nl101, nl111, nl112, nl126, nl128, nl200, nl504, nl9999, nl65521, zz_ald, zz_ast, zz_let, zz_call, zz_put, zz_rem, zz_div, zz_rz, zz_rz0, zz_rz1, pk_mul, nI_add, pk_sub, b2_0, b2_1, nI_leI, nI_ltI, nI_eq, hk, h1]
  unfold o_py
  by_cases a : K i = 3 <;> by_cases b : day % 2 = 0 <;> simp [a, b]
theorem X4_setDebt_s {v : Nat} (hT : TC M t n day ea al K S d) (hi : i < 8) (hj : j < 8) : ∃ M', X4_setDebt t (nI i) (nI j) (nI v) M = some ((), M') ∧ TC M' t n day ea al K S (d_up d i j v) ∧ Fr t (t + 5) M M' := by
  obtain ⟨h0, h1, h2, h3, hk, hs, hd, ho⟩ := id hT
  have e := d_row_up (d := d) (i := i) (j := j) (v := v) hj
  have e3 : nI (d_row d i) + (nI v - nI (d i j)) = nI (d_row (d_up d i j v) i) := by
    have a : nI (d_row d i) + nI v = nI (d_row (d_up d i j v) i) + nI (d i j) := by rw [nI_add, nI_add, e]
    rw [Int32.sub_eq_add_neg, ← Int32.add_assoc, a, Int32.add_assoc, ← Int32.sub_eq_add_neg, Int32.sub_self, Int32.add_zero]
  refine ⟨me_upd (me_upd M (t + 4) i (nI (d_row (d_up d i j v) i))) (t + 3) (8 * i + j) (nI v), ?_, ?_, ?_⟩
  · unfold X4_setDebt
    simp (disch := omega) only [nl8, pk_mul, nI_add, zz_ald, zz_ast, zz_let, hd, ho]
    rw [e3]
  · refine ⟨?_, ?_, ?_, ?_, ?_, ?_, ?_, ?_⟩
    · rw [up_c (by omega), up_c (by omega)]; exact h0
    · rw [up_c (by omega), up_c (by omega)]; exact h1
    · rw [up_c (by omega), up_c (by omega)]; exact h2
    · rw [up_c (by omega), up_c (by omega)]; exact h3
    · rw [up_c (by omega), up_c (by omega)]; exact hk
    · rw [up_c (by omega), up_c (by omega)]; exact hs
    · intro a b ha hb
      by_cases h : a = i ∧ b = j
      · rw [h.1, h.2, up_s, d_up_s]
      · rw [up_j (by omega), up_c (by omega), d_up_n (by omega)]
        exact hd a b ha hb
    · intro a ha
      rw [up_c (by omega)]
      by_cases h : a = i
      · rw [h, up_s]
      · rw [up_j h, d_row_ne h]
        exact ho a ha
  · exact (Fr.up (by omega) (by omega)).tr (Fr.up (by omega) (by omega))
theorem X4_oweOneMore_s (hT : TC M t n day ea al K S d) (hV : t_ok n al K d) (hi : i < 8) (hj : j < 8) : ∃ M', X4_oweOneMore t (nI i) (nI j) M = some ((), M') ∧ TC M' t n day ea al K S (o_more d i j) ∧ Fr t (t + 5) M M' := by
  have q1 := hV.2.2.2.1 i j
  obtain ⟨M', e, hT', hF⟩ := X4_setDebt_s (v := if d i j + 1 < 9 then d i j + 1 else 9) hT hi hj
  refine ⟨M', ?_, hT', hF⟩
  unfold X4_oweOneMore
  simp (disch := omega) only [nl0, nl1, nl2, nl3, nl4, nl5, nl6, nl7, nl8, nl9, nl10, nl32, nl40, nl44, nl48, nl57, nl59, nl60, nl63, nl64, nl99, nl100, nl101, nl111, nl112, nl126, nl128, nl200, nl504, nl9999, nl65521, zz_ald, zz_ast, zz_let, zz_call, zz_put, zz_rem, zz_div, zz_rz, zz_rz0, zz_rz1, pk_mul, nI_add, pk_sub, b2_0, b2_1, nI_leI, nI_ltI, nI_eq, X4_debt_s hT]
  rw [show (if d i j + 1 < 9 then nI (d i j + 1) else nI 9) = nI (if d i j + 1 < 9 then d i j + 1 else 9) from by split <;> rfl, e, zz_call]
theorem X4_pay_s (hT : TC M t n day ea al K S d) (hV : t_ok n al K d) (hday : day < 2 ^ 30) (hi : i < n) (hj : j < 8) : ∃ M', X4_pay t (nI i) (nI j) M = some ((), M') ∧ TC M' t n day ea al K S (o_pay K day d i j) ∧ Fr t (t + 5) M M' := by
  obtain ⟨h0, h1, h2, h3, hk, hs, hd, ho⟩ := id hT
  have w := hV.1
  have q1 := hV.2.2.2.1 i j
  have q3 := hV.2.2.1 i hi
  unfold X4_pay o_pay
  simp (disch := omega) only [nl0, nl1, nl2, nl3, nl4, nl5, nl6, nl7, nl8, nl9, nl10, nl32, nl40, nl44, nl48, nl57, nl59, nl60, nl63, nl64, nl99, nl100, nl101, nl111, nl112, nl126, nl128, nl200, nl504, nl9999, nl65521, zz_ald, zz_ast, zz_let, zz_call, zz_put, zz_rem, zz_div, zz_rz, zz_rz0, zz_rz1, pk_mul, nI_add, pk_sub, b2_0, b2_1, nI_leI, nI_ltI, nI_eq, X4_paysToday_s hT hV hday hi, X4_debt_s hT, hk]
  by_cases a : o_py K day i = false
  · rw [if_pos a, if_neg (by simp [a])]
    exact ⟨M, rfl, hT, Fr.rf⟩
  · rw [if_neg a]
    by_cases b : d i j = 0
    · rw [if_pos (show d i j ≤ 0 by omega), if_neg (show ¬ (o_py K day i = true ∧ 0 < d i j) by omega)]
      exact ⟨M, rfl, hT, Fr.rf⟩
    · have hq : o_py K day i = true ∧ 0 < d i j := ⟨by simpa using a, by omega⟩
      rw [if_neg (show ¬ d i j ≤ 0 by omega), if_pos hq]
      by_cases c : K i = 2
      · obtain ⟨M', e, hT', hF⟩ := X4_setDebt_s (v := 0) hT (i := i) (j := j) (by omega) hj
        rw [if_neg (not_not_intro c), if_pos c, e]
        exact ⟨M', rfl, hT', hF⟩
      · obtain ⟨M', e, hT', hF⟩ := X4_setDebt_s (v := d i j - 1) hT (i := i) (j := j) (by omega) hj
        rw [if_pos c, if_neg c, e]
        exact ⟨M', rfl, hT', hF⟩
end TOWN
