/-! ===== leaves of both sides ===== -/
theorem fo_stop {S : Type} {f : Nat → S → S} {a : Nat} : ∀ (b : Nat) (s : S), (∀ i z, a ≤ i → i < a + b → f i z = z) → fo f (a + b) s = fo f a s := by
  intro b
  induction b with
  | zero => intro s _; rfl
  | succ b ih =>
    intro s h
    show f (a + b) (fo f (a + b) s) = fo f a s
    rw [h _ _ (by omega) (by omega), ih s (fun i z h1 h2 => h i z h1 (by omega))]
theorem fo_ext {S : Type} {f g : Nat → S → S} : ∀ (N : Nat) (s : S), (∀ i z, i < N → f i z = g i z) → fo f N s = fo g N s := by
  intro N
  induction N with
  | zero => intro s _; rfl
  | succ N ih =>
    intro s h
    show f N (fo f N s) = g N (fo g N s)
    rw [ih s (fun i z hi => h i z (by omega)), h N _ (by omega)]
section LEAF
variable {M : Mem} {t t1 n day ea al i j : Nat} {K S : Nat → Nat} {d : Dm}
theorem d_zero (hV : t_ok n al K d) (h : n ≤ i ∨ n ≤ j) : d i j = 0 := by
  by_cases z : d i j = 0
  · exact z
  · have := hV.2.2.2.2 i j z
    omega
theorem d_row_zero (hV : t_ok n al K d) (h : n ≤ i) : d_row d i = 0 := by
  have := d_sm_ext (f := d i) (g := fun _ => 0) 8 (fun b _ => d_zero hV (Or.inl h))
  unfold d_row
  rw [this]
  rfl
theorem d_col_zero (hV : t_ok n al K d) (h : n ≤ j) : d_col d j = 0 := by
  have := d_sm_ext (f := fun a => d a j) (g := fun _ => 0) 8 (fun b _ => d_zero hV (Or.inr h))
  unfold d_col
  rw [this]
  rfl
theorem d_col_n (hV : t_ok n al K d) : d_sm (fun i => d i j) n = d_col d j := by
  have w := hV.1
  have := d_sm_0 (f := fun i => d i j) (a := n) (8 - n) (fun i h1 h2 => d_zero hV (Or.inl h1))
  rw [← this, show n + (8 - n) = 8 by omega]
  rfl
theorem d_all_n (hV : t_ok n al K d) : d_sm (d_row d) n = d_all d := by
  have w := hV.1
  have := d_sm_0 (f := d_row d) (a := n) (8 - n) (fun i h1 h2 => d_row_zero hV h1)
  rw [← this, show n + (8 - n) = 8 by omega]
  rfl
theorem t_ok.col (hV : t_ok n al K d) (j : Nat) : d_col d j ≤ 72 := d_sm_le (c := 9) (fun i => hV.2.2.2.1 i j) 8
theorem X4_owedTo_s (hT : TC M t n day ea al K S d) (hV : t_ok n al K d) (hj : j < 8) : X4_owedTo t (nI j) M = some (nI (d_col d j), M) := by
  have w := hV.1
  unfold X4_owedTo
  rw [← d_col_n hV]
  refine lp (S := Int32 × Int32 × Mem) (fun f s => X4_owedTo_4 t (nI j) f s.1 s.2.1 s.2.2) (fun k s => s = (nI (d_sm (fun i => d i j) k), nI k, M)) (fun r => r = some (nI (d_sm (fun i => d i j) n), M)) n ?_ ?_ 0 FU (nI 0, nI 0, M) (by omega) (FU_lt (by omega)) rfl
  · intro k f s hk e
    subst e
    left
    refine ⟨(nI (d_sm (fun i => d i j) (k + 1)), nI (k + 1), M), ?_, rfl⟩
    show X4_owedTo_4 t (nI j) (f + 1) (nI (d_sm (fun i => d i j) k)) (nI k) M = X4_owedTo_4 t (nI j) f (nI (d_sm (fun i => d i j) k + d k j)) (nI (k + 1)) M
    rw [X4_owedTo_4, hT.1]
    simp (disch := omega) only [nl0, nl1, nl2, nl3, nl4, nl5, nl6, nl7, nl8, nl9, nl10, nl32, nl40, nl44, nl48, nl57, nl59, nl60, nl63, nl64, nl99, nl100, nl101, nl111, nl112, nl126, nl128, nl200, nl504, nl9999, nl65521, zz_ald, zz_ast, zz_let, zz_call, zz_put, zz_rem, zz_div, zz_rz, zz_rz0, zz_rz1, pk_mul, nI_add, pk_sub, b2_0, b2_1, nI_leI, nI_ltI, nI_eq, X4_debt_s hT]
    rw [if_neg (by omega)]
  · intro f s e
    subst e
    show X4_owedTo_4 t (nI j) (f + 1) (nI (d_sm (fun i => d i j) n)) (nI n) M = _
    rw [X4_owedTo_4, hT.1, if_pos (nI_le (Nat.le_refl _) (by omega))]
theorem X4_allOwed_s (hT : TC M t n day ea al K S d) (hV : t_ok n al K d) : X4_allOwed t M = some (nI (d_all d), M) := by
  have w := hV.1
  obtain ⟨h0, h1, h2, h3, hk, hs, hd, ho⟩ := id hT
  unfold X4_allOwed
  rw [← d_all_n hV]
  refine lp (S := Int32 × Int32 × Mem) (fun f s => X4_allOwed_4 t f s.1 s.2.1 s.2.2) (fun k s => s = (nI (d_sm (d_row d) k), nI k, M)) (fun r => r = some (nI (d_sm (d_row d) n), M)) n ?_ ?_ 0 FU (nI 0, nI 0, M) (by omega) (FU_lt (by omega)) rfl
  · intro k f s hk e
    subst e
    left
    refine ⟨(nI (d_sm (d_row d) (k + 1)), nI (k + 1), M), ?_, rfl⟩
    show X4_allOwed_4 t (f + 1) (nI (d_sm (d_row d) k)) (nI k) M = X4_allOwed_4 t f (nI (d_sm (d_row d) k + d_row d k)) (nI (k + 1)) M
    rw [X4_allOwed_4, hT.1]
    simp (disch := omega) only [nl0, nl1, nl2, nl3, nl4, nl5, nl6, nl7, nl8, nl9, nl10, nl32, nl40, nl44, nl48, nl57, nl59, nl60, nl63, nl64, nl99, nl100, nl101, nl111, nl112, nl126, nl128, nl200, nl504, nl9999, nl65521, zz_ald, zz_ast, zz_let, zz_call, zz_put, zz_rem, zz_div, zz_rz, zz_rz0, zz_rz1, pk_mul, nI_add, pk_sub, b2_0, b2_1, nI_leI, nI_ltI, nI_eq, ho]
    rw [if_neg (by omega)]
  · intro f s e
    subst e
    show X4_allOwed_4 t (f + 1) (nI (d_sm (d_row d) n)) (nI n) M = _
    rw [X4_allOwed_4, hT.1, if_pos (nI_le (Nat.le_refl _) (by omega))]
def o_stuck (d : Dm) (k : Nat) : Nat := fo (fun i x => if 0 < d_row d i + d_col d i then x ||| 2 ^ i else x) k 0
theorem o_stuck_n (hV : t_ok n al K d) : o_stuck d 8 = o_stuck d n := by
  have w := hV.1
  unfold o_stuck
  rw [show 8 = n + (8 - n) by omega]
  refine fo_stop _ _ (fun i z h1 h2 => if_neg ?_)
  rw [d_row_zero hV h1, d_col_zero hV h1]
  omega
theorem X4_stuckBits_s (hT : TC M t n day ea al K S d) (hV : t_ok n al K d) : X4_stuckBits t M = some (nI (o_stuck d n), M) := by
  have w := hV.1
  obtain ⟨h0, h1, h2, h3, hk, hs, hd, ho⟩ := id hT
  unfold X4_stuckBits
  refine lp (S := Int32 × Int32 × Mem) (fun f s => X4_stuckBits_4 t f s.1 s.2.1 s.2.2) (fun k s => s = (nI (o_stuck d k), nI k, M)) (fun r => r = some (nI (o_stuck d n), M)) n ?_ ?_ 0 FU (nI 0, nI 0, M) (by omega) (FU_lt (by omega)) rfl
  · intro k f s hk e
    subst e
    left
    have r := hV.row k
    have r2 := hV.col k
    refine ⟨(nI (o_stuck d (k + 1)), nI (k + 1), M), ?_, rfl⟩
    have e1 : o_stuck d (k + 1) = if 0 < d_row d k + d_col d k then o_stuck d k ||| 2 ^ k else o_stuck d k := rfl
    show X4_stuckBits_4 t (f + 1) (nI (o_stuck d k)) (nI k) M = X4_stuckBits_4 t f (nI (o_stuck d (k + 1))) (nI (k + 1)) M
    rw [X4_stuckBits_4, hT.1, zz_shl (by omega), e1]
    simp (disch := omega) only [nl0, nl1, nl2, nl3, nl4, nl5, nl6, nl7, nl8, nl9, nl10, nl32, nl40, nl44, nl48, nl57, nl59, nl60, nl63, nl64, nl99, nl100, nl101, nl111, nl112, nl126, nl128, nl200, nl504, nl9999, nl65521, zz_ald, zz_ast, zz_let, zz_call, zz_put, zz_rem, zz_div, zz_rz, zz_rz0, zz_rz1, pk_mul, nI_add, pk_sub, b2_0, b2_1, nI_leI, nI_ltI, nI_eq, ho, X4_owedTo_s hT hV, fa_or]
    rw [if_neg (by omega)]
    by_cases a : 0 < d_row d k
    · rw [if_pos a, if_pos (by omega)]
    · rw [if_neg a]
      by_cases b : d_col d k ≤ 0
      · rw [if_pos b, if_neg (by omega)]
      · rw [if_neg b, if_pos (by omega)]
  · intro f s e
    subst e
    show X4_stuckBits_4 t (f + 1) (nI (o_stuck d n)) (nI n) M = _
    rw [X4_stuckBits_4, hT.1, if_pos (nI_le (Nat.le_refl _) (by omega))]
theorem X4_copyFrom_s (hT : TC M t1 n day ea al K S d) (hn : n ≤ 8) (h : t + 5 ≤ t1 ∨ t1 + 5 ≤ t) : ∃ M', X4_copyFrom t t1 M = some ((), M') ∧ TC M' t n day ea al K S d ∧ Fr t (t + 5) M M' := by
  obtain ⟨h0, h1, h2, h3, hk, hs, hd, ho⟩ := id hT
  unfold X4_copyFrom
  simp only [zz_put, nl0, nl8, nl64]
  rw [zz_cpy (by omega) (by omega) (by omega), zz_cpy (by omega) (by omega) (by omega), zz_cpy (by omega) (by omega) (by omega), zz_cpy (by omega) (by omega) (by omega)]
  refine ⟨_, rfl, ?_, ?_⟩
  · refine ⟨?_, ?_, ?_, ?_, ?_, ?_, ?_, ?_⟩
    · simp (disch := omega) only [rw_c, up_j, up_s, up_c]; exact h0
    · simp (disch := omega) only [rw_c, up_j, up_s, up_c]; exact h1
    · simp (disch := omega) only [rw_c, up_j, up_s, up_c]; exact h2
    · simp (disch := omega) only [rw_c, up_j, up_s, up_c]; exact h3
    · intro a ha
      simp (disch := omega) only [rw_c, rw_s, up_c, sb_cpy0]
      exact hk a ha
    · intro a ha
      simp (disch := omega) only [rw_c, rw_s, up_c, sb_cpy0]
      exact hs a ha
    · intro a b ha hb
      simp (disch := omega) only [rw_c, rw_s, up_c, sb_cpy0]
      exact hd a b ha hb
    · intro a ha
      simp (disch := omega) only [rw_c, rw_s, up_c, sb_cpy0]
      exact ho a ha
  · intro c hc
    simp (disch := omega) only [rw_c, up_c]
theorem zz_in {x a c : Int32} : X6_in x.toInt64 a.toInt64 c.toInt64 M = some (b2 (decide (a ≤ x) && decide (x ≤ c)), M) := by
  have w1 : x.toInt64 < a.toInt64 ↔ x < a := by rw [Int64.lt_iff_toInt_lt, Int32.lt_iff_toInt_lt, Int32.toInt_toInt64, Int32.toInt_toInt64]
  have w2 : c.toInt64 < x.toInt64 ↔ c < x := by rw [Int64.lt_iff_toInt_lt, Int32.lt_iff_toInt_lt, Int32.toInt_toInt64, Int32.toInt_toInt64]
  unfold X6_in
  simp only [lg_cmp_lt, lg_cmp_gt, w1, w2]
  by_cases h1 : x < a
  · rw [if_pos h1, decide_eq_false (Int32.not_le.2 h1)]; rfl
  · rw [if_neg h1, decide_eq_true (Int32.not_lt.1 h1)]
    by_cases h2 : c < x
    · rw [if_pos h2, decide_eq_false (Int32.not_le.2 h2)]; rfl
    · rw [if_neg h2, decide_eq_true (Int32.not_lt.1 h2)]; rfl
def pc (a : Nat) : Nat := a % 2 + a / 2 % 2 + a / 4 % 2 + a / 8 % 2 + a / 16 % 2 + a / 32 % 2 + a / 64 % 2
def bcx (x : Int32) : Int32 := match J6_bitCount_0f7a4 x (fun _ _ => 0) with
  | none => 0
  | some q => q.1
theorem bcx_eq (x : Int32) : J6_bitCount_0f7a4 x M = some (bcx x, M) := rfl
theorem bcx_pc : ∀ a, a < 128 → bcx (nI a) = nI (pc a) := by decide +kernel
theorem J6_bitCount_s {a : Nat} (ha : a < 128) : J6_bitCount_0f7a4 (nI a) M = some (nI (pc a), M) := by rw [bcx_eq, bcx_pc a ha]
theorem pc_step : ∀ a, a < 128 → a ≠ 0 → a &&& (a - 1) < a ∧ pc (a &&& (a - 1)) + 1 = pc a := by decide +kernel
theorem X6_bits_4_s : ∀ (m a c f : Nat), a ≤ m → a < 128 → a < f → X6_bits_4 f (nI c) (nI a) M = some (nI (c + pc a), M) := by
  intro m
  induction m with
  | zero =>
    intro a c f h1 h2 h3
    obtain ⟨f, rfl⟩ : ∃ g, f = g + 1 := ⟨f - 1, by omega⟩
    rw [show a = 0 by omega, X6_bits_4]
    rfl
  | succ m ih =>
    intro a c f h1 h2 h3
    obtain ⟨f, rfl⟩ : ∃ g, f = g + 1 := ⟨f - 1, by omega⟩
    rw [X6_bits_4]
    by_cases z : a = 0
    · rw [z]; rfl
    · obtain ⟨g1, g2⟩ := pc_step a h2 z
      rw [if_neg (nI_ne0 (by omega) (by omega)), zz_let, nl1, pk_sub (by omega), fa_and, nI_add, ih _ _ _ (by omega) (by omega) (by omega), ← g2]
      rw [Nat.add_assoc, Nat.add_comm 1]
theorem X6_bits_s {a : Nat} (ha : a < 128) : X6_bits (nI a) M = some (nI (pc a), M) := by
  unfold X6_bits
  have := X6_bits_4_s (M := M) a a 0 FU (Nat.le_refl _) ha (FU_lt (by omega))
  rw [Nat.zero_add] at this
  exact this
theorem J7_fill_s {c len : Nat} (hl : len < 1000) : ∃ M', J7_fill_53178 c len (nI 0) M = some ((), M') ∧ (∀ k, k < len → M' c k = nI 0) ∧ (∀ a, a ≠ c → M' a = M a) := by
  unfold J7_fill_53178
  rw [zz_let]
  refine lp (S := Int32 × Mem) (fun f s => J7_fill_53178_5 c len (nI 0) (Nat.toInt32 len) f s.1 s.2) (fun k s => s.1 = nI k ∧ (∀ q, q < k → s.2 c q = nI 0) ∧ (∀ a, a ≠ c → s.2 a = M a)) (fun r => ∃ M', r = some ((), M') ∧ (∀ k, k < len → M' c k = nI 0) ∧ (∀ a, a ≠ c → M' a = M a)) len ?_ ?_ 0 FU (nI 0, M) (by omega) (FU_lt (by omega)) ⟨rfl, fun q hq => by omega, fun a ha => rfl⟩
  · intro k f s hk ⟨e1, hT1, hF1⟩
    obtain ⟨x, M1⟩ := s
    dsimp only at e1 hT1 hF1
    subst e1
    left
    refine ⟨(nI (k + 1), me_upd M1 c k (nI 0)), ?_, rfl, fun q hq => ?_, fun a ha => ?_⟩
    · show J7_fill_53178_5 c len (nI 0) (nI len) (f + 1) (nI k) M1 = J7_fill_53178_5 c len (nI 0) (nI len) f (nI (k + 1)) _
      rw [J7_fill_53178_5, if_neg (nI_ge hk (by omega)), zz_ast hk (by omega), nI_1]
    · show me_upd M1 c k (nI 0) c q = nI 0
      by_cases hz : q = k
      · rw [hz, up_s]
      · rw [up_j hz]; exact hT1 q (by omega)
    · show me_upd M1 c k (nI 0) a = M a
      rw [up_c ha]; exact hF1 a ha
  · intro f s ⟨e1, hT1, hF1⟩
    obtain ⟨x, M1⟩ := s
    dsimp only at e1 hT1 hF1
    subst e1
    refine ⟨M1, ?_, hT1, hF1⟩
    show J7_fill_53178_5 c len (nI 0) (nI len) (f + 1) (nI len) M1 = _
    rw [J7_fill_53178_5, if_pos (nI_le (Nat.le_refl _) (by omega))]
end LEAF
