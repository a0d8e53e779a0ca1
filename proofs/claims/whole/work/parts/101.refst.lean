theorem zz_sh1 {i : Nat} (hi : i < 31) : nI 1 <<< (nI i &&& 31) = nI (2 ^ i) := zz_shl hi
section REFST
variable {M M' : Mem} {t b n day al ea kp i j : Nat} {K S : Nat → Nat} {d0 d : Dm} {s : Ts} {A A1 A2 : Al} {tx Z : Tx}
theorem FrR.dbt {k : Nat} {x : Int32} (hk : k < 64) : FrR t b M (me_upd M (t + 13) (64 * b + k) x) := ⟨fun c hc => up_c (by omega), fun k hk => up_j (by omega), fun k hk => ⟨by rw [up_c (by omega)], by rw [up_c (by omega)], by rw [up_c (by omega)]⟩⟩
theorem X6_copy_s {a : Nat} (hT : TR M t a n day al K S d) (ha : a < 3) (hb : b < 3) (hab : a ≠ b) : ∃ M', X6_copy t (nI a) (nI b) M = some ((), M') ∧ TR M' t b n day al K S d ∧ FrR t b M M' := by
  obtain ⟨h0, h1, h2, hk, hs, hd⟩ := id hT
  unfold X6_copy
  refine lp (S := Int32 × Mem) (fun f s => X6_copy_2 t (nI a) (nI b) f s.1 s.2) (fun k s => s.1 = nI k ∧ (∀ q, q < k → s.2 (t + 13) (64 * b + q) = M (t + 13) (64 * a + q)) ∧ FrR t b M s.2) (fun r => ∃ M', r = some ((), M') ∧ TR M' t b n day al K S d ∧ FrR t b M M') 64 ?_ ?_ 0 FU (nI 0, M) (by omega) (FU_lt (by omega)) ⟨rfl, fun q hq => by omega, FrR.rf⟩
  · intro k f s hk ⟨e1, hT1, hF1⟩
    obtain ⟨x, M1⟩ := s
    dsimp only at e1 hT1 hF1
    subst e1
    left
    refine ⟨(nI (k + 1), me_upd M1 (t + 13) (64 * b + k) (M1 (t + 13) (64 * a + k))), ?_, rfl, fun q hq => ?_, hF1.tr (FrR.dbt hk)⟩
    · show X6_copy_2 t (nI a) (nI b) (f + 1) (nI k) M1 = X6_copy_2 t (nI a) (nI b) f (nI (k + 1)) _
      rw [X6_copy_2]
      simp (disch := omega) only [nl0, nl1, nl2, nl3, nl4, nl5, nl6, nl7, nl8, nl9, nl10, nl32, nl40, nl44, nl48, nl57, nl59, nl60, nl63, nl64, nl99, nl100, nl101, nl111, nl112, nl126, nl128, nl200, nl504, nl9999, nl65521, zz_ald, zz_ast, zz_let, zz_call, zz_put, zz_rem, zz_div, zz_rz, zz_rz0, zz_rz1, pk_mul, nI_add, pk_sub, b2_0, b2_1, nI_leI, nI_ltI, nI_eq]
      rw [if_neg (by omega)]
    · show me_upd M1 (t + 13) (64 * b + k) (M1 (t + 13) (64 * a + k)) (t + 13) (64 * b + q) = _
      by_cases hz : q = k
      · rw [hz, up_s]
        exact hF1.2.1 _ (by omega)
      · rw [up_j (by omega)]
        exact hT1 q (by omega)
  · intro f s ⟨e1, hT1, hF1⟩
    obtain ⟨x, M1⟩ := s
    dsimp only at e1 hT1 hF1
    subst e1
    obtain ⟨g1, g2, g3⟩ := hF1
    obtain ⟨k1, k2, k3⟩ := g3 a hab
    show ∃ M', X6_copy_2 t (nI a) (nI b) (f + 1) (nI 64) M1 = _ ∧ _
    rw [X6_copy_2]
    simp (disch := omega) only [nl0, nl1, nl2, nl3, nl4, nl5, nl6, nl7, nl8, nl9, nl10, nl32, nl40, nl44, nl48, nl57, nl59, nl60, nl63, nl64, nl99, nl100, nl101, nl111, nl112, nl126, nl128, nl200, nl504, nl9999, nl65521, zz_ald, zz_ast, zz_let, zz_call, zz_put, zz_rem, zz_div, zz_rz, zz_rz0, zz_rz1, pk_mul, nI_add, pk_sub, b2_0, b2_1, nI_leI, nI_ltI, nI_eq]
    rw [if_pos (by omega)]
    refine ⟨_, rfl, ⟨?_, ?_, ?_, ?_, ?_, ?_⟩, ?_⟩
    · rw [up_s, up_c (by omega), up_c (by omega), k3]; exact h0
    · rw [up_c (by omega), up_s, up_c (by omega), k2]; exact h1
    · rw [up_c (by omega), up_c (by omega), up_s, k1]; exact h2
    · rw [up_c (by omega), up_c (by omega), up_c (by omega), g1 _ (by omega)]; exact hk
    · rw [up_c (by omega), up_c (by omega), up_c (by omega), g1 _ (by omega)]; exact hs
    · intro x y hx hy
      rw [up_c (by omega), up_c (by omega), up_c (by omega), Nat.add_assoc, hT1 _ (by omega), ← Nat.add_assoc]
      exact hd x y hx hy
    · refine ⟨fun c hc => ?_, fun k hk => ?_, fun k hk => ⟨?_, ?_, ?_⟩⟩
      · rw [up_c (by omega), up_c (by omega), up_c (by omega)]; exact g1 c hc
      · rw [up_c (by omega), up_c (by omega), up_c (by omega)]; exact g2 k hk
      · rw [up_c (by omega), up_c (by omega), up_j hk]; exact (g3 k hk).1
      · rw [up_c (by omega), up_j hk, up_c (by omega)]; exact (g3 k hk).2.1
      · rw [up_j hk, up_c (by omega), up_c (by omega)]; exact (g3 k hk).2.2
theorem X6_beginBut_68_s {x2 : Int32} {but : Nat} (hT : TR M t b n 0 (2 ^ n - 1) K S d0) (hA : RA M t 0 A) (hV : t_ok n (2 ^ n - 1) K d0) (hAll : a_all n A) (hb : b < 3) (hx : ∀ k, k < 40 → (nI k = x2 ↔ k = but)) :
    ∃ M', X6_beginBut_68 t (nI b) x2 FU (nI 0) M = some ((), M') ∧ (∀ s', s' = o_rep n K A but A.1 (2 ^ n - 1, 0, d0) → TR M' t b n s'.2.1 s'.1 K S s'.2.2 ∧ t_ok n s'.1 K s'.2.2 ∧ s'.2.1 ≤ 9 * A.1) ∧ FrR t b M M' := by
  have w := hV.1
  have hc := hAll.1
  refine lp (S := Int32 × Mem) (fun f z => X6_beginBut_68 t (nI b) x2 f z.1 z.2) (fun k z => z.1 = nI k ∧ (∀ s', s' = o_rep n K A but k (2 ^ n - 1, 0, d0) → TR z.2 t b n s'.2.1 s'.1 K S s'.2.2 ∧ t_ok n s'.1 K s'.2.2 ∧ s'.2.1 ≤ 9 * k) ∧ FrR t b M z.2)
    (fun r => ∃ M', r = some ((), M') ∧ (∀ s', s' = o_rep n K A but A.1 (2 ^ n - 1, 0, d0) → TR M' t b n s'.2.1 s'.1 K S s'.2.2 ∧ t_ok n s'.1 K s'.2.2 ∧ s'.2.1 ≤ 9 * A.1) ∧ FrR t b M M') A.1 ?_ ?_ 0 FU (nI 0, M) (by omega) (FU_lt (by omega)) ⟨rfl, fun s' e => by rw [e]; exact ⟨hT, hV, Nat.le_refl _⟩, FrR.rf⟩
  · intro k f z hk ⟨e1, hT1, hF1⟩
    obtain ⟨x, M1⟩ := z
    dsimp only at e1 hT1 hF1
    subst e1
    left
    have hA1 : RA M1 t 0 A := hA.fr (fun c h1 h2 => hF1.1 c (by omega))
    obtain ⟨g0, g1⟩ := hA1
    obtain ⟨g2, g3, g4⟩ := g1 k hk
    rw [show 40 * 0 + k = k by omega] at g2 g3 g4
    have ha := hAll.2 k hk
    have er : ∀ b, o_rep n K A but (b + 1) (2 ^ n - 1, 0, d0) = if b ≠ but ∧ o_can (o_rep n K A but b (2 ^ n - 1, 0, d0)).1 K (o_rep n K A but b (2 ^ n - 1, 0, d0)).2.2 (A.2 b).1 (A.2 b).2.1 (A.2 b).2.2 = true then o_do n K (A.2 b).1 (A.2 b).2.1 (A.2 b).2.2 (o_rep n K A but b (2 ^ n - 1, 0, d0)) else o_rep n K A but b (2 ^ n - 1, 0, d0) := fun _ => rfl
    rw [er k]
    generalize o_rep n K A but k (2 ^ n - 1, 0, d0) = s1 at hT1 ⊢
    obtain ⟨hT1, hV1, hd1⟩ := hT1 _ rfl
    have pre : ∀ F, X6_beginBut_68 t (nI b) x2 (f + 1) (nI k) M1 = F ↔ (if nI k = x2 then X6_beginBut_68 t (nI b) x2 f (nI (k + 1)) M1 else if o_can s1.1 K s1.2.2 (A.2 k).1 (A.2 k).2.1 (A.2 k).2.2 = false then X6_beginBut_68 t (nI b) x2 f (nI (k + 1)) M1 else s_call (X6_doAct t (nI b) (nI (A.2 k).1) (nI (r_i (A.2 k).1 (A.2 k).2.1)) (nI (r_j (A.2 k).1 (A.2 k).2.2)) M1) fun _ M76 => X6_beginBut_68 t (nI b) x2 f (nI (k + 1)) M76) = F := by
      intro F
      rw [X6_beginBut_68]
      simp (disch := omega) only [nl0, nl1, nl2, nl3, nl4, nl5, nl6, nl7, nl8, nl9, nl10, nl32, nl40, nl44, nl48, nl57, nl59, nl60, nl63, nl64, nl99, nl100, nl101, nl111, nl112, nl126, nl128, nl200, nl504, nl9999, nl65521, zz_ald, zz_ast, zz_let, zz_call, zz_put, zz_rem, zz_div, zz_rz, zz_rz0, zz_rz1, pk_mul, nI_add, pk_sub, b2_0, b2_1, nI_leI, nI_ltI, nI_eq, g0, g2, g3, g4, X6_canDoA_s hT1 hV1 hb ha]
      rw [if_neg (by omega)]
    by_cases hb : k = but
    · refine ⟨(nI (k + 1), M1), ?_, rfl, fun s' e => ?_, hF1⟩
      · show X6_beginBut_68 t (nI b) x2 (f + 1) (nI k) M1 = _
        rw [pre, if_pos ((hx k (by omega)).2 hb)]
      · rw [if_neg (fun h => h.1 hb)] at e
        rw [e]
        exact ⟨hT1, hV1, by omega⟩
    · by_cases hcan : o_can s1.1 K s1.2.2 (A.2 k).1 (A.2 k).2.1 (A.2 k).2.2 = true
      · obtain ⟨M2, e2, hT2, hF2⟩ := X6_doAct_s hT1 hV1 (by omega) (by omega) ha hcan
        refine ⟨(nI (k + 1), M2), ?_, rfl, fun s' e => ?_, hF1.tr hF2⟩
        · show X6_beginBut_68 t (nI b) x2 (f + 1) (nI k) M1 = _
          rw [pre, if_neg (fun h => hb ((hx k (by omega)).1 h)), if_neg (by simp [hcan]), e2]
          rfl
        · rw [if_pos ⟨hb, hcan⟩] at e
          obtain ⟨z1, z2, z3⟩ := hT2 s' e
          exact ⟨z1, z2, by omega⟩
      · refine ⟨(nI (k + 1), M1), ?_, rfl, fun s' e => ?_, hF1⟩
        · show X6_beginBut_68 t (nI b) x2 (f + 1) (nI k) M1 = _
          rw [pre, if_neg (fun h => hb ((hx k (by omega)).1 h)), if_pos (by simpa using hcan)]
        · rw [if_neg (fun h => hcan h.2)] at e
          rw [e]
          exact ⟨hT1, hV1, by omega⟩
  · intro f z ⟨e1, hT1, hF1⟩
    obtain ⟨x, M1⟩ := z
    dsimp only at e1 hT1 hF1
    subst e1
    have hA1 : RA M1 t 0 A := hA.fr (fun c h1 h2 => hF1.1 c (by omega))
    refine ⟨M1, ?_, hT1, hF1⟩
    show X6_beginBut_68 t (nI b) x2 (f + 1) (nI A.1) M1 = _
    rw [X6_beginBut_68]
    simp (disch := omega) only [nl0, nl1, nl2, nl3, nl4, nl5, nl6, nl7, nl8, nl9, nl10, nl32, nl40, nl44, nl48, nl57, nl59, nl60, nl63, nl64, nl99, nl100, nl101, nl111, nl112, nl126, nl128, nl200, nl504, nl9999, nl65521, zz_ald, zz_ast, zz_let, zz_call, zz_put, zz_rem, zz_div, zz_rz, zz_rz0, zz_rz1, pk_mul, nI_add, pk_sub, b2_0, b2_1, nI_leI, nI_ltI, nI_eq, hA1.1]
    rw [if_pos (by omega)]
theorem X6_beginBut_s {x2 : Int32} {but : Nat} (hn : M (t + 2) 0 = nI n) (hK : ∀ i, i < n → M (t + 3) i = nI (K i)) (hS : ∀ i, i < n → M (t + 4) i = nI (S i)) (hf : ∀ i j, i < 8 → j < 8 → M (t + 5) (8 * i + j) = nI (d0 i j)) (hA : RA M t 0 A) (hV : t_ok n (2 ^ n - 1) K d0) (hAll : a_all n A) (hb : b < 3) (hx : ∀ k, k < 40 → (nI k = x2 ↔ k = but)) :
    ∃ M', X6_beginBut t (nI b) x2 M = some ((), M') ∧ (∀ s', s' = o_rep n K A but A.1 (2 ^ n - 1, 0, d0) → TR M' t b n s'.2.1 s'.1 K S s'.2.2 ∧ t_ok n s'.1 K s'.2.2 ∧ s'.2.1 ≤ 9 * A.1) ∧ FrR t b M M' := by
  have w := hV.1
  have h2n : 1 ≤ 2 ^ n := Nat.one_le_two_pow
  unfold X6_beginBut
  have key : ∃ M1, X6_beginBut_2 t (nI b) x2 FU (nI 0) M = X6_beginBut_68 t (nI b) x2 FU (nI 0) M1 ∧ TR M1 t b n 0 (2 ^ n - 1) K S d0 ∧ FrR t b M M1 := by
    refine lp (S := Int32 × Mem) (fun f s => X6_beginBut_2 t (nI b) x2 f s.1 s.2) (fun k s => s.1 = nI k ∧ (∀ q, q < k → s.2 (t + 13) (64 * b + q) = M (t + 5) q) ∧ FrR t b M s.2) (fun r => ∃ M1, r = X6_beginBut_68 t (nI b) x2 FU (nI 0) M1 ∧ TR M1 t b n 0 (2 ^ n - 1) K S d0 ∧ FrR t b M M1) 64 ?_ ?_ 0 FU (nI 0, M) (by omega) (FU_lt (by omega)) ⟨rfl, fun q hq => by omega, FrR.rf⟩
    · intro k f s hk ⟨e1, hT1, hF1⟩
      obtain ⟨x, M1⟩ := s
      dsimp only at e1 hT1 hF1
      subst e1
      left
      refine ⟨(nI (k + 1), me_upd M1 (t + 13) (64 * b + k) (M1 (t + 5) k)), ?_, rfl, fun q hq => ?_, hF1.tr (FrR.dbt hk)⟩
      · show X6_beginBut_2 t (nI b) x2 (f + 1) (nI k) M1 = X6_beginBut_2 t (nI b) x2 f (nI (k + 1)) _
        rw [X6_beginBut_2]
        simp (disch := omega) only [nl0, nl1, nl2, nl3, nl4, nl5, nl6, nl7, nl8, nl9, nl10, nl32, nl40, nl44, nl48, nl57, nl59, nl60, nl63, nl64, nl99, nl100, nl101, nl111, nl112, nl126, nl128, nl200, nl504, nl9999, nl65521, zz_ald, zz_ast, zz_let, zz_call, zz_put, zz_rem, zz_div, zz_rz, zz_rz0, zz_rz1, pk_mul, nI_add, pk_sub, b2_0, b2_1, nI_leI, nI_ltI, nI_eq]
        rw [if_neg (by omega)]
      · show me_upd M1 (t + 13) (64 * b + k) (M1 (t + 5) k) (t + 13) (64 * b + q) = _
        by_cases hz : q = k
        · rw [hz, up_s, hF1.1 _ (by omega)]
        · rw [up_j (by omega)]
          exact hT1 q (by omega)
    · intro f s ⟨e1, hT1, hF1⟩
      obtain ⟨x, M1⟩ := s
      dsimp only at e1 hT1 hF1
      subst e1
      obtain ⟨g1, g2, g3⟩ := hF1
      have hn1 : M1 (t + 2) 0 = nI n := by rw [g1 _ (by omega)]; exact hn
      have hn2 : me_upd (me_upd M1 (t + 14) b (nI (2 ^ n - 1))) (t + 15) b (nI 0) (t + 2) 0 = nI n := by rw [up_c (by omega), up_c (by omega)]; exact hn1
      show ∃ M', X6_beginBut_2 t (nI b) x2 (f + 1) (nI 64) M1 = _ ∧ _
      rw [X6_beginBut_2]
      have e : nI (2 ^ n) - nI 1 = nI (2 ^ n - 1) := pk_sub h2n
      simp (disch := omega) only [nl64, nl0, zz_ald, hn1, zz_sh1, nl1, e, zz_ast, hn2]
      rw [if_pos (nI_le (Nat.le_refl _) (by omega))]
      refine ⟨_, rfl, ⟨?_, ?_, ?_, ?_, ?_, ?_⟩, ?_⟩
      · exact up_s
      · rw [up_c (by omega), up_s]
      · rw [up_c (by omega), up_c (by omega), up_s]
      · rw [up_c (by omega), up_c (by omega), up_c (by omega), g1 _ (by omega)]; exact hK
      · rw [up_c (by omega), up_c (by omega), up_c (by omega), g1 _ (by omega)]; exact hS
      · intro x y hx hy
        rw [up_c (by omega), up_c (by omega), up_c (by omega), Nat.add_assoc, hT1 _ (by omega)]
        exact hf x y hx hy
      · refine ⟨fun c hc => ?_, fun k hk => ?_, fun k hk => ⟨?_, ?_, ?_⟩⟩
        · rw [up_c (by omega), up_c (by omega), up_c (by omega)]; exact g1 c hc
        · rw [up_c (by omega), up_c (by omega), up_c (by omega)]; exact g2 k hk
        · rw [up_c (by omega), up_c (by omega), up_j hk]; exact (g3 k hk).1
        · rw [up_c (by omega), up_j hk, up_c (by omega)]; exact (g3 k hk).2.1
        · rw [up_j hk, up_c (by omega), up_c (by omega)]; exact (g3 k hk).2.2
  obtain ⟨M1, e1, hT1, hF1⟩ := key
  obtain ⟨M2, e2, hT2, hF2⟩ := X6_beginBut_68_s (but := but) hT1 (hA.fr (fun c h1 h2 => hF1.1 c (by omega))) hV hAll hb hx
  refine ⟨M2, ?_, hT2, hF1.tr hF2⟩
  rw [nl0, e1, e2]
theorem X6_owedBehind_s (hT : TR M t b n day al K S d) (hV : t_ok n al K d) (hday : day < 2 ^ 29) (hb : b < 2) : ∃ M', X6_owedBehind t (nI b) M = some (nI (d_all (mpF K day d).2), M') ∧ FrR t 2 M M' := by
  obtain ⟨M1, e1, hT1, hF1⟩ := X6_copy_s (b := 2) hT (by omega) (by omega) (by omega)
  obtain ⟨M2, e2, hT2, hF2, hV2⟩ := X6_makePeace_s hT1 hV hday (by omega)
  refine ⟨M2, ?_, hF1.tr hF2⟩
  unfold X6_owedBehind
  rw [nl2, e1, zz_call, e2, zz_call, X6_allOf_s hT2 (by omega), zz_call]
end REFST
