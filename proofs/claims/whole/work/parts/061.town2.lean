section TOWN2
variable {M : Mem} {t n day ea al i j : Nat} {K S : Nat → Nat} {d : Dm}
theorem o_more_ok (hV : t_ok n al K d) (hi : i < n) (hj : j < n) (hij : i ≠ j) (ai : al.testBit i = true) (aj : al.testBit j = true) : t_ok n al K (o_more d i j) :=
  hV.up (by split <;> omega) (fun _ => ⟨hi, hj, hij, ai, aj⟩)
theorem o_pay_ok (hV : t_ok n al K d) : t_ok n al K (o_pay K day d i j) := by
  unfold o_pay
  split
  · next h =>
    have q := hV.2.2.2.1 i j
    exact hV.up (by split <;> omega) (fun _ => hV.2.2.2.2 i j (by omega))
  · exact hV
theorem o_wk1_ok (hV : t_ok n al K d) (hi : i < n) (hj : j < n) : t_ok n al K (o_wk1 al K i j d) := by
  unfold o_wk1
  split
  · next h => exact o_more_ok hV hi hj h.2.1 h.2.2.1 h.2.2.2
  · exact hV
theorem o_wkr_ok (hV : t_ok n al K d) (hi : i < n) : t_ok n al K (fo (fun j d => o_wk1 al K i j d) n d) :=
  fo_inv (N := n) (fun _ _ hk h => o_wk1_ok h hi hk) n d (Nat.le_refl _) hV
theorem o_wk_ok (hV : t_ok n al K d) : t_ok n al K (o_wk n al K d) :=
  fo_inv (N := n) (fun _ _ hk h => o_wkr_ok h hk) n d (Nat.le_refl _) hV
theorem o_day_ok {s : Ts} (hV : t_ok n s.1 K s.2.2) : t_ok n (o_day n K s).1 K (o_day n K s).2.2 := by
  unfold o_day
  show t_ok n s.1 K (if (s.2.1 + 1) % 7 = 0 then o_wk n s.1 K s.2.2 else s.2.2)
  split
  · exact o_wk_ok hV
  · exact hV
theorem o_rm_I : ∀ al, al < 128 → ∀ i, i < 7 → nI al &&& (((1 : Int32) <<< (nI i &&& 31)) ^^^ (-1 : Int32)) = nI (o_rm al i) := by decide +kernel
theorem o_rm_m : ∀ i, i < 8 → ∀ j, j < 8 → (255 - 2 ^ i).testBit j = !decide (i = j) := by decide +kernel
theorem o_rm_b {a : Nat} (hi : i < 8) (hj : j < 8) : (o_rm a i).testBit j = (a.testBit j && !decide (i = j)) := by
  unfold o_rm
  rw [Nat.testBit_and, o_rm_m i hi j hj]
theorem o_die_ok (hV : t_ok n al K d) (hi : i < n) : t_ok n (o_rm al i) K (o_zap d i) := by
  have w := hV.1
  refine ⟨hV.1, Nat.lt_of_le_of_lt Nat.and_le_left hV.2.1, hV.2.2.1, fun a b => ?_, fun a b h => ?_⟩
  · unfold o_zap
    split
    · omega
    · exact hV.2.2.2.1 a b
  · unfold o_zap at h
    split at h
    · exact absurd rfl h
    · next hc =>
      obtain ⟨h1, h2, h3, h4, h5⟩ := hV.2.2.2.2 a b h
      refine ⟨h1, h2, h3, ?_, ?_⟩
      · rw [o_rm_b (by omega) (by omega), h4, decide_eq_false (by omega)]; rfl
      · rw [o_rm_b (by omega) (by omega), h5, decide_eq_false (by omega)]; rfl
def o_zk (d : Dm) (i k : Nat) : Dm := fun a b => if (a = i ∧ b < k) ∨ (b = i ∧ a < k) then 0 else d a b
theorem X4_bury_s (hT : TC M t n day ea al K S d) (hV : t_ok n al K d) (hi : i < n) : ∃ M', X4_bury t (nI i) M = some ((), M') ∧ TC M' t n day ea (o_rm al i) K S (o_zap d i) ∧ Fr t (t + 5) M M' := by
  have w := hV.1
  have qa := hV.al
  obtain ⟨h0, h1, h2, h3, hk, hs, hd, ho⟩ := id hT
  have hT0 : TC (me_upd M t 3 (nI (o_rm al i))) t n day ea (o_rm al i) K S (o_zk d i 0) := by
    have e : o_zk d i 0 = d := by
      funext a b
      exact if_neg (by omega)
    rw [e]
    refine ⟨?_, ?_, ?_, ?_, ?_, ?_, ?_, ?_⟩
    · rw [up_j (by omega)]; exact h0
    · rw [up_j (by omega)]; exact h1
    · rw [up_j (by omega)]; exact h2
    · exact up_s
    · rw [up_c (by omega)]; exact hk
    · rw [up_c (by omega)]; exact hs
    · rw [up_c (by omega)]; exact hd
    · rw [up_c (by omega)]; exact ho
  have hz : o_zk d i n = o_zap d i := by
    funext a b
    unfold o_zk o_zap
    by_cases h : a = i ∨ b = i
    · rw [if_pos h]
      by_cases h' : (a = i ∧ b < n) ∨ (b = i ∧ a < n)
      · rw [if_pos h']
      · rw [if_neg h']
        by_cases z : d a b = 0
        · exact z
        · have := hV.2.2.2.2 a b z
          omega
    · rw [if_neg h, if_neg (by omega)]
  have key := lp (S := Int32 × Mem) (fun f s => X4_bury_16 t (nI i) f s.1 s.2) (fun k s => s.1 = nI k ∧ TC s.2 t n day ea (o_rm al i) K S (o_zk d i k) ∧ Fr t (t + 5) M s.2)
    (fun r => ∃ M', r = some ((), M') ∧ TC M' t n day ea (o_rm al i) K S (o_zap d i) ∧ Fr t (t + 5) M M') n
    (by
      intro k f s hk ⟨e1, hT1, hF1⟩
      obtain ⟨x, M1⟩ := s
      dsimp only at e1 hT1 hF1
      subst e1
      left
      obtain ⟨M2, e2, hT2, hF2⟩ := X4_setDebt_s (v := 0) hT1 (i := i) (j := k) (by omega) (by omega)
      obtain ⟨M3, e3, hT3, hF3⟩ := X4_setDebt_s (v := 0) hT2 (i := k) (j := i) (by omega) (by omega)
      refine ⟨(nI (k + 1), M3), ?_, rfl, ?_, (hF1.tr hF2).tr hF3⟩
      · show X4_bury_16 t (nI i) (f + 1) (nI k) M1 = X4_bury_16 t (nI i) f (nI (k + 1)) M3
        rw [X4_bury_16, hT1.1]
        simp (disch := omega) only [nl0, nl1, nl2, nl3, nl4, nl5, nl6, nl7, nl8, nl9, nl10, nl32, nl40, nl44, nl48, nl57, nl59, nl60, nl63, nl64, nl99, nl100, nl101, nl111, nl112, nl126, nl128, nl200, nl504, nl9999, nl65521, zz_ald, zz_ast, zz_let, zz_call, zz_put, zz_rem, zz_div, zz_rz, zz_rz0, zz_rz1, pk_mul, nI_add, pk_sub, b2_0, b2_1, nI_leI, nI_ltI, nI_eq, e2, e3]
        rw [if_neg (by omega)]
      · have e : d_up (d_up (o_zk d i k) i k 0) k i 0 = o_zk d i (k + 1) := by
          funext a b
          unfold d_up o_zk
          by_cases c1 : a = k ∧ b = i
          · rw [if_pos c1, if_pos (by omega)]
          · rw [if_neg c1]
            by_cases c2 : a = i ∧ b = k
            · rw [if_pos c2, if_pos (by omega)]
            · rw [if_neg c2]
              by_cases c3 : (a = i ∧ b < k) ∨ (b = i ∧ a < k)
              · rw [if_pos c3, if_pos (by omega)]
              · rw [if_neg c3, if_neg (by omega)]
        rw [← e]
        exact hT3)
    (by
      intro f s ⟨e1, hT1, hF1⟩
      obtain ⟨x, M1⟩ := s
      dsimp only at e1 hT1 hF1
      subst e1
      refine ⟨M1, ?_, ?_, hF1⟩
      · show X4_bury_16 t (nI i) (f + 1) (nI n) M1 = _
        rw [X4_bury_16, hT1.1]
        simp (disch := omega) only [nl0, nl1, nl2, nl3, nl4, nl5, nl6, nl7, nl8, nl9, nl10, nl32, nl40, nl44, nl48, nl57, nl59, nl60, nl63, nl64, nl99, nl100, nl101, nl111, nl112, nl126, nl128, nl200, nl504, nl9999, nl65521, zz_ald, zz_ast, zz_let, zz_call, zz_put, zz_rem, zz_div, zz_rz, zz_rz0, zz_rz1, pk_mul, nI_add, pk_sub, b2_0, b2_1, nI_leI, nI_ltI, nI_eq]
        rw [if_pos (by omega)]
      · rw [← hz]; exact hT1) 0 FU (nI 0, me_upd M t 3 (nI (o_rm al i))) (by omega) (FU_lt (by omega)) ⟨rfl, hT0, Fr.up (by omega) (by omega)⟩
  unfold X4_bury
  rw [h3, o_rm_I al qa i (by omega), zz_put]
  exact key
theorem X4_passDay_33_s {k23 : Int32 → Mem → Option (Unit × Mem)} (hT : TC M t n day ea al K S d) (hV : t_ok n al K d) (hi : i < n) : ∃ M', X4_passDay_33 t (nI i) k23 FU (nI 0) M = k23 (nI (i + 1)) M' ∧ TC M' t n day ea al K S (fo (fun j d => o_wk1 al K i j d) n d) ∧ Fr t (t + 5) M M' := by
  have w := hV.1
  have qa := hV.al
  have q3 := hV.2.2.1 i hi
  refine lp (S := Int32 × Mem) (fun f s => X4_passDay_33 t (nI i) k23 f s.1 s.2) (fun k s => s.1 = nI k ∧ TC s.2 t n day ea al K S (fo (fun j d => o_wk1 al K i j d) k d) ∧ t_ok n al K (fo (fun j d => o_wk1 al K i j d) k d) ∧ Fr t (t + 5) M s.2)
    (fun r => ∃ M', r = k23 (nI (i + 1)) M' ∧ TC M' t n day ea al K S (fo (fun j d => o_wk1 al K i j d) n d) ∧ Fr t (t + 5) M M') n ?_ ?_ 0 FU (nI 0, M) (by omega) (FU_lt (by omega)) ⟨rfl, hT, hV, Fr.rf⟩
  · intro k f s hk ⟨e1, hT1, hV1, hF1⟩
    obtain ⟨x, M1⟩ := s
    dsimp only at e1 hT1 hF1
    subst e1
    left
    obtain ⟨h0, h1, h2, h3, hkk, hs, hd, ho⟩ := id hT1
    have hV2 := o_wk1_ok hV1 hi hk
    by_cases hc : K i = 1 ∧ i ≠ k ∧ al.testBit i = true ∧ al.testBit k = true
    · obtain ⟨M2, e2, hT2, hF2⟩ := X4_oweOneMore_s hT1 hV1 (i := i) (j := k) (by omega) (by omega)
      refine ⟨(nI (k + 1), M2), ?_, rfl, ?_, hV2, hF1.tr hF2⟩
      · show X4_passDay_33 t (nI i) k23 (f + 1) (nI k) M1 = X4_passDay_33 t (nI i) k23 f (nI (k + 1)) M2
        rw [X4_passDay_33]
        simp (disch := omega) only [nl0, nl1, nl2, nl3, nl4, nl5, nl6, nl7, nl8, nl9, nl10, nl32, nl40, nl44, nl48, nl57, nl59, nl60, nl63, nl64, nl99, nl100, nl101, nl111, nl112, nl126, nl128, nl200, nl504, nl9999, nl65521, zz_ald, zz_ast, zz_let, zz_call, zz_put, zz_rem, zz_div, zz_rz, zz_rz0, zz_rz1, pk_mul, nI_add, pk_sub, b2_0, b2_1, nI_leI, nI_ltI, nI_eq, h0, hkk, X4_isAlive_s hT1, e2]
        rw [if_neg (by omega), if_neg hc.2.1, if_neg (not_not_intro hc.1), hc.2.2.1, hc.2.2.2]
        simp
      · show TC M2 t n day ea al K S (o_wk1 al K i k _)
        rw [o_wk1, if_pos hc]
        exact hT2
    · refine ⟨(nI (k + 1), M1), ?_, rfl, ?_, hV2, hF1⟩
      · show X4_passDay_33 t (nI i) k23 (f + 1) (nI k) M1 = X4_passDay_33 t (nI i) k23 f (nI (k + 1)) M1
        rw [X4_passDay_33]
        simp (disch := omega) only [nl0, nl1, nl2, nl3, nl4, nl5, nl6, nl7, nl8, nl9, nl10, nl32, nl40, nl44, nl48, nl57, nl59, nl60, nl63, nl64, nl99, nl100, nl101, nl111, nl112, nl126, nl128, nl200, nl504, nl9999, nl65521, zz_ald, zz_ast, zz_let, zz_call, zz_put, zz_rem, zz_div, zz_rz, zz_rz0, zz_rz1, pk_mul, nI_add, pk_sub, b2_0, b2_1, nI_leI, nI_ltI, nI_eq, h0, hkk, X4_isAlive_s hT1]
        rw [if_neg (by omega)]
        by_cases a : i = k
        · rw [if_pos a]
        · rw [if_neg a]
          by_cases b : K i = 1
          · rw [if_neg (not_not_intro b)]
            by_cases c : al.testBit i = false
            · rw [if_pos c]
            · rw [if_neg c]
              by_cases e : al.testBit k = false
              · rw [if_pos e]
              · exact absurd ⟨b, a, by simpa using c, by simpa using e⟩ hc
          · rw [if_pos b]
      · show TC M1 t n day ea al K S (o_wk1 al K i k _)
        rw [o_wk1, if_neg hc]
        exact hT1
  · intro f s ⟨e1, hT1, hV1, hF1⟩
    obtain ⟨x, M1⟩ := s
    dsimp only at e1 hT1 hF1
    subst e1
    refine ⟨M1, ?_, hT1, hF1⟩
    show X4_passDay_33 t (nI i) k23 (f + 1) (nI n) M1 = _
    rw [X4_passDay_33, hT1.1]
    simp (disch := omega) only [nl0, nl1, nl2, nl3, nl4, nl5, nl6, nl7, nl8, nl9, nl10, nl32, nl40, nl44, nl48, nl57, nl59, nl60, nl63, nl64, nl99, nl100, nl101, nl111, nl112, nl126, nl128, nl200, nl504, nl9999, nl65521, zz_ald, zz_ast, zz_let, zz_call, zz_put, zz_rem, zz_div, zz_rz, zz_rz0, zz_rz1, pk_mul, nI_add, pk_sub, b2_0, b2_1, nI_leI, nI_ltI, nI_eq]
    rw [if_pos (by omega)]
theorem X4_passDay_s (hT : TC M t n day ea al K S d) (hV : t_ok n al K d) (hday : day < 2 ^ 30) : ∃ M', X4_passDay t M = some ((), M') ∧ TC M' t n (day + 1) ea al K S (if (day + 1) % 7 = 0 then o_wk n al K d else d) ∧ Fr t (t + 5) M M' := by
  have w := hV.1
  obtain ⟨h0, h1, h2, h3, hk, hs, hd, ho⟩ := id hT
  have hT0 : TC (me_upd M t 1 (nI (day + 1))) t n (day + 1) ea al K S d := by
    refine ⟨?_, ?_, ?_, ?_, ?_, ?_, ?_, ?_⟩
    · rw [up_j (by omega)]; exact h0
    · exact up_s
    · rw [up_j (by omega)]; exact h2
    · rw [up_j (by omega)]; exact h3
    · rw [up_c (by omega)]; exact hk
    · rw [up_c (by omega)]; exact hs
    · rw [up_c (by omega)]; exact hd
    · rw [up_c (by omega)]; exact ho
  have hF0 : Fr t (t + 5) M (me_upd M t 1 (nI (day + 1))) := Fr.up (by omega) (by omega)
  unfold X4_passDay
  rw [h1]
  simp (disch := omega) only [nl0, nl1, nl2, nl3, nl4, nl5, nl6, nl7, nl8, nl9, nl10, nl32, nl40, nl44, nl48, nl57, nl59, nl60, nl63, nl64, nl99, nl100, nl101, nl111, nl112, nl126, nl128, nl200, nl504, nl9999, nl65521, zz_ald, zz_ast, zz_let, zz_call, zz_put, zz_rem, zz_div, zz_rz, zz_rz0, zz_rz1, pk_mul, nI_add, pk_sub, b2_0, b2_1, nI_leI, nI_ltI, nI_eq, hT0.2.1]
  by_cases hc : (day + 1) % 7 = 0
  · rw [if_pos hc, if_pos hc]
    refine lp (S := Int32 × Mem) (fun f s => X4_passDay_23 t f s.1 s.2) (fun k s => s.1 = nI k ∧ TC s.2 t n (day + 1) ea al K S (fo (fun i d => fo (fun j d => o_wk1 al K i j d) n d) k d) ∧ t_ok n al K (fo (fun i d => fo (fun j d => o_wk1 al K i j d) n d) k d) ∧ Fr t (t + 5) M s.2)
      (fun r => ∃ M', r = some ((), M') ∧ TC M' t n (day + 1) ea al K S (o_wk n al K d) ∧ Fr t (t + 5) M M') n ?_ ?_ 0 FU (nI 0, me_upd M t 1 (nI (day + 1))) (by omega) (FU_lt (by omega)) ⟨rfl, hT0, hV, hF0⟩
    · intro k f s hk ⟨e1, hT1, hV1, hF1⟩
      obtain ⟨x, M1⟩ := s
      dsimp only at e1 hT1 hF1
      subst e1
      left
      obtain ⟨M2, e2, hT2, hF2⟩ := X4_passDay_33_s (k23 := X4_passDay_23 t f) hT1 hV1 hk
      refine ⟨(nI (k + 1), M2), ?_, rfl, hT2, o_wkr_ok hV1 hk, hF1.tr hF2⟩
      show X4_passDay_23 t (f + 1) (nI k) M1 = X4_passDay_23 t f (nI (k + 1)) M2
      rw [X4_passDay_23, hT1.1]
      simp (disch := omega) only [nl0, nl1, nl2, nl3, nl4, nl5, nl6, nl7, nl8, nl9, nl10, nl32, nl40, nl44, nl48, nl57, nl59, nl60, nl63, nl64, nl99, nl100, nl101, nl111, nl112, nl126, nl128, nl200, nl504, nl9999, nl65521, zz_ald, zz_ast, zz_let, zz_call, zz_put, zz_rem, zz_div, zz_rz, zz_rz0, zz_rz1, pk_mul, nI_add, pk_sub, b2_0, b2_1, nI_leI, nI_ltI, nI_eq, e2]
      rw [if_neg (by omega)]
    · intro f s ⟨e1, hT1, hV1, hF1⟩
      obtain ⟨x, M1⟩ := s
      dsimp only at e1 hT1 hF1
      subst e1
      refine ⟨M1, ?_, hT1, hF1⟩
      show X4_passDay_23 t (f + 1) (nI n) M1 = _
      rw [X4_passDay_23, hT1.1]
      simp (disch := omega) only [nl0, nl1, nl2, nl3, nl4, nl5, nl6, nl7, nl8, nl9, nl10, nl32, nl40, nl44, nl48, nl57, nl59, nl60, nl63, nl64, nl99, nl100, nl101, nl111, nl112, nl126, nl128, nl200, nl504, nl9999, nl65521, zz_ald, zz_ast, zz_let, zz_call, zz_put, zz_rem, zz_div, zz_rz, zz_rz0, zz_rz1, pk_mul, nI_add, pk_sub, b2_0, b2_1, nI_leI, nI_ltI, nI_eq]
      rw [if_pos (by omega)]
  · rw [if_neg hc, if_neg hc]
    exact ⟨_, rfl, hT0, hF0⟩
theorem X4_passDays_s {s : Ts} {q : Nat} (hT : TC M t n s.2.1 ea s.1 K S s.2.2) (hV : t_ok n s.1 K s.2.2) (hday : s.2.1 + q < 2 ^ 30) (hq : q < 1000) : ∃ M', X4_passDays t (nI q) M = some ((), M') ∧ (∀ s', s' = fo (fun _ s => o_day n K s) q s → TC M' t n s'.2.1 ea s'.1 K S s'.2.2 ∧ t_ok n s'.1 K s'.2.2 ∧ s'.2.1 = s.2.1 + q) ∧ Fr t (t + 5) M M' := by
  unfold X4_passDays
  refine lp (S := Int32 × Mem) (fun f z => X4_passDays_2 t (nI q) f z.1 z.2) (fun k z => z.1 = nI k ∧ (∀ s', s' = fo (fun _ s => o_day n K s) k s → TC z.2 t n s'.2.1 ea s'.1 K S s'.2.2 ∧ t_ok n s'.1 K s'.2.2 ∧ s'.2.1 = s.2.1 + k) ∧ Fr t (t + 5) M z.2)
    (fun r => ∃ M', r = some ((), M') ∧ (∀ s', s' = fo (fun _ s => o_day n K s) q s → TC M' t n s'.2.1 ea s'.1 K S s'.2.2 ∧ t_ok n s'.1 K s'.2.2 ∧ s'.2.1 = s.2.1 + q) ∧ Fr t (t + 5) M M') q ?_ ?_ 0 FU (nI 0, M) (by omega) (FU_lt (by omega)) ⟨rfl, fun s' e => by rw [e]; exact ⟨hT, hV, rfl⟩, Fr.rf⟩
  · intro k f z hk ⟨e1, hT1, hF1⟩
    obtain ⟨x, M1⟩ := z
    dsimp only at e1 hT1 hF1
    subst e1
    left
    obtain ⟨hT1, hV1, hd1⟩ := hT1 _ rfl
    obtain ⟨M2, e2, hT2, hF2⟩ := X4_passDay_s hT1 hV1 (by omega)
    refine ⟨(nI (k + 1), M2), ?_, rfl, fun s' e => ?_, hF1.tr hF2⟩
    · show X4_passDays_2 t (nI q) (f + 1) (nI k) M1 = X4_passDays_2 t (nI q) f (nI (k + 1)) M2
      rw [X4_passDays_2]
      simp (disch := omega) only [nl0, nl1, nl2, nl3, nl4, nl5, nl6, nl7, nl8, nl9, nl10, nl32, nl40, nl44, nl48, nl57, nl59, nl60, nl63, nl64, nl99, nl100, nl101, nl111, nl112, nl126, nl128, nl200, nl504, nl9999, nl65521, zz_ald, zz_ast, zz_let, zz_call, zz_put, zz_rem, zz_div, zz_rz, zz_rz0, zz_rz1, pk_mul, nI_add, pk_sub, b2_0, b2_1, nI_leI, nI_ltI, nI_eq, e2]
      rw [if_neg (by omega)]
    · rw [e]
      refine ⟨hT2, o_day_ok hV1, ?_⟩
      show (fo (fun _ s => o_day n K s) k s).2.1 + 1 = _
      omega
  · intro f z ⟨e1, hT1, hF1⟩
    obtain ⟨x, M1⟩ := z
    dsimp only at e1 hT1 hF1
    subst e1
    refine ⟨M1, ?_, hT1, hF1⟩
    show X4_passDays_2 t (nI q) (f + 1) (nI q) M1 = _
    rw [X4_passDays_2]
    simp (disch := omega) only [nl0, nl1, nl2, nl3, nl4, nl5, nl6, nl7, nl8, nl9, nl10, nl32, nl40, nl44, nl48, nl57, nl59, nl60, nl63, nl64, nl99, nl100, nl101, nl111, nl112, nl126, nl128, nl200, nl504, nl9999, nl65521, zz_ald, zz_ast, zz_let, zz_call, zz_put, zz_rem, zz_div, zz_rz, zz_rz0, zz_rz1, pk_mul, nI_add, pk_sub, b2_0, b2_1, nI_leI, nI_ltI, nI_eq]
    rw [if_pos (by omega)]
/-- an ACT's numbers: whom it names; of DAYS how many, told twice -/
def a_ok (n kind i j : Nat) : Prop := kind ≤ 5 ∧ (kind < 4 → i < n ∧ j < n ∧ i ≠ j) ∧ (kind = 4 → i < n) ∧ (kind = 5 → i = j ∧ 1 ≤ j ∧ j ≤ 9)
theorem X4_perform_s {s : Ts} {kind : Nat} (hT : TC M t n s.2.1 ea s.1 K S s.2.2) (hV : t_ok n s.1 K s.2.2) (hday : s.2.1 < 2 ^ 29) (hA : a_ok n kind i j) (hc : o_can s.1 K s.2.2 kind i j = true) : ∃ M', X4_perform t (nI kind) (nI i) (nI j) M = some ((), M') ∧ (∀ s', s' = o_do n K kind i j s → TC M' t n s'.2.1 ea s'.1 K S s'.2.2 ∧ t_ok n s'.1 K s'.2.2 ∧ s'.2.1 ≤ s.2.1 + 9) ∧ Fr t (t + 5) M M' := by
  have w := hV.1
  obtain ⟨hk5, ha, hb, hg⟩ := hA
  unfold X4_perform o_do
  rcases (by omega : kind = 0 ∨ kind = 1 ∨ kind = 2 ∨ kind = 3 ∨ kind = 4 ∨ kind = 5) with rfl | rfl | rfl | rfl | rfl | rfl
  · obtain ⟨ha1, ha2, ha3⟩ := ha (by omega)
    obtain ⟨M2, e2, hT2, hF2⟩ := X4_oweOneMore_s hT hV (i := i) (j := j) (by omega) (by omega)
    refine ⟨M2, ?_, fun s' e => ?_, hF2⟩
    · simp (disch := omega) only [nl0, nl1, nl2, nl3, nl4, nl5, nl6, nl7, nl8, nl9, nl10, nl32, nl40, nl44, nl48, nl57, nl59, nl60, nl63, nl64, nl99, nl100, nl101, nl111, nl112, nl126, nl128, nl200, nl504, nl9999, nl65521, zz_ald, zz_ast, zz_let, zz_call, zz_put, zz_rem, zz_div, zz_rz, zz_rz0, zz_rz1, pk_mul, nI_add, pk_sub, b2_0, b2_1, nI_leI, nI_ltI, nI_eq, e2, if_true]
    · rw [e, if_pos rfl]
      unfold o_can at hc
      rw [if_pos rfl] at hc
      simp only [Bool.and_eq_true] at hc
      exact ⟨hT2, o_more_ok hV ha1 ha2 ha3 hc.1.1.2 hc.1.2, Nat.le_add_right _ _⟩
  · obtain ⟨ha1, ha2, ha3⟩ := ha (by omega)
    obtain ⟨M2, e2, hT2, hF2⟩ := X4_pay_s hT hV (i := i) (j := j) (by omega) (by omega) (by omega)
    refine ⟨M2, ?_, fun s' e => ?_, hF2⟩
    · simp (disch := omega) only [nl0, nl1, nl2, nl3, nl4, nl5, nl6, nl7, nl8, nl9, nl10, nl32, nl40, nl44, nl48, nl57, nl59, nl60, nl63, nl64, nl99, nl100, nl101, nl111, nl112, nl126, nl128, nl200, nl504, nl9999, nl65521, zz_ald, zz_ast, zz_let, zz_call, zz_put, zz_rem, zz_div, zz_rz, zz_rz0, zz_rz1, pk_mul, nI_add, pk_sub, b2_0, b2_1, nI_leI, nI_ltI, nI_eq, e2]
      simp
    · rw [e, if_neg (by omega), if_pos rfl]
      exact ⟨hT2, o_pay_ok hV, Nat.le_add_right _ _⟩
  · obtain ⟨ha1, ha2, ha3⟩ := ha (by omega)
    obtain ⟨M2, e2, hT2, hF2⟩ := X4_oweOneMore_s hT hV (i := i) (j := j) (by omega) (by omega)
    refine ⟨M2, ?_, fun s' e => ?_, hF2⟩
    · simp (disch := omega) only [nl0, nl1, nl2, nl3, nl4, nl5, nl6, nl7, nl8, nl9, nl10, nl32, nl40, nl44, nl48, nl57, nl59, nl60, nl63, nl64, nl99, nl100, nl101, nl111, nl112, nl126, nl128, nl200, nl504, nl9999, nl65521, zz_ald, zz_ast, zz_let, zz_call, zz_put, zz_rem, zz_div, zz_rz, zz_rz0, zz_rz1, pk_mul, nI_add, pk_sub, b2_0, b2_1, nI_leI, nI_ltI, nI_eq, e2]
      simp
    · rw [e, if_neg (by omega), if_neg (by omega), if_pos rfl]
      unfold o_can o_bow at hc
      rw [if_neg (by omega), if_neg (by omega), if_pos rfl] at hc
      simp only [Bool.and_eq_true, decide_eq_true_eq] at hc
      obtain ⟨z1, z2, z3, z4, z5⟩ := hV.2.2.2.2 i j (by omega)
      exact ⟨hT2, o_more_ok hV z1 z2 z3 z4 z5, Nat.le_add_right _ _⟩
  · obtain ⟨ha1, ha2, ha3⟩ := ha (by omega)
    obtain ⟨M2, e2, hT2, hF2⟩ := X4_pay_s hT hV (i := i) (j := j) (by omega) (by omega) (by omega)
    obtain ⟨M3, e3, hT3, hF3⟩ := X4_pay_s hT2 (o_pay_ok hV) (i := j) (j := i) (by omega) (by omega) (by omega)
    refine ⟨M3, ?_, fun s' e => ?_, hF2.tr hF3⟩
    · simp (disch := omega) only [nl0, nl1, nl2, nl3, nl4, nl5, nl6, nl7, nl8, nl9, nl10, nl32, nl40, nl44, nl48, nl57, nl59, nl60, nl63, nl64, nl99, nl100, nl101, nl111, nl112, nl126, nl128, nl200, nl504, nl9999, nl65521, zz_ald, zz_ast, zz_let, zz_call, zz_put, zz_rem, zz_div, zz_rz, zz_rz0, zz_rz1, pk_mul, nI_add, pk_sub, b2_0, b2_1, nI_leI, nI_ltI, nI_eq, e2, e3]
      simp
    · rw [e, if_neg (by omega), if_neg (by omega), if_neg (by omega), if_pos rfl]
      exact ⟨hT3, o_pay_ok (o_pay_ok hV), Nat.le_add_right _ _⟩
  · obtain ⟨M2, e2, hT2, hF2⟩ := X4_bury_s hT hV (i := i) (hb rfl)
    refine ⟨M2, ?_, fun s' e => ?_, hF2⟩
    · simp (disch := omega) only [nl0, nl1, nl2, nl3, nl4, nl5, nl6, nl7, nl8, nl9, nl10, nl32, nl40, nl44, nl48, nl57, nl59, nl60, nl63, nl64, nl99, nl100, nl101, nl111, nl112, nl126, nl128, nl200, nl504, nl9999, nl65521, zz_ald, zz_ast, zz_let, zz_call, zz_put, zz_rem, zz_div, zz_rz, zz_rz0, zz_rz1, pk_mul, nI_add, pk_sub, b2_0, b2_1, nI_leI, nI_ltI, nI_eq, e2]
      simp
    · rw [e, if_neg (by omega), if_neg (by omega), if_neg (by omega), if_neg (by omega), if_pos rfl]
      exact ⟨hT2, o_die_ok hV (hb rfl), Nat.le_add_right _ _⟩
  · obtain ⟨hg1, hg2, hg3⟩ := hg rfl
    subst hg1
    obtain ⟨M2, e2, hT2, hF2⟩ := X4_passDays_s (q := i) hT hV (by omega) (by omega)
    refine ⟨M2, ?_, fun s' e => ?_, hF2⟩
    · simp (disch := omega) only [nl0, nl1, nl2, nl3, nl4, nl5, nl6, nl7, nl8, nl9, nl10, nl32, nl40, nl44, nl48, nl57, nl59, nl60, nl63, nl64, nl99, nl100, nl101, nl111, nl112, nl126, nl128, nl200, nl504, nl9999, nl65521, zz_ald, zz_ast, zz_let, zz_call, zz_put, zz_rem, zz_div, zz_rz, zz_rz0, zz_rz1, pk_mul, nI_add, pk_sub, b2_0, b2_1, nI_leI, nI_ltI, nI_eq, e2]
      simp
    · rw [if_neg (by omega), if_neg (by omega), if_neg (by omega), if_neg (by omega), if_neg (by omega)] at e
      obtain ⟨z1, z2, z3⟩ := hT2 s' e
      exact ⟨z1, z2, by omega⟩
end TOWN2
