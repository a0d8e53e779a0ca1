section REF2
variable {M : Mem} {t b n day al i j : Nat} {K S : Nat → Nat} {d : Dm}
theorem X6_goDay_36_s {k12 : Int32 → Mem → Option (Unit × Mem)} (hT : TR M t b n day al K S d) (hV : t_ok n al K d) (hb : b < 3) (hi : i < n) : ∃ M', X6_goDay_36 t (nI b) (nI i) k12 FU (nI 0) M = k12 (nI (i + 1)) M' ∧ TR M' t b n day al K S (fo (fun j d => o_wk1 al K i j d) n d) ∧ FrR t b M M' := by
  have w := hV.1
  have qa := hV.al
  have q3 := hV.2.2.1 i hi
  refine lp (S := Int32 × Mem) (fun f s => X6_goDay_36 t (nI b) (nI i) k12 f s.1 s.2) (fun k s => s.1 = nI k ∧ TR s.2 t b n day al K S (fo (fun j d => o_wk1 al K i j d) k d) ∧ t_ok n al K (fo (fun j d => o_wk1 al K i j d) k d) ∧ FrR t b M s.2)
    (fun r => ∃ M', r = k12 (nI (i + 1)) M' ∧ TR M' t b n day al K S (fo (fun j d => o_wk1 al K i j d) n d) ∧ FrR t b M M') n ?_ ?_ 0 FU (nI 0, M) (by omega) (FU_lt (by omega)) ⟨rfl, hT, hV, FrR.rf⟩
  · intro k f s hk ⟨e1, hT1, hV1, hF1⟩
    obtain ⟨x, M1⟩ := s
    dsimp only at e1 hT1 hF1
    subst e1
    left
    obtain ⟨h0, h1, h2, hkk, hs, hd⟩ := id hT1
    have hV2 := o_wk1_ok hV1 hi hk
    by_cases hc : K i = 1 ∧ i ≠ k ∧ al.testBit i = true ∧ al.testBit k = true
    · obtain ⟨M2, e2, hT2, hF2⟩ := X6_more_s hT1 hV1 hb (i := i) (j := k) (by omega) (by omega)
      refine ⟨(nI (k + 1), M2), ?_, rfl, ?_, hV2, hF1.tr hF2⟩
      · show X6_goDay_36 t (nI b) (nI i) k12 (f + 1) (nI k) M1 = X6_goDay_36 t (nI b) (nI i) k12 f (nI (k + 1)) M2
        rw [X6_goDay_36]
        simp (disch := omega) only [nl0, nl1, nl2, nl3, nl4, nl5, nl6, nl7, nl8, nl9, nl10, nl32, nl40, nl44, nl48, nl57, nl59, nl60, nl63, nl64, nl99, nl100, nl101, nl111, nl112, nl126, nl128, nl200, nl504, nl9999, nl65521, zz_ald, zz_ast, zz_let, zz_call, zz_put, zz_rem, zz_div, zz_rz, zz_rz0, zz_rz1, pk_mul, nI_add, pk_sub, b2_0, b2_1, nI_leI, nI_ltI, nI_eq, h0, hkk, X6_isAlive_s hT1, X6_debt_s hT1, e2]
        rw [if_neg (by omega), if_neg (not_not_intro hc.1), if_neg hc.2.1, hc.2.2.1, hc.2.2.2]
        simp
      · show TR M2 t b n day al K S (o_wk1 al K i k _)
        rw [o_wk1, if_pos hc]
        exact hT2
    · refine ⟨(nI (k + 1), M1), ?_, rfl, ?_, hV2, hF1⟩
      · show X6_goDay_36 t (nI b) (nI i) k12 (f + 1) (nI k) M1 = X6_goDay_36 t (nI b) (nI i) k12 f (nI (k + 1)) M1
        rw [X6_goDay_36]
        simp (disch := omega) only [nl0, nl1, nl2, nl3, nl4, nl5, nl6, nl7, nl8, nl9, nl10, nl32, nl40, nl44, nl48, nl57, nl59, nl60, nl63, nl64, nl99, nl100, nl101, nl111, nl112, nl126, nl128, nl200, nl504, nl9999, nl65521, zz_ald, zz_ast, zz_let, zz_call, zz_put, zz_rem, zz_div, zz_rz, zz_rz0, zz_rz1, pk_mul, nI_add, pk_sub, b2_0, b2_1, nI_leI, nI_ltI, nI_eq, h0, hkk, X6_isAlive_s hT1]
        rw [if_neg (by omega)]
        by_cases b : K i = 1
        · rw [if_neg (not_not_intro b)]
          by_cases a : i = k
          · rw [if_pos a]
          · rw [if_neg a]
            by_cases c : al.testBit i = false
            · rw [if_pos c]
            · rw [if_neg c]
              by_cases e : al.testBit k = false
              · rw [if_pos e]
              · exact absurd ⟨b, a, by simpa using c, by simpa using e⟩ hc
        · rw [if_pos b]
      · show TR M1 t b n day al K S (o_wk1 al K i k _)
        rw [o_wk1, if_neg hc]
        exact hT1
  · intro f s ⟨e1, hT1, hV1, hF1⟩
    obtain ⟨x, M1⟩ := s
    dsimp only at e1 hT1 hF1
    subst e1
    refine ⟨M1, ?_, hT1, hF1⟩
    show X6_goDay_36 t (nI b) (nI i) k12 (f + 1) (nI n) M1 = _
    rw [X6_goDay_36]
    simp (disch := omega) only [nl0, nl1, nl2, nl3, nl4, nl5, nl6, nl7, nl8, nl9, nl10, nl32, nl40, nl44, nl48, nl57, nl59, nl60, nl63, nl64, nl99, nl100, nl101, nl111, nl112, nl126, nl128, nl200, nl504, nl9999, nl65521, zz_ald, zz_ast, zz_let, zz_call, zz_put, zz_rem, zz_div, zz_rz, zz_rz0, zz_rz1, pk_mul, nI_add, pk_sub, b2_0, b2_1, nI_leI, nI_ltI, nI_eq, hT1.1]
    rw [if_pos (by omega)]
theorem X6_goDay_s (hT : TR M t b n day al K S d) (hV : t_ok n al K d) (hday : day < 2 ^ 30) (hb : b < 3) : ∃ M', X6_goDay t (nI b) M = some ((), M') ∧ TR M' t b n (day + 1) al K S (if (day + 1) % 7 = 0 then o_wk n al K d else d) ∧ FrR t b M M' := by
  have w := hV.1
  obtain ⟨h0, h1, h2, hk, hs, hd⟩ := id hT
  have hT0 : TR (me_upd M (t + 15) b (nI (day + 1))) t b n (day + 1) al K S d := by
    refine ⟨?_, ?_, ?_, ?_, ?_, ?_⟩
    · rw [up_c (by omega)]; exact h0
    · exact up_s
    · rw [up_c (by omega)]; exact h2
    · rw [up_c (by omega)]; exact hk
    · rw [up_c (by omega)]; exact hs
    · rw [up_c (by omega)]; exact hd
  have hF0 : FrR t b M (me_upd M (t + 15) b (nI (day + 1))) := ⟨fun c hc => up_c (by omega), fun k hk => by rw [up_c (by omega)], fun k hk => ⟨by rw [up_c (by omega)], up_j hk, by rw [up_c (by omega)]⟩⟩
  unfold X6_goDay
  simp (disch := omega) only [nl0, nl1, nl2, nl3, nl4, nl5, nl6, nl7, nl8, nl9, nl10, nl32, nl40, nl44, nl48, nl57, nl59, nl60, nl63, nl64, nl99, nl100, nl101, nl111, nl112, nl126, nl128, nl200, nl504, nl9999, nl65521, zz_ald, zz_ast, zz_let, zz_call, zz_put, zz_rem, zz_div, zz_rz, zz_rz0, zz_rz1, pk_mul, nI_add, pk_sub, b2_0, b2_1, nI_leI, nI_ltI, nI_eq, h1]
  by_cases hc : (day + 1) % 7 = 0
  · rw [if_pos hc]
    refine lp (S := Int32 × Mem) (fun f s => X6_goDay_12 t (nI b) f s.1 s.2) (fun k s => s.1 = nI k ∧ TR s.2 t b n (day + 1) al K S (fo (fun i d => fo (fun j d => o_wk1 al K i j d) n d) k d) ∧ t_ok n al K (fo (fun i d => fo (fun j d => o_wk1 al K i j d) n d) k d) ∧ FrR t b M s.2)
      (fun r => ∃ M', r = some ((), M') ∧ TR M' t b n (day + 1) al K S (o_wk n al K d) ∧ FrR t b M M') n ?_ ?_ 0 FU (nI 0, me_upd M (t + 15) b (nI (day + 1))) (by omega) (FU_lt (by omega)) ⟨rfl, hT0, hV, hF0⟩
    · intro k f s hk ⟨e1, hT1, hV1, hF1⟩
      obtain ⟨x, M1⟩ := s
      dsimp only at e1 hT1 hF1
      subst e1
      left
      obtain ⟨M2, e2, hT2, hF2⟩ := X6_goDay_36_s (k12 := X6_goDay_12 t (nI b) f) hT1 hV1 hb hk
      refine ⟨(nI (k + 1), M2), ?_, rfl, hT2, o_wkr_ok hV1 hk, hF1.tr hF2⟩
      show X6_goDay_12 t (nI b) (f + 1) (nI k) M1 = X6_goDay_12 t (nI b) f (nI (k + 1)) M2
      rw [X6_goDay_12]
      simp (disch := omega) only [nl0, nl1, nl2, nl3, nl4, nl5, nl6, nl7, nl8, nl9, nl10, nl32, nl40, nl44, nl48, nl57, nl59, nl60, nl63, nl64, nl99, nl100, nl101, nl111, nl112, nl126, nl128, nl200, nl504, nl9999, nl65521, zz_ald, zz_ast, zz_let, zz_call, zz_put, zz_rem, zz_div, zz_rz, zz_rz0, zz_rz1, pk_mul, nI_add, pk_sub, b2_0, b2_1, nI_leI, nI_ltI, nI_eq, hT1.1, hT1.2.1, e2]
      rw [if_neg (by omega), if_neg (not_not_intro hc)]
    · intro f s ⟨e1, hT1, hV1, hF1⟩
      obtain ⟨x, M1⟩ := s
      dsimp only at e1 hT1 hF1
      subst e1
      refine ⟨M1, ?_, hT1, hF1⟩
      show X6_goDay_12 t (nI b) (f + 1) (nI n) M1 = _
      rw [X6_goDay_12]
      simp (disch := omega) only [nl0, nl1, nl2, nl3, nl4, nl5, nl6, nl7, nl8, nl9, nl10, nl32, nl40, nl44, nl48, nl57, nl59, nl60, nl63, nl64, nl99, nl100, nl101, nl111, nl112, nl126, nl128, nl200, nl504, nl9999, nl65521, zz_ald, zz_ast, zz_let, zz_call, zz_put, zz_rem, zz_div, zz_rz, zz_rz0, zz_rz1, pk_mul, nI_add, pk_sub, b2_0, b2_1, nI_leI, nI_ltI, nI_eq, hT1.1]
      rw [if_pos (by omega)]
  · rw [if_neg hc]
    refine ⟨_, ?_, hT0, hF0⟩
    rw [show FU = 99999 + 1 from rfl, X6_goDay_12]
    simp (disch := omega) only [nl0, nl1, nl2, nl3, nl4, nl5, nl6, nl7, nl8, nl9, nl10, nl32, nl40, nl44, nl48, nl57, nl59, nl60, nl63, nl64, nl99, nl100, nl101, nl111, nl112, nl126, nl128, nl200, nl504, nl9999, nl65521, zz_ald, zz_ast, zz_let, zz_call, zz_put, zz_rem, zz_div, zz_rz, zz_rz0, zz_rz1, pk_mul, nI_add, pk_sub, b2_0, b2_1, nI_leI, nI_ltI, nI_eq, hT0.1, hT0.2.1]
    by_cases z : n ≤ 0
    · rw [if_pos z]
    · rw [if_neg z, if_pos hc]
theorem X6_doDays_s {s : Ts} {q : Nat} (hT : TR M t b n s.2.1 s.1 K S s.2.2) (hV : t_ok n s.1 K s.2.2) (hday : s.2.1 + q < 2 ^ 30) (hq : q < 1000) (hb : b < 3) : ∃ M', X6_doAct_108 t (nI b) (nI q) FU (nI 0) M = some ((), M') ∧ (∀ s', s' = fo (fun _ s => o_day n K s) q s → TR M' t b n s'.2.1 s'.1 K S s'.2.2 ∧ t_ok n s'.1 K s'.2.2 ∧ s'.2.1 = s.2.1 + q) ∧ FrR t b M M' := by
  refine lp (S := Int32 × Mem) (fun f z => X6_doAct_108 t (nI b) (nI q) f z.1 z.2) (fun k z => z.1 = nI k ∧ (∀ s', s' = fo (fun _ s => o_day n K s) k s → TR z.2 t b n s'.2.1 s'.1 K S s'.2.2 ∧ t_ok n s'.1 K s'.2.2 ∧ s'.2.1 = s.2.1 + k) ∧ FrR t b M z.2)
    (fun r => ∃ M', r = some ((), M') ∧ (∀ s', s' = fo (fun _ s => o_day n K s) q s → TR M' t b n s'.2.1 s'.1 K S s'.2.2 ∧ t_ok n s'.1 K s'.2.2 ∧ s'.2.1 = s.2.1 + q) ∧ FrR t b M M') q ?_ ?_ 0 FU (nI 0, M) (by omega) (FU_lt (by omega)) ⟨rfl, fun s' e => by rw [e]; exact ⟨hT, hV, rfl⟩, FrR.rf⟩
  · intro k f z hk ⟨e1, hT1, hF1⟩
    obtain ⟨x, M1⟩ := z
    dsimp only at e1 hT1 hF1
    subst e1
    left
    obtain ⟨hT1, hV1, hd1⟩ := hT1 _ rfl
    obtain ⟨M2, e2, hT2, hF2⟩ := X6_goDay_s hT1 hV1 (by omega) hb
    refine ⟨(nI (k + 1), M2), ?_, rfl, fun s' e => ?_, hF1.tr hF2⟩
    · show X6_doAct_108 t (nI b) (nI q) (f + 1) (nI k) M1 = X6_doAct_108 t (nI b) (nI q) f (nI (k + 1)) M2
      rw [X6_doAct_108]
      simp (disch := omega) only [nl0, nl1, nl2, nl3, nl4, nl5, nl6, nl7, nl8, nl9, nl10, nl32, nl40, nl44, nl48, nl57, nl59, nl60, nl63, nl64, nl99, nl100, nl101, nl111, nl112, nl126, nl128, nl200, nl504, nl9999, nl65521, zz_ald, zz_ast, zz_let, zz_call, zz_put, zz_rem, zz_div, zz_rz, zz_rz0, zz_rz1, pk_mul, nI_add, pk_sub, b2_0, b2_1, nI_leI, nI_ltI, nI_eq, e2]
      rw [if_neg (by omega)]
    · rw [e]
      refine ⟨hT2, o_day_ok hV1, ?_⟩
      show (fo (fun _ s => o_day n K s) k s).2.1 + 1 = _
      omega
  · intro f z ⟨e1, hT1, hF1⟩
    obtain ⟨x, M1⟩ := z
    dsimp only at e1 hT1 hF1
    subst e1
    refine ⟨M1, ?_, hT1, hF1⟩
    show X6_doAct_108 t (nI b) (nI q) (f + 1) (nI q) M1 = _
    rw [X6_doAct_108]
    simp (disch := omega) only [nl0, nl1, nl2, nl3, nl4, nl5, nl6, nl7, nl8, nl9, nl10, nl32, nl40, nl44, nl48, nl57, nl59, nl60, nl63, nl64, nl99, nl100, nl101, nl111, nl112, nl126, nl128, nl200, nl504, nl9999, nl65521, zz_ald, zz_ast, zz_let, zz_call, zz_put, zz_rem, zz_div, zz_rz, zz_rz0, zz_rz1, pk_mul, nI_add, pk_sub, b2_0, b2_1, nI_leI, nI_ltI, nI_eq]
    rw [if_pos (by omega)]
/-- the reference tells DIE as (i, 0) and DAYS as (0, n) -/
def r_i (kind i : Nat) : Nat := if kind = 5 then 0 else i
def r_j (kind j : Nat) : Nat := if kind = 4 then 0 else j
theorem o_can_r {kind : Nat} (h : kind ≤ 5) : o_can al K d kind (r_i kind i) (r_j kind j) = o_can al K d kind i j := by
  rcases (by omega : kind = 0 ∨ kind = 1 ∨ kind = 2 ∨ kind = 3 ∨ kind = 4 ∨ kind = 5) with rfl | rfl | rfl | rfl | rfl | rfl <;> rfl
theorem X6_canDoA_s {kind : Nat} (hT : TR M t b n day al K S d) (hV : t_ok n al K d) (hb : b < 3) (hA : a_ok n kind i j) : X6_canDo t (nI b) (nI kind) (nI (r_i kind i)) (nI (r_j kind j)) M = some (b2 (o_can al K d kind i j), M) := by
  obtain ⟨hk5, ha, hbb, hg⟩ := hA
  have w := hV.1
  rw [X6_canDo_s hT hV hb hk5 ?_ ?_ ?_, o_can_r hk5]
  · unfold r_i
    split
    · omega
    · by_cases h : kind < 4
      · have := ha h; omega
      · have := hbb (by omega); omega
  · unfold r_j
    by_cases h : kind < 4
    · have := ha h
      left
      rw [if_neg (by omega)]
      omega
    · right; omega
  · intro h
    subst h
    exact (ha (by omega)).2.2
theorem X6_doAct_s {s : Ts} {kind : Nat} (hT : TR M t b n s.2.1 s.1 K S s.2.2) (hV : t_ok n s.1 K s.2.2) (hday : s.2.1 < 2 ^ 29) (hb : b < 3) (hA : a_ok n kind i j) (hc : o_can s.1 K s.2.2 kind i j = true) : ∃ M', X6_doAct t (nI b) (nI kind) (nI (r_i kind i)) (nI (r_j kind j)) M = some ((), M') ∧ (∀ s', s' = o_do n K kind i j s → TR M' t b n s'.2.1 s'.1 K S s'.2.2 ∧ t_ok n s'.1 K s'.2.2 ∧ s'.2.1 ≤ s.2.1 + 9) ∧ FrR t b M M' := by
  have w := hV.1
  obtain ⟨hk5, ha, hbb, hg⟩ := hA
  unfold X6_doAct o_do
  rcases (by omega : kind = 0 ∨ kind = 1 ∨ kind = 2 ∨ kind = 3 ∨ kind = 4 ∨ kind = 5) with rfl | rfl | rfl | rfl | rfl | rfl
  · obtain ⟨ha1, ha2, ha3⟩ := ha (by omega)
    obtain ⟨M2, e2, hT2, hF2⟩ := X6_more_s hT hV hb (i := i) (j := j) (by omega) (by omega)
    refine ⟨M2, ?_, fun s' e => ?_, hF2⟩
    · unfold X6_doAct_36
      rw [show r_i 0 i = i from rfl, show r_j 0 j = j from rfl]
      simp (disch := omega) only [nl0, nl1, nl2, nl3, nl4, nl5, nl6, nl7, nl8, nl9, nl10, nl32, nl40, nl44, nl48, nl57, nl59, nl60, nl63, nl64, nl99, nl100, nl101, nl111, nl112, nl126, nl128, nl200, nl504, nl9999, nl65521, zz_ald, zz_ast, zz_let, zz_call, zz_put, zz_rem, zz_div, zz_rz, zz_rz0, zz_rz1, pk_mul, nI_add, pk_sub, b2_0, b2_1, nI_leI, nI_ltI, nI_eq, X6_debt_s hT, e2, if_true]
    · rw [e, if_pos rfl]
      unfold o_can at hc
      rw [if_pos rfl] at hc
      simp only [Bool.and_eq_true] at hc
      exact ⟨hT2, o_more_ok hV ha1 ha2 ha3 hc.1.1.2 hc.1.2, Nat.le_add_right _ _⟩
  · obtain ⟨ha1, ha2, ha3⟩ := ha (by omega)
    have hne : s.2.2 i j ≠ 0 := by
      unfold o_can o_bow at hc
      rw [if_neg (by omega), if_pos rfl] at hc
      simp only [Bool.and_eq_true, decide_eq_true_eq] at hc
      omega
    obtain ⟨M2, e2, hT2, hF2⟩ := X6_pay_s hT hV hb hne
    refine ⟨M2, ?_, fun s' e => ?_, hF2⟩
    · rw [show r_i 1 i = i from rfl, show r_j 1 j = j from rfl, if_neg (by decide), if_pos (by rfl), X6_debt_s hT hb (by omega) (by omega), zz_call, X6_pays_s hT hV (by omega) hb ha1 (by omega), zz_call, e2, zz_call]
    · rw [e, if_neg (by omega), if_pos rfl]
      exact ⟨hT2, o_pay_ok hV, Nat.le_add_right _ _⟩
  · obtain ⟨ha1, ha2, ha3⟩ := ha (by omega)
    obtain ⟨M2, e2, hT2, hF2⟩ := X6_more_s hT hV hb (i := i) (j := j) (by omega) (by omega)
    refine ⟨M2, ?_, fun s' e => ?_, hF2⟩
    · unfold X6_doAct_36
      rw [show r_i 2 i = i from rfl, show r_j 2 j = j from rfl]
      simp (disch := omega) only [nl0, nl1, nl2, nl3, nl4, nl5, nl6, nl7, nl8, nl9, nl10, nl32, nl40, nl44, nl48, nl57, nl59, nl60, nl63, nl64, nl99, nl100, nl101, nl111, nl112, nl126, nl128, nl200, nl504, nl9999, nl65521, zz_ald, zz_ast, zz_let, zz_call, zz_put, zz_rem, zz_div, zz_rz, zz_rz0, zz_rz1, pk_mul, nI_add, pk_sub, b2_0, b2_1, nI_leI, nI_ltI, nI_eq, X6_debt_s hT, e2]
      simp
    · rw [e, if_neg (by omega), if_neg (by omega), if_pos rfl]
      unfold o_can o_bow at hc
      rw [if_neg (by omega), if_neg (by omega), if_pos rfl] at hc
      simp only [Bool.and_eq_true, decide_eq_true_eq] at hc
      obtain ⟨z1, z2, z3, z4, z5⟩ := hV.2.2.2.2 i j (by omega)
      exact ⟨hT2, o_more_ok hV z1 z2 z3 z4 z5, Nat.le_add_right _ _⟩
  · obtain ⟨ha1, ha2, ha3⟩ := ha (by omega)
    unfold o_can o_ao at hc
    rw [if_neg (by omega), if_neg (by omega), if_neg (by omega), if_pos rfl] at hc
    simp only [Bool.and_eq_true, decide_eq_true_eq] at hc
    obtain ⟨M2, e2, hT2, hF2⟩ := X6_bothBow_s hT hV (i := i) (j := j) (by omega) hb (by omega) (by omega)
    refine ⟨M2, ?_, fun s' e => ?_, hF2⟩
    · rw [show r_i 3 i = i from rfl, show r_j 3 j = j from rfl]
      simp (disch := omega) only [nl0, nl1, nl2, nl3, nl4, nl5, nl6, nl7, nl8, nl9, nl10, nl32, nl40, nl44, nl48, nl57, nl59, nl60, nl63, nl64, nl99, nl100, nl101, nl111, nl112, nl126, nl128, nl200, nl504, nl9999, nl65521, zz_ald, zz_ast, zz_let, zz_call, zz_put, zz_rem, zz_div, zz_rz, zz_rz0, zz_rz1, pk_mul, nI_add, pk_sub, b2_0, b2_1, nI_leI, nI_ltI, nI_eq, e2]
      simp
    · rw [e, if_neg (by omega), if_neg (by omega), if_neg (by omega), if_pos rfl]
      exact ⟨hT2, o_pay_ok (o_pay_ok hV), Nat.le_add_right _ _⟩
  · obtain ⟨M2, e2, hT2, hF2⟩ := X6_dies_s hT hV hb (i := i) (hbb rfl)
    refine ⟨M2, ?_, fun s' e => ?_, hF2⟩
    · rw [show r_i 4 i = i from rfl]
      simp (disch := omega) only [nl0, nl1, nl2, nl3, nl4, nl5, nl6, nl7, nl8, nl9, nl10, nl32, nl40, nl44, nl48, nl57, nl59, nl60, nl63, nl64, nl99, nl100, nl101, nl111, nl112, nl126, nl128, nl200, nl504, nl9999, nl65521, zz_ald, zz_ast, zz_let, zz_call, zz_put, zz_rem, zz_div, zz_rz, zz_rz0, zz_rz1, pk_mul, nI_add, pk_sub, b2_0, b2_1, nI_leI, nI_ltI, nI_eq, e2]
      simp
    · rw [e, if_neg (by omega), if_neg (by omega), if_neg (by omega), if_neg (by omega), if_pos rfl]
      exact ⟨hT2, o_die_ok hV (hbb rfl), Nat.le_add_right _ _⟩
  · obtain ⟨hg1, hg2, hg3⟩ := hg rfl
    obtain ⟨M2, e2, hT2, hF2⟩ := X6_doDays_s (q := j) hT hV (by omega) (by omega) hb
    refine ⟨M2, ?_, fun s' e => ?_, hF2⟩
    · rw [show r_j 5 j = j from rfl]
      simp (disch := omega) only [nl0, nl1, nl2, nl3, nl4, nl5, nl6, nl7, nl8, nl9, nl10, nl32, nl40, nl44, nl48, nl57, nl59, nl60, nl63, nl64, nl99, nl100, nl101, nl111, nl112, nl126, nl128, nl200, nl504, nl9999, nl65521, zz_ald, zz_ast, zz_let, zz_call, zz_put, zz_rem, zz_div, zz_rz, zz_rz0, zz_rz1, pk_mul, nI_add, pk_sub, b2_0, b2_1, nI_leI, nI_ltI, nI_eq]
      simp [e2]
    · rw [if_neg (by omega), if_neg (by omega), if_neg (by omega), if_neg (by omega), if_neg (by omega)] at e
      obtain ⟨z1, z2, z3⟩ := hT2 s' e
      exact ⟨z1, z2, by omega⟩
end REF2
