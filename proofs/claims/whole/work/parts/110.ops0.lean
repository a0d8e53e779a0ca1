/-! ===== a call on both sides ===== -/
def PS (t u : Nat) (M : Mem) (f g : Mem → Option (Int32 × Mem)) : Prop :=
  ∃ (v : Int32) (M1 M2 : Mem) (tx : Tx) (n ea : Nat) (K S : Nat → Nat) (d0 : Dm) (s : Ts) (A : Al) (kp : Nat) (A1 A2 : Al) (Z : Tx), f M = some (v, M1) ∧ g M1 = some (v, M2) ∧ AC M2 t tx n ea K S d0 s A kp A1 A2 Z ∧ AR M2 u tx n ea K S d0 s A kp A1 A2 Z ∧ SV tx n ea K S d0 s A kp A1 A2 Z
def inR (lo hi : Nat) (x : Int32) : Bool := decide (nI lo ≤ x) && decide (x ≤ nI hi)
section OPS0
variable {M M' : Mem} {t u n ea kp i j : Nat} {K S : Nat → Nat} {d0 d : Dm} {s : Ts} {A A1 A2 : Al} {tx Z : Tx}
theorem PS.of {v : Int32} {M1 M2 : Mem} {f g : Mem → Option (Int32 × Mem)} (htu : t + 44 ≤ u) (e1 : f M = some (v, M1)) (h1 : AC M1 t tx n ea K S d0 s A kp A1 A2 Z) (e2 : g M1 = some (v, M2)) (h2 : AR M2 u tx n ea K S d0 s A kp A1 A2 Z) (hF : Fr u (u + 19) M1 M2) (hV : SV tx n ea K S d0 s A kp A1 A2 Z) : PS t u M f g :=
  ⟨v, M1, M2, tx, n, ea, K, S, d0, s, A, kp, A1, A2, Z, e1, e2, h1.out (fun c h1 h2 => hF c (by omega)), h2, hV⟩
theorem PS.ro {v : Int32} {f g : Mem → Option (Int32 × Mem)} (hC : AC M t tx n ea K S d0 s A kp A1 A2 Z) (hR : AR M u tx n ea K S d0 s A kp A1 A2 Z) (hV : SV tx n ea K S d0 s A kp A1 A2 Z) (htu : t + 44 ≤ u) (h1 : ∃ M1, f M = some (v, M1) ∧ Sc t M M1) (h2 : ∀ M1, AR M1 u tx n ea K S d0 s A kp A1 A2 Z → ∃ M2, g M1 = some (v, M2) ∧ ScR u M1 M2) : PS t u M f g := by
  obtain ⟨M1, e1, s1⟩ := h1
  have hR1 : AR M1 u tx n ea K S d0 s A kp A1 A2 Z := hR.out (fun c h1 h2 => s1.Fr c (by omega))
  obtain ⟨M2, e2, s2⟩ := h2 M1 hR1
  exact PS.of htu e1 (hC.sc s1) e2 (hR1.sc hV.2.2.2.2.1.1 s2) s2.Fr hV
theorem inR_t {lo hi : Nat} {x : Int32} (hh : hi < 2 ^ 31) (hl : lo < 2 ^ 31) (h : inR lo hi x = true) : ∃ j, lo ≤ j ∧ j ≤ hi ∧ x = nI j := by
  unfold inR at h
  simp only [Bool.and_eq_true, decide_eq_true_eq] at h
  obtain ⟨h1, h2⟩ := h
  have h0 : ¬ x < 0 := by
    rw [Int32.lt_iff_toInt_lt]
    rw [Int32.le_iff_toInt_le, nI_toInt hl] at h1
    show ¬ x.toInt < (nI 0).toInt
    rw [nI_toInt (by omega)]
    omega
  obtain ⟨j, hj, rfl⟩ := nI_of h0
  exact ⟨j, (nI_leI hl hj).1 h1, (nI_leI hj hh).1 h2, rfl⟩
theorem inR_f {lo hi : Nat} {x : Int32} (h : inR lo hi x = false) : x < nI lo ∨ nI hi < x := by
  unfold inR at h
  simp only [Bool.and_eq_false_iff, decide_eq_false_iff_not] at h
  rcases h with h | h
  · exact Or.inl (Int32.not_le.1 h)
  · exact Or.inr (Int32.not_le.1 h)
theorem inR_n {lo hi j : Nat} (hh : hi < 2 ^ 31) (hl : lo < 2 ^ 31) (hj : j < 2 ^ 31) : inR lo hi (nI j) = (decide (lo ≤ j) && decide (j ≤ hi)) := by
  unfold inR
  rw [decide_eq_decide.2 (nI_leI hl hj), decide_eq_decide.2 (nI_leI hj hh)]
theorem inR_c {lo hi : Nat} {x : Int32} (hh : hi < 2 ^ 31) (hl : lo < 2 ^ 31) : (inR lo hi x = true ∧ ∃ j, lo ≤ j ∧ j ≤ hi ∧ x = nI j) ∨ (inR lo hi x = false ∧ (x < nI lo ∨ nI hi < x)) := by
  cases h : inR lo hi x with
  | true => exact Or.inl ⟨rfl, inR_t hh hl h⟩
  | false => exact Or.inr ⟨rfl, inR_f h⟩
theorem X6_in_s {lo hi : Nat} {x : Int32} : X6_in x.toInt64 (nI lo).toInt64 (nI hi).toInt64 M = some (b2 (inR lo hi x), M) := zz_in
theorem X5_zo_s {x : Int32} : X5_isZeroOrOne x M = some (b2 (inR 0 1 x), M) := by
  unfold X5_isZeroOrOne
  rcases inR_c (lo := 0) (hi := 1) (x := x) (by omega) (by omega) with ⟨h, j, h1, h2, rfl⟩ | ⟨h, h2⟩
  · rcases (by omega : j = 0 ∨ j = 1) with rfl | rfl <;> rfl
  · rw [h, if_neg, if_pos]
    · rfl
    · intro e
      subst e
      rcases h2 with h2 | h2
      · exact absurd h2 (by decide)
      · exact absurd h2 (by decide)
    · intro e
      subst e
      rcases h2 with h2 | h2
      · exact absurd h2 (by decide)
      · exact absurd h2 (by decide)
theorem X5_isPerson_s {x : Int32} (hC : AC M t tx n ea K S d0 s A kp A1 A2 Z) (hn : 1 ≤ n) (hn7 : n ≤ 7) : X5_isPerson t x M = some (b2 (inR 0 (n - 1) x), M) := by
  unfold X5_isPerson X4_persons
  rw [hC.2.2.1.1, zz_call]
  rcases inR_c (lo := 0) (hi := n - 1) (x := x) (by omega) (by omega) with ⟨h, j, h1, h2, rfl⟩ | ⟨h, h2⟩
  · rw [h, if_neg (nI_pos (by omega)), if_neg (nI_ge (by omega) (by omega))]
    rfl
  · rw [h]
    rcases h2 with h2 | h2
    · rw [if_pos (show x < 0 from h2)]; rfl
    · by_cases h0 : x < 0
      · rw [if_pos h0]; rfl
      · rw [if_neg h0, if_pos]
        · rfl
        · rw [Int32.le_iff_toInt_le, nI_toInt (by omega)]
          rw [Int32.lt_iff_toInt_lt, nI_toInt (by omega)] at h2
          omega
theorem X6_isPerson_s {x : Int32} (hR : AR M u tx n ea K S d0 s A kp A1 A2 Z) (hn : 1 ≤ n) (hn7 : n ≤ 7) : X6_isPerson u x M = some (b2 (inR 0 (n - 1) x), M) := by
  unfold X6_isPerson
  simp (disch := omega) only [nl0, zz_ald, hR.2.1, nl1, pk_sub]
  rw [show X6_in x.toInt64 0 (nI (n - 1)).toInt64 M = _ from X6_in_s (lo := 0), zz_call, zz_rz]
theorem X5_areTwo_s {x y : Int32} (hC : AC M t tx n ea K S d0 s A kp A1 A2 Z) (hn : 1 ≤ n) (hn7 : n ≤ 7) : X5_areTwo t x y M = some (b2 (inR 0 (n - 1) x && inR 0 (n - 1) y && !decide (x = y)), M) := by
  unfold X5_areTwo
  rw [X5_isPerson_s hC hn hn7, zz_call, X5_isPerson_s hC hn hn7, zz_call]
  simp only [nl0, nl1, b2_0, zz_rz0, zz_rz1]
  by_cases a : inR 0 (n - 1) x <;> by_cases b : inR 0 (n - 1) y <;> by_cases c : x = y <;> simp [a, b, c]
theorem X6_areTwo_s {x y : Int32} (hR : AR M u tx n ea K S d0 s A kp A1 A2 Z) (hn : 1 ≤ n) (hn7 : n ≤ 7) : X6_areTwo u x y M = some (b2 (inR 0 (n - 1) x && inR 0 (n - 1) y && !decide (x = y)), M) := by
  unfold X6_areTwo
  rw [X6_isPerson_s hR hn hn7, zz_call, X6_isPerson_s hR hn hn7, zz_call]
  simp only [nl0, nl1, b2_0, zz_rz0, zz_rz1]
  by_cases a : inR 0 (n - 1) x <;> by_cases b : inR 0 (n - 1) y <;> by_cases c : x = y <;> simp [a, b, c]
/-- two PERSONS unlike, or not so -/
theorem two_c {x y : Int32} (hn : 1 ≤ n) (hn7 : n ≤ 7) : ((inR 0 (n - 1) x && inR 0 (n - 1) y && !decide (x = y)) = true ∧ ∃ i j, i < n ∧ j < n ∧ i ≠ j ∧ x = nI i ∧ y = nI j) ∨ (inR 0 (n - 1) x && inR 0 (n - 1) y && !decide (x = y)) = false := by
  cases h : (inR 0 (n - 1) x && inR 0 (n - 1) y && !decide (x = y)) with
  | false => exact Or.inr rfl
  | true =>
    left
    refine ⟨rfl, ?_⟩
    simp only [Bool.and_eq_true, Bool.not_eq_true', decide_eq_false_iff_not] at h
    obtain ⟨i, _, hi, rfl⟩ := inR_t (by omega) (by omega) h.1.1
    obtain ⟨j, _, hj, rfl⟩ := inR_t (by omega) (by omega) h.1.2
    exact ⟨i, j, by omega, by omega, fun e => h.2 (by rw [e]), rfl, rfl⟩
/-! the first calls -/
theorem P_owes {x y : Int32} (hC : AC M t tx n ea K S d0 s A kp A1 A2 Z) (hR : AR M u tx n ea K S d0 s A kp A1 A2 Z) (hV : SV tx n ea K S d0 s A kp A1 A2 Z) (htu : t + 44 ≤ u) : PS t u M (X5_owes t x y) (X6_owes u x y) := by
  have hn := hV.2.1
  have hn7 := hV.2.2.2.2.1.1
  rcases two_c (x := x) (y := y) hn hn7 with ⟨h, i, j, hi, hj, hij, rfl, rfl⟩ | h
  · refine PS.ro (v := nI (s.2.2 i j)) hC hR hV htu ⟨M, ?_, Sc.rf⟩ (fun M1 hR1 => ⟨M1, ?_, ScR.rf⟩)
    · unfold X5_owes
      rw [X5_areTwo_s hC hn hn7, h, zz_call, if_neg (by decide), X4_debt_s hC.2.2.1 (by omega) (by omega), zz_call]
    · unfold X6_owes
      rw [X6_areTwo_s hR1 hn hn7, h, zz_call, if_neg (by decide), nl0, X6_debt_s hR1.2.2.2.2.1 (by omega) (by omega) (by omega), zz_call]
  · refine PS.ro (v := -1) hC hR hV htu ⟨M, ?_, Sc.rf⟩ (fun M1 hR1 => ⟨M1, ?_, ScR.rf⟩)
    · unfold X5_owes
      rw [X5_areTwo_s hC hn hn7, h, zz_call, if_pos (by decide)]
    · unfold X6_owes
      rw [X6_areTwo_s hR1 hn hn7, h, zz_call, if_pos (by decide)]
theorem X5_asN {b : Bool} : X5_asNumber (b2 b) M = some (b2 b, M) := by cases b <;> rfl
theorem ite_b {α : Type} {b : Bool} {f : Int32 → α} : (if b2 b = 0 then f 0 else f 1) = f (b2 b) := by cases b <;> rfl
theorem P_speak {x y : Int32} (hC : AC M t tx n ea K S d0 s A kp A1 A2 Z) (hR : AR M u tx n ea K S d0 s A kp A1 A2 Z) (hV : SV tx n ea K S d0 s A kp A1 A2 Z) (htu : t + 44 ≤ u) : PS t u M (X5_speak t x y) (X6_speak u x y) := by
  have hn := hV.2.1
  have hn7 := hV.2.2.2.2.1.1
  have hV1 := hV.2.2.2.2.2.1
  rcases two_c (x := x) (y := y) hn hn7 with ⟨h, i, j, hi, hj, hij, rfl, rfl⟩ | h
  · refine PS.ro (v := b2 (o_may s.1 s.2.2 i j)) hC hR hV htu ⟨M, ?_, Sc.rf⟩ (fun M1 hR1 => ⟨M1, ?_, ScR.rf⟩)
    · unfold X5_speak
      rw [X5_areTwo_s hC hn hn7, h, zz_call, if_neg (by decide), X4_maySpeak_s hC.2.2.1 hV1 (by omega) (by omega), zz_call, X5_asN, zz_call]
    · unfold X6_speak
      rw [X6_areTwo_s hR1 hn hn7, h, zz_call, if_pos (by decide), nl0, X6_maySpeak_s hR1.2.2.2.2.1 hV1 (by omega) (by omega) (by omega), zz_call]
      exact ite_b (f := fun q => some (q, M1))
  · refine PS.ro (v := -1) hC hR hV htu ⟨M, ?_, Sc.rf⟩ (fun M1 hR1 => ⟨M1, ?_, ScR.rf⟩)
    · unfold X5_speak
      rw [X5_areTwo_s hC hn hn7, h, zz_call, if_pos (by decide)]
    · unfold X6_speak
      rw [X6_areTwo_s hR1 hn hn7, h, zz_call, if_neg (by decide)]
theorem P_person {x y : Int32} (hC : AC M t tx n ea K S d0 s A kp A1 A2 Z) (hR : AR M u tx n ea K S d0 s A kp A1 A2 Z) (hV : SV tx n ea K S d0 s A kp A1 A2 Z) (htu : t + 44 ≤ u) : PS t u M (X5_person t x y) (X6_person u x y) := by
  have hn := hV.2.1
  have hn7 := hV.2.2.2.2.1.1
  have hV1 := hV.2.2.2.2.2.1
  have qa := hV1.al
  rcases inR_c (lo := 0) (hi := n - 1) (x := x) (by omega) (by omega) with ⟨h, i, _, hi, rfl⟩ | ⟨h, _⟩
  · rcases inR_c (lo := 0) (hi := 5) (x := y) (by omega) (by omega) with ⟨h', w, _, hw, rfl⟩ | ⟨h', hx⟩
    · have c0 : ∀ M1 F, AR M1 u tx n ea K S d0 s A kp A1 A2 Z → (X6_person u (nI i) (nI w) M1 = F ↔ (if nI w = (0 : Int32) then (s_ald M1 (u + 3) 16 (nI i) fun v61 => some (v61, M1)) else if nI w = (1 : Int32) then (s_ald M1 (u + 4) 16 (nI i) fun v68 => some (v68, M1)) else if nI w = (2 : Int32) then (s_call (X6_isAlive u (0 : Int32) (nI i) M1) fun v73 M73 => if v73 = 0 then some ((0 : Int32), M73) else some ((1 : Int32), M73)) else if nI w = (3 : Int32) then (s_call (X6_debtsOf u (0 : Int32) (nI i) M1) fun v88 M88 => some (v88, M88)) else if nI w = (4 : Int32) then (s_call (X6_owedTo u (0 : Int32) (nI i) M1) fun v95 M95 => some (v95, M95)) else (s_call (X6_takes u (0 : Int32) (nI i) M1) fun v102 M102 => if v102 = 0 then some ((0 : Int32), M102) else some ((1 : Int32), M102))) = F) := by
        intro M1 F hR1
        unfold X6_person
        rw [X6_isPerson_s hR1 hn hn7, h, zz_call, if_neg (by decide), show X6_in (nI w).toInt64 0 5 M1 = _ from X6_in_s (lo := 0) (hi := 5), h', zz_call, if_pos (by decide)]
      have c1 : ∀ F, X5_person t (nI i) (nI w) M = F ↔ (if nI w = (0 : Int32) then (s_call (X4_kindOf (t + 16) (nI i) M) fun v53 M53 => some (v53, M53)) else if nI w = (1 : Int32) then (s_call (X4_streetOf (t + 16) (nI i) M) fun v62 M62 => some (v62, M62)) else if nI w = (2 : Int32) then (s_call (X4_isAlive (t + 16) (nI i) M) fun v71 M71 => s_call (X5_asNumber v71 M71) fun v74 M74 => some (v74, M74)) else if nI w = (3 : Int32) then (s_call (X4_owing (t + 16) (nI i) M) fun v83 M83 => some (v83, M83)) else if nI w = (4 : Int32) then (s_call (X4_owedTo (t + 16) (nI i) M) fun v92 M92 => some (v92, M92)) else if nI w = (5 : Int32) then (s_call (X4_isAlive (t + 16) (nI i) M) fun v101 M101 => if v101 = 0 then (s_call (X5_asNumber (0 : Int32) M101) fun v123 M123 => some (v123, M123)) else (s_call (X4_takesApology (t + 16) (nI i) M101) fun v112 M112 => if v112 = 0 then (s_call (X5_asNumber (0 : Int32) M112) fun v123 M123 => some (v123, M123)) else (s_call (X5_asNumber (1 : Int32) M112) fun v123 M123 => some (v123, M123)))) else some ((-1 : Int32), M)) = F := by
        intro F
        unfold X5_person
        rw [X5_isPerson_s hC hn hn7, h, zz_call, if_pos (by decide)]
      rcases (by omega : w = 0 ∨ w = 1 ∨ w = 2 ∨ w = 3 ∨ w = 4 ∨ w = 5) with rfl | rfl | rfl | rfl | rfl | rfl
      · refine PS.ro (v := nI (K i)) hC hR hV htu ⟨M, ?_, Sc.rf⟩ (fun M1 hR1 => ⟨M1, ?_, ScR.rf⟩)
        · rw [c1, if_pos (by rfl)]
          unfold X4_kindOf
          rw [zz_ald (by omega) (by omega), hC.2.2.1.2.2.2.2.1 i (by omega), zz_call]
        · rw [c0 _ _ hR1, if_pos (by rfl), zz_ald (by omega) (by omega), hR1.2.2.2.2.1.2.2.2.1 i (by omega)]
      · refine PS.ro (v := nI (S i)) hC hR hV htu ⟨M, ?_, Sc.rf⟩ (fun M1 hR1 => ⟨M1, ?_, ScR.rf⟩)
        · rw [c1, if_neg (by decide), if_pos (by rfl)]
          unfold X4_streetOf
          rw [zz_ald (by omega) (by omega), hC.2.2.1.2.2.2.2.2.1 i (by omega), zz_call]
        · rw [c0 _ _ hR1, if_neg (by decide), if_pos (by rfl), zz_ald (by omega) (by omega), hR1.2.2.2.2.1.2.2.2.2.1 i (by omega)]
      · refine PS.ro (v := b2 (s.1.testBit i)) hC hR hV htu ⟨M, ?_, Sc.rf⟩ (fun M1 hR1 => ⟨M1, ?_, ScR.rf⟩)
        · rw [c1, if_neg (by decide), if_neg (by decide), if_pos (by rfl), X4_isAlive_s hC.2.2.1 qa (by omega), zz_call, X5_asN, zz_call]
        · rw [c0 _ _ hR1, if_neg (by decide), if_neg (by decide), if_pos (by rfl), nl0, X6_isAlive_s hR1.2.2.2.2.1 (by omega) qa (by omega), zz_call]
          exact ite_b (f := fun q => some (q, M1))
      · refine PS.ro (v := nI (d_row s.2.2 i)) hC hR hV htu ⟨M, ?_, Sc.rf⟩ (fun M1 hR1 => ⟨M1, ?_, ScR.rf⟩)
        · rw [c1, if_neg (by decide), if_neg (by decide), if_neg (by decide), if_pos (by rfl), X4_owing_s hC.2.2.1 (by omega), zz_call]
        · rw [c0 _ _ hR1, if_neg (by decide), if_neg (by decide), if_neg (by decide), if_pos (by rfl), nl0, X6_debtsOf_s hR1.2.2.2.2.1 (by omega) (by omega), zz_call]
      · refine PS.ro (v := nI (d_col s.2.2 i)) hC hR hV htu ⟨M, ?_, Sc.rf⟩ (fun M1 hR1 => ⟨M1, ?_, ScR.rf⟩)
        · rw [c1, if_neg (by decide), if_neg (by decide), if_neg (by decide), if_neg (by decide), if_pos (by rfl), X4_owedTo_s hC.2.2.1 hV1 (by omega), zz_call]
        · rw [c0 _ _ hR1, if_neg (by decide), if_neg (by decide), if_neg (by decide), if_neg (by decide), if_pos (by rfl), nl0, X6_owedTo_s hR1.2.2.2.2.1 (by omega) (by omega), zz_call]
      · refine PS.ro (v := b2 (s.1.testBit i && o_tk K s.2.2 i)) hC hR hV htu ⟨M, ?_, Sc.rf⟩ (fun M1 hR1 => ⟨M1, ?_, ScR.rf⟩)
        · rw [c1, if_neg (by decide), if_neg (by decide), if_neg (by decide), if_neg (by decide), if_neg (by decide), if_pos (by rfl), X4_isAlive_s hC.2.2.1 qa (by omega), zz_call]
          cases s.1.testBit i with
          | false => rfl
          | true =>
            rw [if_neg (by decide), X4_takesApology_s hC.2.2.1 hV1 (by omega), zz_call]
            cases o_tk K s.2.2 i <;> rfl
        · rw [c0 _ _ hR1, if_neg (by decide), if_neg (by decide), if_neg (by decide), if_neg (by decide), if_neg (by decide), nl0, X6_takes_s hR1.2.2.2.2.1 hV1 (by omega) (by omega), zz_call]
          exact ite_b (f := fun q => some (q, M1))
    · have ne : ∀ k, k ≤ 5 → ¬ y = nI k := by
        intro k hk e
        subst e
        rw [inR_n (by omega) (by omega) (by omega), decide_eq_true (by omega), decide_eq_true hk] at h'
        cases h'
      refine PS.ro (v := -1) hC hR hV htu ⟨M, ?_, Sc.rf⟩ (fun M1 hR1 => ⟨M1, ?_, ScR.rf⟩)
      · unfold X5_person
        rw [X5_isPerson_s hC hn hn7, h, zz_call, if_pos (by decide), if_neg (show ¬ y = 0 from ne 0 (by omega)), if_neg (show ¬ y = 1 from ne 1 (by omega)), if_neg (show ¬ y = 2 from ne 2 (by omega)), if_neg (show ¬ y = 3 from ne 3 (by omega)), if_neg (show ¬ y = 4 from ne 4 (by omega)), if_neg (show ¬ y = 5 from ne 5 (by omega))]
      · unfold X6_person
        rw [X6_isPerson_s hR1 hn hn7, h, zz_call, if_neg (by decide), show X6_in y.toInt64 0 5 M1 = _ from X6_in_s (lo := 0) (hi := 5), h', zz_call, if_neg (by decide)]
  · refine PS.ro (v := -1) hC hR hV htu ⟨M, ?_, Sc.rf⟩ (fun M1 hR1 => ⟨M1, ?_, ScR.rf⟩)
    · unfold X5_person
      rw [X5_isPerson_s hC hn hn7, h, zz_call, if_neg (by decide)]
    · unfold X6_person
      rw [X6_isPerson_s hR1 hn hn7, h, zz_call, if_pos (by decide)]
end OPS0
