/-! ===== the walks, by program (wip/gen/gen.py) ===== -/
abbrev rmX6_readAll : Room := { frames := 3, cells := 0, slots := 0, locals := 70 }
theorem kX6_readAll_f87 : (Cond.fieldLink RX6 87 "LadderOfBowsModel" "spot" "I") ∈ wsX6_readAll := List.mem_of_getElem? (i := 1) rfl
theorem kX6_readAll_f83 : (Cond.fieldLink RX6 83 "LadderOfBowsModel" "length" "I") ∈ wsX6_readAll := List.mem_of_getElem? (i := 2) rfl
theorem in_X6_readAll_X6 : ∀ w ∈ wsX60, w ∈ wsX6_readAll := by decide +kernel
theorem hd_X6_readAll : yX6_readAll.cls = RX6 ∧ yX6_readAll.cls ≠ "java/lang/invoke/MethodHandle" ∧ yX6_readAll.cls ≠ "java/lang/invoke/VarHandle" ∧ (parseMethodDescriptor yX6_readAll.desc).map (fun d => d.parameters.length) = some 0 := by decide +kernel
set_option maxRecDepth 100000 in
set_option maxHeartbeats 4000000 in
theorem w_X6_readAll_10 {p : Program} {l : Launch} {e : Env} {s : State} {m : MethodId} {args : Array Value} {below : List Frame} {meth : Method} {c : Code} {D : va_G} {cI : ClassId} {ad : Nat → Nat} {L : List CDs} {r : Int32} {M' : Mem} (C0 : me_X p s m args meth c cX6_readAll 2 (some .int) wsX6_readAll RX6 D cI ad L) (t : Nat) (hT : is_X6 L t) : ∀ (n : Nat)  (M : Mem), X6_readAll_10 t n M = some (r, M') → me_W p l e rmX6_readAll s m args below meth c D cI ad L (some (.int r)) M' 2 10 [(0, .ref (ad t))] [] M := by
  obtain ⟨hx, hb, hr, hml, hown, hts, hlk, hK, hI⟩ := id C0
  intro n
  induction n with
  | zero =>
    intro M h
    rw [X6_readAll_10] at h
    cases h
  | succ n ih =>
    intro M h
    rw [X6_readAll_10] at h
    intro H locs ls hP hS hl
    refine lv_aload_n hx hb dX6_readAll_10 rfl (lv_at hl 0 rfl) ?_
    refine me_get (ci := 6) (C := RX6) (T := TX6) (N := 22) hx hb hts in_X6_readAll_X6 hown hK hP hT.1 rfl 14 (by decide) (hts _ kX6_readAll_f87) rfl dX6_readAll_11 ?_
    refine lv_aload_n hx hb dX6_readAll_14 rfl (lv_at hl 0 rfl) ?_
    refine me_get (ci := 6) (C := RX6) (T := TX6) (N := 22) hx hb hts in_X6_readAll_X6 hown hK hP hT.1 rfl 0 (by decide) (hts _ kX6_readAll_f83) rfl dX6_readAll_15 ?_
    refine lv_icmp_ge (tgt := 38) hx hb dX6_readAll_18 (by decide) (fun q => ?_) (fun q => ?_)
    · rw [if_pos q] at h
      refine lv_bipush (v := (-4 : Int32)) hx hb dX6_readAll_38 (by decide) ?_
      exact me_iret hx hb hr hlk hP hS h dX6_readAll_40
    · rw [if_neg q] at h
      refine lv_aload_n hx hb dX6_readAll_21 rfl (lv_at hl 0 rfl) ?_
      refine me_get (ci := 6) (C := RX6) (T := TX6) (N := 22) hx hb hts in_X6_readAll_X6 hown hK hP hT.1 rfl 14 (by decide) (hts _ kX6_readAll_f87) rfl dX6_readAll_22 ?_
      refine lv_topi (fun x1_25 ev => ?_)
      replace h := s_let_inv h x1_25 ev
      refine lv_istore_n (lv' := [(1, .int x1_25), (0, .ref (ad t))]) hx hb dX6_readAll_25 rfl hl (by decide) rfl (fun ls hl => ?_)
      refine lv_aload_n hx hb dX6_readAll_26 rfl (lv_at hl 1 rfl) ?_
      obtain ⟨v27, M27, h1, h⟩ := s_call_inv h
      refine me_callVi (As := []) (rest := []) ⟨hx, hb, hml, hown, hts⟩ (c_X6_item hT h1) (cwV 0 hts gX6_readAll_X6_item rfl rfl rfl hd_X6_item ⟨(Nat.le_of_ble_eq_true rfl), (Nat.le_of_ble_eq_true rfl)⟩) hK hI hP hS hT.1 rfl rfl hl.1 rfl (Nat.le_of_ble_eq_true rfl) dX6_readAll_27 ⟨Nat.zero_le _, Nat.zero_le _⟩ (fun H locs hP hS => ?_)
      refine lv_if_ne (tgt := 35) hx hb dX6_readAll_30 (by decide) (fun q => ?_) (fun q => ?_)
      · rw [if_pos q] at h
        refine lv_goto (tgt := 10) hx hb dX6_readAll_35 (by decide) ?_
        exact ih  M27 h H locs ls hP hS (lv_sub hl [1] rfl)
      · rw [if_neg (not_not_intro q)] at h
        refine lv_iload_n hx hb dX6_readAll_33 rfl (lv_at hl 0 rfl) ?_
        exact me_iret hx hb hr hlk hP hS h dX6_readAll_34
set_option maxRecDepth 100000 in
set_option maxHeartbeats 4000000 in
theorem w_X6_readAll {p : Program} {l : Launch} {e : Env} {s : State} {m : MethodId} {args : Array Value} {below : List Frame} {meth : Method} {c : Code} {D : va_G} {cI : ClassId} {ad : Nat → Nat} {L : List CDs} {r : Int32} {M' : Mem} (C0 : me_X p s m args meth c cX6_readAll 2 (some .int) wsX6_readAll RX6 D cI ad L) (t : Nat) (hT : is_X6 L t) : ∀  (M : Mem), X6_readAll t M = some (r, M') → me_W p l e rmX6_readAll s m args below meth c D cI ad L (some (.int r)) M' 2 0 [(0, .ref (ad t))] [] M := by
  obtain ⟨hx, hb, hr, hml, hown, hts, hlk, hK, hI⟩ := id C0
  intro M h
  unfold X6_readAll at h
  intro H locs ls hP hS hl
  refine lv_aload_n hx hb dX6_readAll_0 rfl (lv_at hl 0 rfl) ?_
  refine lv_iconst (v := (1 : Int32)) hx hb dX6_readAll_1 (by decide) ?_
  obtain ⟨u2, M2, h1, h⟩ := s_call_inv h
  refine me_callVv (As := [.int (1 : Int32)]) (rest := []) ⟨hx, hb, hml, hown, hts⟩ (c_X6_noTown hT h1) (cwV 1 hts gX6_readAll_X6_noTown rfl rfl rfl hd_X6_noTown ⟨(Nat.le_of_ble_eq_true rfl), (Nat.le_of_ble_eq_true rfl)⟩) hK hI hP hS hT.1 rfl rfl hl.1 rfl (Nat.le_of_ble_eq_true rfl) dX6_readAll_2 ⟨Nat.zero_le _, Nat.zero_le _⟩ (fun H locs hP hS => ?_)
  refine lv_aload_n hx hb dX6_readAll_5 rfl (lv_at hl 0 rfl) ?_
  refine lv_iconst (v := (0 : Int32)) hx hb dX6_readAll_6 (by decide) ?_
  refine me_put (ci := 6) (C := RX6) (T := TX6) (N := 22) hx hb hts in_X6_readAll_X6 tyX6_ok nmX6 hown hK hI hP hS hT.1 rfl 14 (by decide) (hts _ kX6_readAll_f87) rfl rfl rfl dX6_readAll_7 (fun H locs M7 eM hP hS => ?_)
  replace h := s_put_inv h M7 eM
  exact w_X6_readAll_10 C0 t hT FU M7 h H locs ls hP hS (lv_sub hl [0] rfl)
theorem c_X6_readAll {l : Launch} {D : va_G} {cI : ClassId} {ad : Nat → Nat} {L : List CDs} {t : Nat} (hT : is_X6 L t)  {M M' : Mem} {r : Int32} (h : X6_readAll t M = some (r, M')) : me_Met l yX6_readAll wsX6_readAll rmX6_readAll D cI ad L [.ref (ad t)] (some (.int r)) M M' :=
  me_ofW (by decide) rfl (Nat.le_of_ble_eq_true rfl) (fun p e s m below meth c C0 => w_X6_readAll C0 t hT M h)
abbrev rmX6_fault : Room := { frames := 4, cells := 0, slots := 0, locals := 91 }
theorem hd_X6_fault : yX6_fault.cls = RX6 ∧ yX6_fault.cls ≠ "java/lang/invoke/MethodHandle" ∧ yX6_fault.cls ≠ "java/lang/invoke/VarHandle" ∧ (parseMethodDescriptor yX6_fault.desc).map (fun d => d.parameters.length) = some 0 := by decide +kernel
set_option maxRecDepth 100000 in
set_option maxHeartbeats 4000000 in
theorem w_X6_fault {p : Program} {l : Launch} {e : Env} {s : State} {m : MethodId} {args : Array Value} {below : List Frame} {meth : Method} {c : Code} {D : va_G} {cI : ClassId} {ad : Nat → Nat} {L : List CDs} {r : Int32} {M' : Mem} (C0 : me_X p s m args meth c cX6_fault 1 (some .int) wsX6_fault RX6 D cI ad L) (t : Nat) (hT : is_X6 L t) : ∀  (M : Mem), X6_fault t M = some (r, M') → me_W p l e rmX6_fault s m args below meth c D cI ad L (some (.int r)) M' 1 0 [(0, .ref (ad t))] [] M := by
  obtain ⟨hx, hb, hr, hml, hown, hts, hlk, hK, hI⟩ := id C0
  intro M h
  unfold X6_fault at h
  intro H locs ls hP hS hl
  refine lv_aload_n hx hb dX6_fault_0 rfl (lv_at hl 0 rfl) ?_
  obtain ⟨v1, M1, h1, h⟩ := s_call_inv h
  refine me_callVi (As := []) (rest := []) ⟨hx, hb, hml, hown, hts⟩ (c_X6_readAll hT h1) (cwV 0 hts gX6_fault_X6_readAll rfl rfl rfl hd_X6_readAll ⟨(Nat.le_of_ble_eq_true rfl), (Nat.le_of_ble_eq_true rfl)⟩) hK hI hP hS hT.1 rfl rfl hl.1 rfl (Nat.le_of_ble_eq_true rfl) dX6_fault_1 ⟨Nat.zero_le _, Nat.zero_le _⟩ (fun H locs hP hS => ?_)
  exact me_iret hx hb hr hlk hP hS h dX6_fault_4
theorem c_X6_fault {l : Launch} {D : va_G} {cI : ClassId} {ad : Nat → Nat} {L : List CDs} {t : Nat} (hT : is_X6 L t)  {M M' : Mem} {r : Int32} (h : X6_fault t M = some (r, M')) : me_Met l yX6_fault wsX6_fault rmX6_fault D cI ad L [.ref (ad t)] (some (.int r)) M M' :=
  me_ofW (by decide) rfl (Nat.le_of_ble_eq_true rfl) (fun p e s m below meth c C0 => w_X6_fault C0 t hT M h)
abbrev rmX6_isAlive : Room := { frames := 1, cells := 0, slots := 0, locals := 21 }
theorem kX6_isAlive_f49 : (Cond.fieldLink RX6 49 "LadderOfBowsModel" "alive" "[I") ∈ wsX6_isAlive := List.mem_of_getElem? (i := 1) rfl
theorem in_X6_isAlive_X6 : ∀ w ∈ wsX60, w ∈ wsX6_isAlive := by decide +kernel
theorem hd_X6_isAlive : yX6_isAlive.cls = RX6 ∧ yX6_isAlive.cls ≠ "java/lang/invoke/MethodHandle" ∧ yX6_isAlive.cls ≠ "java/lang/invoke/VarHandle" ∧ (parseMethodDescriptor yX6_isAlive.desc).map (fun d => d.parameters.length) = some 2 := by decide +kernel
set_option maxRecDepth 100000 in
set_option maxHeartbeats 4000000 in
theorem w_X6_isAlive {p : Program} {l : Launch} {e : Env} {s : State} {m : MethodId} {args : Array Value} {below : List Frame} {meth : Method} {c : Code} {D : va_G} {cI : ClassId} {ad : Nat → Nat} {L : List CDs} {r : Int32} {M' : Mem} (C0 : me_X p s m args meth c cX6_isAlive 3 (some .boolean) wsX6_isAlive RX6 D cI ad L) (t : Nat) (hT : is_X6 L t) (x1 : Int32) (x2 : Int32) : ∀  (M : Mem), X6_isAlive t x1 x2 M = some (r, M') → me_W p l e rmX6_isAlive s m args below meth c D cI ad L (some (.int r)) M' 3 0 [(0, .ref (ad t)), (1, .int x1), (2, .int x2)] [] M := by
  obtain ⟨hx, hb, hr, hml, hown, hts, hlk, hK, hI⟩ := id C0
  intro M h
  unfold X6_isAlive at h
  intro H locs ls hP hS hl
  refine lv_aload_n hx hb dX6_isAlive_0 rfl (lv_at hl 0 rfl) ?_
  refine me_getr (ci := 6) (C := RX6) (T := TX6) (N := 22) hx hb hts in_X6_isAlive_X6 hown hK hP hT.1 rfl 17 (by decide) (hts _ kX6_isAlive_f49) rfl dX6_isAlive_1 ?_
  refine lv_iload_n hx hb dX6_isAlive_4 rfl (lv_at hl 1 rfl) ?_
  obtain ⟨hi, h⟩ := s_ald_inv h
  refine me_ald hx hb hK hP hT.2.2.2.2.2.2.2.2.2.2.2.2.2.2.1 hi dX6_isAlive_5 (fun v5 ev => ?_)
  replace h := h v5 ev
  refine lv_iload_n hx hb dX6_isAlive_6 rfl (lv_at hl 2 rfl) ?_
  obtain ⟨v7, M7, h1, h⟩ := s_call_inv h
  refine me_callSi (As := [.int v5, .int x2]) (rest := []) ⟨hx, hb, hml, hown, hts⟩ (c_X6_has h1) (va_cwS 2 hts gX6_isAlive_X6_has rfl rfl rfl hd_X6_has.2 ⟨(Nat.le_of_ble_eq_true rfl), (Nat.le_of_ble_eq_true rfl)⟩) hK hI hP hS rfl hl.1 rfl (Nat.le_of_ble_eq_true rfl) dX6_isAlive_7 ⟨Nat.zero_le _, Nat.zero_le _⟩ (fun H locs hP hS => ?_)
  exact me_zret hx hb hr hlk hP hS h dX6_isAlive_10
theorem c_X6_isAlive {l : Launch} {D : va_G} {cI : ClassId} {ad : Nat → Nat} {L : List CDs} {t : Nat} (hT : is_X6 L t) {x1 : Int32} {x2 : Int32} {M M' : Mem} {r : Int32} (h : X6_isAlive t x1 x2 M = some (r, M')) : me_Met l yX6_isAlive wsX6_isAlive rmX6_isAlive D cI ad L [.ref (ad t), .int x1, .int x2] (some (.int r)) M M' :=
  me_ofW (by decide) rfl (Nat.le_of_ble_eq_true rfl) (fun p e s m below meth c C0 => w_X6_isAlive C0 t hT x1 x2 M h)
abbrev rmX6_debt : Room := { frames := 0, cells := 0, slots := 0, locals := 0 }
theorem kX6_debt_f46 : (Cond.fieldLink RX6 46 "LadderOfBowsModel" "debts" "[I") ∈ wsX6_debt := List.mem_of_getElem? (i := 1) rfl
theorem in_X6_debt_X6 : ∀ w ∈ wsX60, w ∈ wsX6_debt := by decide +kernel
theorem hd_X6_debt : yX6_debt.cls = RX6 ∧ yX6_debt.cls ≠ "java/lang/invoke/MethodHandle" ∧ yX6_debt.cls ≠ "java/lang/invoke/VarHandle" ∧ (parseMethodDescriptor yX6_debt.desc).map (fun d => d.parameters.length) = some 3 := by decide +kernel
set_option maxRecDepth 100000 in
set_option maxHeartbeats 4000000 in
theorem w_X6_debt {p : Program} {l : Launch} {e : Env} {s : State} {m : MethodId} {args : Array Value} {below : List Frame} {meth : Method} {c : Code} {D : va_G} {cI : ClassId} {ad : Nat → Nat} {L : List CDs} {r : Int32} {M' : Mem} (C0 : me_X p s m args meth c cX6_debt 4 (some .int) wsX6_debt RX6 D cI ad L) (t : Nat) (hT : is_X6 L t) (x1 : Int32) (x2 : Int32) (x3 : Int32) : ∀  (M : Mem), X6_debt t x1 x2 x3 M = some (r, M') → me_W p l e rmX6_debt s m args below meth c D cI ad L (some (.int r)) M' 4 0 [(0, .ref (ad t)), (1, .int x1), (2, .int x2), (3, .int x3)] [] M := by
  obtain ⟨hx, hb, hr, hml, hown, hts, hlk, hK, hI⟩ := id C0
  intro M h
  unfold X6_debt at h
  intro H locs ls hP hS hl
  refine lv_aload_n hx hb dX6_debt_0 rfl (lv_at hl 0 rfl) ?_
  refine me_getr (ci := 6) (C := RX6) (T := TX6) (N := 22) hx hb hts in_X6_debt_X6 hown hK hP hT.1 rfl 16 (by decide) (hts _ kX6_debt_f46) rfl dX6_debt_1 ?_
  refine lv_bipush (v := (64 : Int32)) hx hb dX6_debt_4 (by decide) ?_
  refine lv_iload_n hx hb dX6_debt_6 rfl (lv_at hl 1 rfl) ?_
  refine lv_imul hx hb dX6_debt_7 ?_
  refine lv_bipush (v := (8 : Int32)) hx hb dX6_debt_8 (by decide) ?_
  refine lv_iload_n hx hb dX6_debt_10 rfl (lv_at hl 2 rfl) ?_
  refine lv_imul hx hb dX6_debt_11 ?_
  refine lv_iadd hx hb dX6_debt_12 ?_
  refine lv_iload_n hx hb dX6_debt_13 rfl (lv_at hl 3 rfl) ?_
  refine lv_iadd hx hb dX6_debt_14 ?_
  obtain ⟨hi, h⟩ := s_ald_inv h
  refine me_ald hx hb hK hP hT.2.2.2.2.2.2.2.2.2.2.2.2.2.1 hi dX6_debt_15 (fun v15 ev => ?_)
  replace h := h v15 ev
  exact me_iret hx hb hr hlk hP hS h dX6_debt_16
theorem c_X6_debt {l : Launch} {D : va_G} {cI : ClassId} {ad : Nat → Nat} {L : List CDs} {t : Nat} (hT : is_X6 L t) {x1 : Int32} {x2 : Int32} {x3 : Int32} {M M' : Mem} {r : Int32} (h : X6_debt t x1 x2 x3 M = some (r, M')) : me_Met l yX6_debt wsX6_debt rmX6_debt D cI ad L [.ref (ad t), .int x1, .int x2, .int x3] (some (.int r)) M M' :=
  me_ofW (by decide) rfl (Nat.le_of_ble_eq_true rfl) (fun p e s m below meth c C0 => w_X6_debt C0 t hT x1 x2 x3 M h)
abbrev rmX6_debtsOf : Room := { frames := 1, cells := 0, slots := 0, locals := 23 }
theorem hd_X6_debtsOf : yX6_debtsOf.cls = RX6 ∧ yX6_debtsOf.cls ≠ "java/lang/invoke/MethodHandle" ∧ yX6_debtsOf.cls ≠ "java/lang/invoke/VarHandle" ∧ (parseMethodDescriptor yX6_debtsOf.desc).map (fun d => d.parameters.length) = some 2 := by decide +kernel
set_option maxRecDepth 100000 in
set_option maxHeartbeats 4000000 in
theorem w_X6_debtsOf_5 {p : Program} {l : Launch} {e : Env} {s : State} {m : MethodId} {args : Array Value} {below : List Frame} {meth : Method} {c : Code} {D : va_G} {cI : ClassId} {ad : Nat → Nat} {L : List CDs} {r : Int32} {M' : Mem} (C0 : me_X p s m args meth c cX6_debtsOf 5 (some .int) wsX6_debtsOf RX6 D cI ad L) (t : Nat) (hT : is_X6 L t) (x1 : Int32) (x2 : Int32) : ∀ (n : Nat) (x3 : Int32) (x4 : Int32) (M : Mem), X6_debtsOf_5 t x1 x2 n x3 x4 M = some (r, M') → me_W p l e rmX6_debtsOf s m args below meth c D cI ad L (some (.int r)) M' 5 5 [(0, .ref (ad t)), (1, .int x1), (2, .int x2), (3, .int x3), (4, .int x4)] [] M := by
  obtain ⟨hx, hb, hr, hml, hown, hts, hlk, hK, hI⟩ := id C0
  intro n
  induction n with
  | zero =>
    intro x3 x4 M h
    rw [X6_debtsOf_5] at h
    cases h
  | succ n ih =>
    intro x3 x4 M h
    rw [X6_debtsOf_5] at h
    intro H locs ls hP hS hl
    refine lv_iload hx hb dX6_debtsOf_5 (lv_at hl 4 rfl) ?_
    refine lv_bipush (v := (8 : Int32)) hx hb dX6_debtsOf_7 (by decide) ?_
    refine lv_icmp_ge (tgt := 29) hx hb dX6_debtsOf_9 (by decide) (fun q => ?_) (fun q => ?_)
    · rw [if_pos q] at h
      refine lv_iload_n hx hb dX6_debtsOf_29 rfl (lv_at hl 3 rfl) ?_
      exact me_iret hx hb hr hlk hP hS h dX6_debtsOf_30
    · rw [if_neg q] at h
      refine lv_iload_n hx hb dX6_debtsOf_12 rfl (lv_at hl 3 rfl) ?_
      refine lv_aload_n hx hb dX6_debtsOf_13 rfl (lv_at hl 0 rfl) ?_
      refine lv_iload_n hx hb dX6_debtsOf_14 rfl (lv_at hl 1 rfl) ?_
      refine lv_iload_n hx hb dX6_debtsOf_15 rfl (lv_at hl 2 rfl) ?_
      refine lv_iload hx hb dX6_debtsOf_16 (lv_at hl 4 rfl) ?_
      obtain ⟨v18, M18, h1, h⟩ := s_call_inv h
      refine me_callVi (As := [.int x1, .int x2, .int x4]) (rest := [.int x3]) ⟨hx, hb, hml, hown, hts⟩ (c_X6_debt hT h1) (cwV 3 hts gX6_debtsOf_X6_debt rfl rfl rfl hd_X6_debt ⟨(Nat.le_of_ble_eq_true rfl), (Nat.le_of_ble_eq_true rfl)⟩) hK hI hP hS hT.1 rfl rfl hl.1 rfl (Nat.le_of_ble_eq_true rfl) dX6_debtsOf_18 ⟨Nat.zero_le _, Nat.zero_le _⟩ (fun H locs hP hS => ?_)
      refine lv_iadd hx hb dX6_debtsOf_21 ?_
      refine lv_topi (fun x3_22 ev => ?_)
      replace h := s_let_inv h x3_22 ev
      refine lv_istore_n (lv' := [(3, .int x3_22), (0, .ref (ad t)), (1, .int x1), (2, .int x2), (4, .int x4)]) hx hb dX6_debtsOf_22 rfl hl (by decide) rfl (fun ls hl => ?_)
      refine lv_iinc (k := 4) (v := (x4 + (1 : Int32))) (lv' := [(4, .int (x4 + (1 : Int32))), (3, .int x3_22), (0, .ref (ad t)), (1, .int x1), (2, .int x2)]) hx hb dX6_debtsOf_23 hl rfl rfl (by decide) rfl (fun ls hl => ?_)
      refine lv_goto (tgt := 5) hx hb dX6_debtsOf_26 (by decide) ?_
      exact ih x3_22 (x4 + (1 : Int32)) M18 h H locs ls hP hS (lv_sub hl [2, 3, 4, 1, 0] rfl)
set_option maxRecDepth 100000 in
set_option maxHeartbeats 4000000 in
theorem w_X6_debtsOf {p : Program} {l : Launch} {e : Env} {s : State} {m : MethodId} {args : Array Value} {below : List Frame} {meth : Method} {c : Code} {D : va_G} {cI : ClassId} {ad : Nat → Nat} {L : List CDs} {r : Int32} {M' : Mem} (C0 : me_X p s m args meth c cX6_debtsOf 5 (some .int) wsX6_debtsOf RX6 D cI ad L) (t : Nat) (hT : is_X6 L t) (x1 : Int32) (x2 : Int32) : ∀  (M : Mem), X6_debtsOf t x1 x2 M = some (r, M') → me_W p l e rmX6_debtsOf s m args below meth c D cI ad L (some (.int r)) M' 5 0 [(0, .ref (ad t)), (1, .int x1), (2, .int x2)] [] M := by
  obtain ⟨hx, hb, hr, hml, hown, hts, hlk, hK, hI⟩ := id C0
  intro M h
  unfold X6_debtsOf at h
  intro H locs ls hP hS hl
  refine lv_iconst (v := (0 : Int32)) hx hb dX6_debtsOf_0 (by decide) ?_
  refine lv_istore_n (lv' := [(3, .int (0 : Int32)), (0, .ref (ad t)), (1, .int x1), (2, .int x2)]) hx hb dX6_debtsOf_1 rfl hl (by decide) rfl (fun ls hl => ?_)
  refine lv_iconst (v := (0 : Int32)) hx hb dX6_debtsOf_2 (by decide) ?_
  refine lv_istore (lv' := [(4, .int (0 : Int32)), (3, .int (0 : Int32)), (0, .ref (ad t)), (1, .int x1), (2, .int x2)]) hx hb dX6_debtsOf_3 hl (by decide) rfl (fun ls hl => ?_)
  exact w_X6_debtsOf_5 C0 t hT x1 x2 FU (0 : Int32) (0 : Int32) M h H locs ls hP hS (lv_sub hl [2, 3, 4, 1, 0] rfl)
theorem c_X6_debtsOf {l : Launch} {D : va_G} {cI : ClassId} {ad : Nat → Nat} {L : List CDs} {t : Nat} (hT : is_X6 L t) {x1 : Int32} {x2 : Int32} {M M' : Mem} {r : Int32} (h : X6_debtsOf t x1 x2 M = some (r, M')) : me_Met l yX6_debtsOf wsX6_debtsOf rmX6_debtsOf D cI ad L [.ref (ad t), .int x1, .int x2] (some (.int r)) M M' :=
  me_ofW (by decide) rfl (Nat.le_of_ble_eq_true rfl) (fun p e s m below meth c C0 => w_X6_debtsOf C0 t hT x1 x2 M h)
abbrev rmX6_takes : Room := { frames := 2, cells := 0, slots := 0, locals := 47 }
theorem kX6_takes_f16 : (Cond.fieldLink RX6 16 "LadderOfBowsModel" "kinds" "[I") ∈ wsX6_takes := List.mem_of_getElem? (i := 1) rfl
theorem in_X6_takes_X6 : ∀ w ∈ wsX60, w ∈ wsX6_takes := by decide +kernel
theorem hd_X6_takes : yX6_takes.cls = RX6 ∧ yX6_takes.cls ≠ "java/lang/invoke/MethodHandle" ∧ yX6_takes.cls ≠ "java/lang/invoke/VarHandle" ∧ (parseMethodDescriptor yX6_takes.desc).map (fun d => d.parameters.length) = some 2 := by decide +kernel
set_option maxRecDepth 100000 in
set_option maxHeartbeats 4000000 in
theorem w_X6_takes {p : Program} {l : Launch} {e : Env} {s : State} {m : MethodId} {args : Array Value} {below : List Frame} {meth : Method} {c : Code} {D : va_G} {cI : ClassId} {ad : Nat → Nat} {L : List CDs} {r : Int32} {M' : Mem} (C0 : me_X p s m args meth c cX6_takes 3 (some .boolean) wsX6_takes RX6 D cI ad L) (t : Nat) (hT : is_X6 L t) (x1 : Int32) (x2 : Int32) : ∀  (M : Mem), X6_takes t x1 x2 M = some (r, M') → me_W p l e rmX6_takes s m args below meth c D cI ad L (some (.int r)) M' 3 0 [(0, .ref (ad t)), (1, .int x1), (2, .int x2)] [] M := by
  obtain ⟨hx, hb, hr, hml, hown, hts, hlk, hK, hI⟩ := id C0
  intro M h
  unfold X6_takes at h
  intro H locs ls hP hS hl
  refine lv_aload_n hx hb dX6_takes_0 rfl (lv_at hl 0 rfl) ?_
  refine lv_iload_n hx hb dX6_takes_1 rfl (lv_at hl 1 rfl) ?_
  refine lv_iload_n hx hb dX6_takes_2 rfl (lv_at hl 2 rfl) ?_
  obtain ⟨v3, M3, h1, h⟩ := s_call_inv h
  refine me_callVi (As := [.int x1, .int x2]) (rest := []) ⟨hx, hb, hml, hown, hts⟩ (c_X6_isAlive hT h1) (cwV 2 hts gX6_takes_X6_isAlive rfl rfl rfl hd_X6_isAlive ⟨(Nat.le_of_ble_eq_true rfl), (Nat.le_of_ble_eq_true rfl)⟩) hK hI hP hS hT.1 rfl rfl hl.1 rfl (Nat.le_of_ble_eq_true rfl) dX6_takes_3 ⟨Nat.zero_le _, Nat.zero_le _⟩ (fun H locs hP hS => ?_)
  refine lv_if_eq (tgt := 32) hx hb dX6_takes_6 (by decide) (fun q => ?_) (fun q => ?_)
  · rw [if_pos q] at h
    refine lv_iconst (v := (0 : Int32)) hx hb dX6_takes_32 (by decide) ?_
    exact me_zret hx hb hr hlk hP hS h dX6_takes_33
  · rw [if_neg q] at h
    refine lv_aload_n hx hb dX6_takes_9 rfl (lv_at hl 0 rfl) ?_
    refine me_getr (ci := 6) (C := RX6) (T := TX6) (N := 22) hx hb hts in_X6_takes_X6 hown hK hP hT.1 rfl 3 (by decide) (hts _ kX6_takes_f16) rfl dX6_takes_10 ?_
    refine lv_iload_n hx hb dX6_takes_13 rfl (lv_at hl 2 rfl) ?_
    obtain ⟨hi, h⟩ := s_ald_inv h
    refine me_ald hx hb hK hP hT.2.2.2.1 hi dX6_takes_14 (fun v14 ev => ?_)
    replace h := h v14 ev
    refine lv_iconst (v := (1 : Int32)) hx hb dX6_takes_15 (by decide) ?_
    refine lv_icmp_eq (tgt := 28) hx hb dX6_takes_16 (by decide) (fun q => ?_) (fun q => ?_)
    · rw [if_pos q] at h
      refine lv_iconst (v := (1 : Int32)) hx hb dX6_takes_28 (by decide) ?_
      refine lv_goto (tgt := 33) hx hb dX6_takes_29 (by decide) ?_
      exact me_zret hx hb hr hlk hP hS h dX6_takes_33
    · rw [if_neg q] at h
      refine lv_aload_n hx hb dX6_takes_19 rfl (lv_at hl 0 rfl) ?_
      refine lv_iload_n hx hb dX6_takes_20 rfl (lv_at hl 1 rfl) ?_
      refine lv_iload_n hx hb dX6_takes_21 rfl (lv_at hl 2 rfl) ?_
      obtain ⟨v22, M22, h1, h⟩ := s_call_inv h
      refine me_callVi (As := [.int x1, .int x2]) (rest := []) ⟨hx, hb, hml, hown, hts⟩ (c_X6_debtsOf hT h1) (cwV 2 hts gX6_takes_X6_debtsOf rfl rfl rfl hd_X6_debtsOf ⟨(Nat.le_of_ble_eq_true rfl), (Nat.le_of_ble_eq_true rfl)⟩) hK hI hP hS hT.1 rfl rfl hl.1 rfl (Nat.le_of_ble_eq_true rfl) dX6_takes_22 ⟨Nat.zero_le _, Nat.zero_le _⟩ (fun H locs hP hS => ?_)
      refine lv_if_ne (tgt := 32) hx hb dX6_takes_25 (by decide) (fun q => ?_) (fun q => ?_)
      · rw [if_pos q] at h
        refine lv_iconst (v := (0 : Int32)) hx hb dX6_takes_32 (by decide) ?_
        exact me_zret hx hb hr hlk hP hS h dX6_takes_33
      · rw [if_neg (not_not_intro q)] at h
        refine lv_iconst (v := (1 : Int32)) hx hb dX6_takes_28 (by decide) ?_
        refine lv_goto (tgt := 33) hx hb dX6_takes_29 (by decide) ?_
        exact me_zret hx hb hr hlk hP hS h dX6_takes_33
theorem c_X6_takes {l : Launch} {D : va_G} {cI : ClassId} {ad : Nat → Nat} {L : List CDs} {t : Nat} (hT : is_X6 L t) {x1 : Int32} {x2 : Int32} {M M' : Mem} {r : Int32} (h : X6_takes t x1 x2 M = some (r, M')) : me_Met l yX6_takes wsX6_takes rmX6_takes D cI ad L [.ref (ad t), .int x1, .int x2] (some (.int r)) M M' :=
  me_ofW (by decide) rfl (Nat.le_of_ble_eq_true rfl) (fun p e s m below meth c C0 => w_X6_takes C0 t hT x1 x2 M h)
abbrev rmX6_canBow : Room := { frames := 3, cells := 0, slots := 0, locals := 69 }
theorem hd_X6_canBow : yX6_canBow.cls = RX6 ∧ yX6_canBow.cls ≠ "java/lang/invoke/MethodHandle" ∧ yX6_canBow.cls ≠ "java/lang/invoke/VarHandle" ∧ (parseMethodDescriptor yX6_canBow.desc).map (fun d => d.parameters.length) = some 3 := by decide +kernel
set_option maxRecDepth 100000 in
set_option maxHeartbeats 4000000 in
theorem w_X6_canBow {p : Program} {l : Launch} {e : Env} {s : State} {m : MethodId} {args : Array Value} {below : List Frame} {meth : Method} {c : Code} {D : va_G} {cI : ClassId} {ad : Nat → Nat} {L : List CDs} {r : Int32} {M' : Mem} (C0 : me_X p s m args meth c cX6_canBow 4 (some .boolean) wsX6_canBow RX6 D cI ad L) (t : Nat) (hT : is_X6 L t) (x1 : Int32) (x2 : Int32) (x3 : Int32) : ∀  (M : Mem), X6_canBow t x1 x2 x3 M = some (r, M') → me_W p l e rmX6_canBow s m args below meth c D cI ad L (some (.int r)) M' 4 0 [(0, .ref (ad t)), (1, .int x1), (2, .int x2), (3, .int x3)] [] M := by
  obtain ⟨hx, hb, hr, hml, hown, hts, hlk, hK, hI⟩ := id C0
  intro M h
  unfold X6_canBow at h
  intro H locs ls hP hS hl
  refine lv_aload_n hx hb dX6_canBow_0 rfl (lv_at hl 0 rfl) ?_
  refine lv_iload_n hx hb dX6_canBow_1 rfl (lv_at hl 1 rfl) ?_
  refine lv_iload_n hx hb dX6_canBow_2 rfl (lv_at hl 2 rfl) ?_
  refine lv_iload_n hx hb dX6_canBow_3 rfl (lv_at hl 3 rfl) ?_
  obtain ⟨v4, M4, h1, h⟩ := s_call_inv h
  refine me_callVi (As := [.int x1, .int x2, .int x3]) (rest := []) ⟨hx, hb, hml, hown, hts⟩ (c_X6_debt hT h1) (cwV 3 hts gX6_canBow_X6_debt rfl rfl rfl hd_X6_debt ⟨(Nat.le_of_ble_eq_true rfl), (Nat.le_of_ble_eq_true rfl)⟩) hK hI hP hS hT.1 rfl rfl hl.1 rfl (Nat.le_of_ble_eq_true rfl) dX6_canBow_4 ⟨Nat.zero_le _, Nat.zero_le _⟩ (fun H locs hP hS => ?_)
  refine lv_if_le (tgt := 23) hx hb dX6_canBow_7 (by decide) (fun q => ?_) (fun q => ?_)
  · rw [if_pos q] at h
    refine lv_iconst (v := (0 : Int32)) hx hb dX6_canBow_23 (by decide) ?_
    exact me_zret hx hb hr hlk hP hS h dX6_canBow_24
  · rw [if_neg q] at h
    refine lv_aload_n hx hb dX6_canBow_10 rfl (lv_at hl 0 rfl) ?_
    refine lv_iload_n hx hb dX6_canBow_11 rfl (lv_at hl 1 rfl) ?_
    refine lv_iload_n hx hb dX6_canBow_12 rfl (lv_at hl 3 rfl) ?_
    obtain ⟨v13, M13, h1, h⟩ := s_call_inv h
    refine me_callVi (As := [.int x1, .int x3]) (rest := []) ⟨hx, hb, hml, hown, hts⟩ (c_X6_takes hT h1) (cwV 2 hts gX6_canBow_X6_takes rfl rfl rfl hd_X6_takes ⟨(Nat.le_of_ble_eq_true rfl), (Nat.le_of_ble_eq_true rfl)⟩) hK hI hP hS hT.1 rfl rfl hl.1 rfl (Nat.le_of_ble_eq_true rfl) dX6_canBow_13 ⟨Nat.zero_le _, Nat.zero_le _⟩ (fun H locs hP hS => ?_)
    refine lv_if_eq (tgt := 23) hx hb dX6_canBow_16 (by decide) (fun q => ?_) (fun q => ?_)
    · rw [if_pos q] at h
      refine lv_iconst (v := (0 : Int32)) hx hb dX6_canBow_23 (by decide) ?_
      exact me_zret hx hb hr hlk hP hS h dX6_canBow_24
    · rw [if_neg q] at h
      refine lv_iconst (v := (1 : Int32)) hx hb dX6_canBow_19 (by decide) ?_
      refine lv_goto (tgt := 24) hx hb dX6_canBow_20 (by decide) ?_
      exact me_zret hx hb hr hlk hP hS h dX6_canBow_24
theorem c_X6_canBow {l : Launch} {D : va_G} {cI : ClassId} {ad : Nat → Nat} {L : List CDs} {t : Nat} (hT : is_X6 L t) {x1 : Int32} {x2 : Int32} {x3 : Int32} {M M' : Mem} {r : Int32} (h : X6_canBow t x1 x2 x3 M = some (r, M')) : me_Met l yX6_canBow wsX6_canBow rmX6_canBow D cI ad L [.ref (ad t), .int x1, .int x2, .int x3] (some (.int r)) M M' :=
  me_ofW (by decide) rfl (Nat.le_of_ble_eq_true rfl) (fun p e s m below meth c C0 => w_X6_canBow C0 t hT x1 x2 x3 M h)
abbrev rmX6_canAtOnce : Room := { frames := 2, cells := 0, slots := 0, locals := 47 }
theorem hd_X6_canAtOnce : yX6_canAtOnce.cls = RX6 ∧ yX6_canAtOnce.cls ≠ "java/lang/invoke/MethodHandle" ∧ yX6_canAtOnce.cls ≠ "java/lang/invoke/VarHandle" ∧ (parseMethodDescriptor yX6_canAtOnce.desc).map (fun d => d.parameters.length) = some 3 := by decide +kernel
set_option maxRecDepth 100000 in
set_option maxHeartbeats 4000000 in
theorem w_X6_canAtOnce {p : Program} {l : Launch} {e : Env} {s : State} {m : MethodId} {args : Array Value} {below : List Frame} {meth : Method} {c : Code} {D : va_G} {cI : ClassId} {ad : Nat → Nat} {L : List CDs} {r : Int32} {M' : Mem} (C0 : me_X p s m args meth c cX6_canAtOnce 4 (some .boolean) wsX6_canAtOnce RX6 D cI ad L) (t : Nat) (hT : is_X6 L t) (x1 : Int32) (x2 : Int32) (x3 : Int32) : ∀  (M : Mem), X6_canAtOnce t x1 x2 x3 M = some (r, M') → me_W p l e rmX6_canAtOnce s m args below meth c D cI ad L (some (.int r)) M' 4 0 [(0, .ref (ad t)), (1, .int x1), (2, .int x2), (3, .int x3)] [] M := by
  obtain ⟨hx, hb, hr, hml, hown, hts, hlk, hK, hI⟩ := id C0
  intro M h
  unfold X6_canAtOnce at h
  intro H locs ls hP hS hl
  refine lv_aload_n hx hb dX6_canAtOnce_0 rfl (lv_at hl 0 rfl) ?_
  refine lv_iload_n hx hb dX6_canAtOnce_1 rfl (lv_at hl 1 rfl) ?_
  refine lv_iload_n hx hb dX6_canAtOnce_2 rfl (lv_at hl 2 rfl) ?_
  refine lv_iload_n hx hb dX6_canAtOnce_3 rfl (lv_at hl 3 rfl) ?_
  obtain ⟨v4, M4, h1, h⟩ := s_call_inv h
  refine me_callVi (As := [.int x1, .int x2, .int x3]) (rest := []) ⟨hx, hb, hml, hown, hts⟩ (c_X6_debt hT h1) (cwV 3 hts gX6_canAtOnce_X6_debt rfl rfl rfl hd_X6_debt ⟨(Nat.le_of_ble_eq_true rfl), (Nat.le_of_ble_eq_true rfl)⟩) hK hI hP hS hT.1 rfl rfl hl.1 rfl (Nat.le_of_ble_eq_true rfl) dX6_canAtOnce_4 ⟨Nat.zero_le _, Nat.zero_le _⟩ (fun H locs hP hS => ?_)
  refine lv_if_le (tgt := 56) hx hb dX6_canAtOnce_7 (by decide) (fun q => ?_) (fun q => ?_)
  · rw [if_pos q] at h
    refine lv_iconst (v := (0 : Int32)) hx hb dX6_canAtOnce_56 (by decide) ?_
    exact me_zret hx hb hr hlk hP hS h dX6_canAtOnce_57
  · rw [if_neg q] at h
    refine lv_aload_n hx hb dX6_canAtOnce_10 rfl (lv_at hl 0 rfl) ?_
    refine lv_iload_n hx hb dX6_canAtOnce_11 rfl (lv_at hl 1 rfl) ?_
    refine lv_iload_n hx hb dX6_canAtOnce_12 rfl (lv_at hl 3 rfl) ?_
    refine lv_iload_n hx hb dX6_canAtOnce_13 rfl (lv_at hl 2 rfl) ?_
    obtain ⟨v14, M14, h1, h⟩ := s_call_inv h
    refine me_callVi (As := [.int x1, .int x3, .int x2]) (rest := []) ⟨hx, hb, hml, hown, hts⟩ (c_X6_debt hT h1) (cwV 3 hts gX6_canAtOnce_X6_debt rfl rfl rfl hd_X6_debt ⟨(Nat.le_of_ble_eq_true rfl), (Nat.le_of_ble_eq_true rfl)⟩) hK hI hP hS hT.1 rfl rfl hl.1 rfl (Nat.le_of_ble_eq_true rfl) dX6_canAtOnce_14 ⟨Nat.zero_le _, Nat.zero_le _⟩ (fun H locs hP hS => ?_)
    refine lv_if_le (tgt := 56) hx hb dX6_canAtOnce_17 (by decide) (fun q => ?_) (fun q => ?_)
    · rw [if_pos q] at h
      refine lv_iconst (v := (0 : Int32)) hx hb dX6_canAtOnce_56 (by decide) ?_
      exact me_zret hx hb hr hlk hP hS h dX6_canAtOnce_57
    · rw [if_neg q] at h
      refine lv_aload_n hx hb dX6_canAtOnce_20 rfl (lv_at hl 0 rfl) ?_
      refine lv_iload_n hx hb dX6_canAtOnce_21 rfl (lv_at hl 1 rfl) ?_
      refine lv_iload_n hx hb dX6_canAtOnce_22 rfl (lv_at hl 2 rfl) ?_
      obtain ⟨v23, M23, h1, h⟩ := s_call_inv h
      refine me_callVi (As := [.int x1, .int x2]) (rest := []) ⟨hx, hb, hml, hown, hts⟩ (c_X6_debtsOf hT h1) (cwV 2 hts gX6_canAtOnce_X6_debtsOf rfl rfl rfl hd_X6_debtsOf ⟨(Nat.le_of_ble_eq_true rfl), (Nat.le_of_ble_eq_true rfl)⟩) hK hI hP hS hT.1 rfl rfl hl.1 rfl (Nat.le_of_ble_eq_true rfl) dX6_canAtOnce_23 ⟨Nat.zero_le _, Nat.zero_le _⟩ (fun H locs hP hS => ?_)
      refine lv_aload_n hx hb dX6_canAtOnce_26 rfl (lv_at hl 0 rfl) ?_
      refine lv_iload_n hx hb dX6_canAtOnce_27 rfl (lv_at hl 1 rfl) ?_
      refine lv_iload_n hx hb dX6_canAtOnce_28 rfl (lv_at hl 2 rfl) ?_
      refine lv_iload_n hx hb dX6_canAtOnce_29 rfl (lv_at hl 3 rfl) ?_
      obtain ⟨v30, M30, h1, h⟩ := s_call_inv h
      refine me_callVi (As := [.int x1, .int x2, .int x3]) (rest := [.int v23]) ⟨hx, hb, hml, hown, hts⟩ (c_X6_debt hT h1) (cwV 3 hts gX6_canAtOnce_X6_debt rfl rfl rfl hd_X6_debt ⟨(Nat.le_of_ble_eq_true rfl), (Nat.le_of_ble_eq_true rfl)⟩) hK hI hP hS hT.1 rfl rfl hl.1 rfl (Nat.le_of_ble_eq_true rfl) dX6_canAtOnce_30 ⟨Nat.zero_le _, Nat.zero_le _⟩ (fun H locs hP hS => ?_)
      refine lv_icmp_ne (tgt := 56) hx hb dX6_canAtOnce_33 (by decide) (fun q => ?_) (fun q => ?_)
      · rw [if_pos q] at h
        refine lv_iconst (v := (0 : Int32)) hx hb dX6_canAtOnce_56 (by decide) ?_
        exact me_zret hx hb hr hlk hP hS h dX6_canAtOnce_57
      · rw [if_neg (not_not_intro q)] at h
        refine lv_aload_n hx hb dX6_canAtOnce_36 rfl (lv_at hl 0 rfl) ?_
        refine lv_iload_n hx hb dX6_canAtOnce_37 rfl (lv_at hl 1 rfl) ?_
        refine lv_iload_n hx hb dX6_canAtOnce_38 rfl (lv_at hl 3 rfl) ?_
        obtain ⟨v39, M39, h1, h⟩ := s_call_inv h
        refine me_callVi (As := [.int x1, .int x3]) (rest := []) ⟨hx, hb, hml, hown, hts⟩ (c_X6_debtsOf hT h1) (cwV 2 hts gX6_canAtOnce_X6_debtsOf rfl rfl rfl hd_X6_debtsOf ⟨(Nat.le_of_ble_eq_true rfl), (Nat.le_of_ble_eq_true rfl)⟩) hK hI hP hS hT.1 rfl rfl hl.1 rfl (Nat.le_of_ble_eq_true rfl) dX6_canAtOnce_39 ⟨Nat.zero_le _, Nat.zero_le _⟩ (fun H locs hP hS => ?_)
        refine lv_aload_n hx hb dX6_canAtOnce_42 rfl (lv_at hl 0 rfl) ?_
        refine lv_iload_n hx hb dX6_canAtOnce_43 rfl (lv_at hl 1 rfl) ?_
        refine lv_iload_n hx hb dX6_canAtOnce_44 rfl (lv_at hl 3 rfl) ?_
        refine lv_iload_n hx hb dX6_canAtOnce_45 rfl (lv_at hl 2 rfl) ?_
        obtain ⟨v46, M46, h1, h⟩ := s_call_inv h
        refine me_callVi (As := [.int x1, .int x3, .int x2]) (rest := [.int v39]) ⟨hx, hb, hml, hown, hts⟩ (c_X6_debt hT h1) (cwV 3 hts gX6_canAtOnce_X6_debt rfl rfl rfl hd_X6_debt ⟨(Nat.le_of_ble_eq_true rfl), (Nat.le_of_ble_eq_true rfl)⟩) hK hI hP hS hT.1 rfl rfl hl.1 rfl (Nat.le_of_ble_eq_true rfl) dX6_canAtOnce_46 ⟨Nat.zero_le _, Nat.zero_le _⟩ (fun H locs hP hS => ?_)
        refine lv_icmp_ne (tgt := 56) hx hb dX6_canAtOnce_49 (by decide) (fun q => ?_) (fun q => ?_)
        · rw [if_pos q] at h
          refine lv_iconst (v := (0 : Int32)) hx hb dX6_canAtOnce_56 (by decide) ?_
          exact me_zret hx hb hr hlk hP hS h dX6_canAtOnce_57
        · rw [if_neg (not_not_intro q)] at h
          refine lv_iconst (v := (1 : Int32)) hx hb dX6_canAtOnce_52 (by decide) ?_
          refine lv_goto (tgt := 57) hx hb dX6_canAtOnce_53 (by decide) ?_
          exact me_zret hx hb hr hlk hP hS h dX6_canAtOnce_57
theorem c_X6_canAtOnce {l : Launch} {D : va_G} {cI : ClassId} {ad : Nat → Nat} {L : List CDs} {t : Nat} (hT : is_X6 L t) {x1 : Int32} {x2 : Int32} {x3 : Int32} {M M' : Mem} {r : Int32} (h : X6_canAtOnce t x1 x2 x3 M = some (r, M')) : me_Met l yX6_canAtOnce wsX6_canAtOnce rmX6_canAtOnce D cI ad L [.ref (ad t), .int x1, .int x2, .int x3] (some (.int r)) M M' :=
  me_ofW (by decide) rfl (Nat.le_of_ble_eq_true rfl) (fun p e s m below meth c C0 => w_X6_canAtOnce C0 t hT x1 x2 x3 M h)
abbrev rmX6_canDo : Room := { frames := 4, cells := 0, slots := 0, locals := 92 }
theorem hd_X6_canDo : yX6_canDo.cls = RX6 ∧ yX6_canDo.cls ≠ "java/lang/invoke/MethodHandle" ∧ yX6_canDo.cls ≠ "java/lang/invoke/VarHandle" ∧ (parseMethodDescriptor yX6_canDo.desc).map (fun d => d.parameters.length) = some 4 := by decide +kernel
set_option maxRecDepth 100000 in
set_option maxHeartbeats 4000000 in
theorem w_X6_canDo {p : Program} {l : Launch} {e : Env} {s : State} {m : MethodId} {args : Array Value} {below : List Frame} {meth : Method} {c : Code} {D : va_G} {cI : ClassId} {ad : Nat → Nat} {L : List CDs} {r : Int32} {M' : Mem} (C0 : me_X p s m args meth c cX6_canDo 5 (some .boolean) wsX6_canDo RX6 D cI ad L) (t : Nat) (hT : is_X6 L t) (x1 : Int32) (x2 : Int32) (x3 : Int32) (x4 : Int32) : ∀  (M : Mem), X6_canDo t x1 x2 x3 x4 M = some (r, M') → me_W p l e rmX6_canDo s m args below meth c D cI ad L (some (.int r)) M' 5 0 [(0, .ref (ad t)), (1, .int x1), (2, .int x2), (3, .int x3), (4, .int x4)] [] M := by
  obtain ⟨hx, hb, hr, hml, hown, hts, hlk, hK, hI⟩ := id C0
  intro M h
  unfold X6_canDo at h
  intro H locs ls hP hS hl
  refine lv_iload_n hx hb dX6_canDo_0 rfl (lv_at hl 2 rfl) ?_
  by_cases q0 : x2 = (0 : Int32)
  · rw [if_pos q0] at h
    refine lv_tableIn (tgt := 36) (off := 35) hx hb dX6_canDo_1 (by rw [q0]; decide) (by rw [q0]; decide) (by rw [q0]; rfl) (by decide) ?_
    refine lv_aload_n hx hb dX6_canDo_36 rfl (lv_at hl 0 rfl) ?_
    refine lv_iload_n hx hb dX6_canDo_37 rfl (lv_at hl 1 rfl) ?_
    refine lv_iload_n hx hb dX6_canDo_38 rfl (lv_at hl 3 rfl) ?_
    obtain ⟨v39, M39, h1, h⟩ := s_call_inv h
    refine me_callVi (As := [.int x1, .int x3]) (rest := []) ⟨hx, hb, hml, hown, hts⟩ (c_X6_isAlive hT h1) (cwV 2 hts gX6_canDo_X6_isAlive rfl rfl rfl hd_X6_isAlive ⟨(Nat.le_of_ble_eq_true rfl), (Nat.le_of_ble_eq_true rfl)⟩) hK hI hP hS hT.1 rfl rfl hl.1 rfl (Nat.le_of_ble_eq_true rfl) dX6_canDo_39 ⟨Nat.zero_le _, Nat.zero_le _⟩ (fun H locs hP hS => ?_)
    refine lv_if_eq (tgt := 72) hx hb dX6_canDo_42 (by decide) (fun q => ?_) (fun q => ?_)
    · rw [if_pos q] at h
      refine lv_iconst (v := (0 : Int32)) hx hb dX6_canDo_72 (by decide) ?_
      exact me_zret hx hb hr hlk hP hS h dX6_canDo_73
    · rw [if_neg q] at h
      refine lv_aload_n hx hb dX6_canDo_45 rfl (lv_at hl 0 rfl) ?_
      refine lv_iload_n hx hb dX6_canDo_46 rfl (lv_at hl 1 rfl) ?_
      refine lv_iload hx hb dX6_canDo_47 (lv_at hl 4 rfl) ?_
      obtain ⟨v49, M49, h1, h⟩ := s_call_inv h
      refine me_callVi (As := [.int x1, .int x4]) (rest := []) ⟨hx, hb, hml, hown, hts⟩ (c_X6_isAlive hT h1) (cwV 2 hts gX6_canDo_X6_isAlive rfl rfl rfl hd_X6_isAlive ⟨(Nat.le_of_ble_eq_true rfl), (Nat.le_of_ble_eq_true rfl)⟩) hK hI hP hS hT.1 rfl rfl hl.1 rfl (Nat.le_of_ble_eq_true rfl) dX6_canDo_49 ⟨Nat.zero_le _, Nat.zero_le _⟩ (fun H locs hP hS => ?_)
      refine lv_if_eq (tgt := 72) hx hb dX6_canDo_52 (by decide) (fun q => ?_) (fun q => ?_)
      · rw [if_pos q] at h
        refine lv_iconst (v := (0 : Int32)) hx hb dX6_canDo_72 (by decide) ?_
        exact me_zret hx hb hr hlk hP hS h dX6_canDo_73
      · rw [if_neg q] at h
        refine lv_aload_n hx hb dX6_canDo_55 rfl (lv_at hl 0 rfl) ?_
        refine lv_iload_n hx hb dX6_canDo_56 rfl (lv_at hl 1 rfl) ?_
        refine lv_iload_n hx hb dX6_canDo_57 rfl (lv_at hl 3 rfl) ?_
        refine lv_iload hx hb dX6_canDo_58 (lv_at hl 4 rfl) ?_
        obtain ⟨v60, M60, h1, h⟩ := s_call_inv h
        refine me_callVi (As := [.int x1, .int x3, .int x4]) (rest := []) ⟨hx, hb, hml, hown, hts⟩ (c_X6_debt hT h1) (cwV 3 hts gX6_canDo_X6_debt rfl rfl rfl hd_X6_debt ⟨(Nat.le_of_ble_eq_true rfl), (Nat.le_of_ble_eq_true rfl)⟩) hK hI hP hS hT.1 rfl rfl hl.1 rfl (Nat.le_of_ble_eq_true rfl) dX6_canDo_60 ⟨Nat.zero_le _, Nat.zero_le _⟩ (fun H locs hP hS => ?_)
        refine lv_bipush (v := (9 : Int32)) hx hb dX6_canDo_63 (by decide) ?_
        refine lv_icmp_ge (tgt := 72) hx hb dX6_canDo_65 (by decide) (fun q => ?_) (fun q => ?_)
        · rw [if_pos q] at h
          refine lv_iconst (v := (0 : Int32)) hx hb dX6_canDo_72 (by decide) ?_
          exact me_zret hx hb hr hlk hP hS h dX6_canDo_73
        · rw [if_neg q] at h
          refine lv_iconst (v := (1 : Int32)) hx hb dX6_canDo_68 (by decide) ?_
          refine lv_goto (tgt := 73) hx hb dX6_canDo_69 (by decide) ?_
          exact me_zret hx hb hr hlk hP hS h dX6_canDo_73
  rw [if_neg q0] at h
  by_cases q1 : x2 = (1 : Int32)
  · rw [if_pos q1] at h
    refine lv_tableIn (tgt := 74) (off := 73) hx hb dX6_canDo_1 (by rw [q1]; decide) (by rw [q1]; decide) (by rw [q1]; rfl) (by decide) ?_
    refine lv_aload_n hx hb dX6_canDo_74 rfl (lv_at hl 0 rfl) ?_
    refine lv_iload_n hx hb dX6_canDo_75 rfl (lv_at hl 1 rfl) ?_
    refine lv_iload_n hx hb dX6_canDo_76 rfl (lv_at hl 3 rfl) ?_
    refine lv_iload hx hb dX6_canDo_77 (lv_at hl 4 rfl) ?_
    obtain ⟨v79, M79, h1, h⟩ := s_call_inv h
    refine me_callVi (As := [.int x1, .int x3, .int x4]) (rest := []) ⟨hx, hb, hml, hown, hts⟩ (c_X6_canBow hT h1) (cwV 3 hts gX6_canDo_X6_canBow rfl rfl rfl hd_X6_canBow ⟨(Nat.le_of_ble_eq_true rfl), (Nat.le_of_ble_eq_true rfl)⟩) hK hI hP hS hT.1 rfl rfl hl.1 rfl (Nat.le_of_ble_eq_true rfl) dX6_canDo_79 ⟨Nat.zero_le _, Nat.zero_le _⟩ (fun H locs hP hS => ?_)
    exact me_zret hx hb hr hlk hP hS h dX6_canDo_82
  rw [if_neg q1] at h
  by_cases q2 : x2 = (2 : Int32)
  · rw [if_pos q2] at h
    refine lv_tableIn (tgt := 83) (off := 82) hx hb dX6_canDo_1 (by rw [q2]; decide) (by rw [q2]; decide) (by rw [q2]; rfl) (by decide) ?_
    refine lv_aload_n hx hb dX6_canDo_83 rfl (lv_at hl 0 rfl) ?_
    refine lv_iload_n hx hb dX6_canDo_84 rfl (lv_at hl 1 rfl) ?_
    refine lv_iload_n hx hb dX6_canDo_85 rfl (lv_at hl 3 rfl) ?_
    refine lv_iload hx hb dX6_canDo_86 (lv_at hl 4 rfl) ?_
    obtain ⟨v88, M88, h1, h⟩ := s_call_inv h
    refine me_callVi (As := [.int x1, .int x3, .int x4]) (rest := []) ⟨hx, hb, hml, hown, hts⟩ (c_X6_canBow hT h1) (cwV 3 hts gX6_canDo_X6_canBow rfl rfl rfl hd_X6_canBow ⟨(Nat.le_of_ble_eq_true rfl), (Nat.le_of_ble_eq_true rfl)⟩) hK hI hP hS hT.1 rfl rfl hl.1 rfl (Nat.le_of_ble_eq_true rfl) dX6_canDo_88 ⟨Nat.zero_le _, Nat.zero_le _⟩ (fun H locs hP hS => ?_)
    refine lv_if_eq (tgt := 111) hx hb dX6_canDo_91 (by decide) (fun q => ?_) (fun q => ?_)
    · rw [if_pos q] at h
      refine lv_iconst (v := (0 : Int32)) hx hb dX6_canDo_111 (by decide) ?_
      exact me_zret hx hb hr hlk hP hS h dX6_canDo_112
    · rw [if_neg q] at h
      refine lv_aload_n hx hb dX6_canDo_94 rfl (lv_at hl 0 rfl) ?_
      refine lv_iload_n hx hb dX6_canDo_95 rfl (lv_at hl 1 rfl) ?_
      refine lv_iload_n hx hb dX6_canDo_96 rfl (lv_at hl 3 rfl) ?_
      refine lv_iload hx hb dX6_canDo_97 (lv_at hl 4 rfl) ?_
      obtain ⟨v99, M99, h1, h⟩ := s_call_inv h
      refine me_callVi (As := [.int x1, .int x3, .int x4]) (rest := []) ⟨hx, hb, hml, hown, hts⟩ (c_X6_debt hT h1) (cwV 3 hts gX6_canDo_X6_debt rfl rfl rfl hd_X6_debt ⟨(Nat.le_of_ble_eq_true rfl), (Nat.le_of_ble_eq_true rfl)⟩) hK hI hP hS hT.1 rfl rfl hl.1 rfl (Nat.le_of_ble_eq_true rfl) dX6_canDo_99 ⟨Nat.zero_le _, Nat.zero_le _⟩ (fun H locs hP hS => ?_)
      refine lv_bipush (v := (9 : Int32)) hx hb dX6_canDo_102 (by decide) ?_
      refine lv_icmp_ge (tgt := 111) hx hb dX6_canDo_104 (by decide) (fun q => ?_) (fun q => ?_)
      · rw [if_pos q] at h
        refine lv_iconst (v := (0 : Int32)) hx hb dX6_canDo_111 (by decide) ?_
        exact me_zret hx hb hr hlk hP hS h dX6_canDo_112
      · rw [if_neg q] at h
        refine lv_iconst (v := (1 : Int32)) hx hb dX6_canDo_107 (by decide) ?_
        refine lv_goto (tgt := 112) hx hb dX6_canDo_108 (by decide) ?_
        exact me_zret hx hb hr hlk hP hS h dX6_canDo_112
  rw [if_neg q2] at h
  by_cases q3 : x2 = (3 : Int32)
  · rw [if_pos q3] at h
    refine lv_tableIn (tgt := 113) (off := 112) hx hb dX6_canDo_1 (by rw [q3]; decide) (by rw [q3]; decide) (by rw [q3]; rfl) (by decide) ?_
    refine lv_aload_n hx hb dX6_canDo_113 rfl (lv_at hl 0 rfl) ?_
    refine lv_iload_n hx hb dX6_canDo_114 rfl (lv_at hl 1 rfl) ?_
    refine lv_iload_n hx hb dX6_canDo_115 rfl (lv_at hl 3 rfl) ?_
    refine lv_iload hx hb dX6_canDo_116 (lv_at hl 4 rfl) ?_
    obtain ⟨v118, M118, h1, h⟩ := s_call_inv h
    refine me_callVi (As := [.int x1, .int x3, .int x4]) (rest := []) ⟨hx, hb, hml, hown, hts⟩ (c_X6_canAtOnce hT h1) (cwV 3 hts gX6_canDo_X6_canAtOnce rfl rfl rfl hd_X6_canAtOnce ⟨(Nat.le_of_ble_eq_true rfl), (Nat.le_of_ble_eq_true rfl)⟩) hK hI hP hS hT.1 rfl rfl hl.1 rfl (Nat.le_of_ble_eq_true rfl) dX6_canDo_118 ⟨Nat.zero_le _, Nat.zero_le _⟩ (fun H locs hP hS => ?_)
    exact me_zret hx hb hr hlk hP hS h dX6_canDo_121
  rw [if_neg q3] at h
  by_cases q4 : x2 = (4 : Int32)
  · rw [if_pos q4] at h
    refine lv_tableIn (tgt := 122) (off := 121) hx hb dX6_canDo_1 (by rw [q4]; decide) (by rw [q4]; decide) (by rw [q4]; rfl) (by decide) ?_
    refine lv_aload_n hx hb dX6_canDo_122 rfl (lv_at hl 0 rfl) ?_
    refine lv_iload_n hx hb dX6_canDo_123 rfl (lv_at hl 1 rfl) ?_
    refine lv_iload_n hx hb dX6_canDo_124 rfl (lv_at hl 3 rfl) ?_
    obtain ⟨v125, M125, h1, h⟩ := s_call_inv h
    refine me_callVi (As := [.int x1, .int x3]) (rest := []) ⟨hx, hb, hml, hown, hts⟩ (c_X6_isAlive hT h1) (cwV 2 hts gX6_canDo_X6_isAlive rfl rfl rfl hd_X6_isAlive ⟨(Nat.le_of_ble_eq_true rfl), (Nat.le_of_ble_eq_true rfl)⟩) hK hI hP hS hT.1 rfl rfl hl.1 rfl (Nat.le_of_ble_eq_true rfl) dX6_canDo_125 ⟨Nat.zero_le _, Nat.zero_le _⟩ (fun H locs hP hS => ?_)
    exact me_zret hx hb hr hlk hP hS h dX6_canDo_128
  rw [if_neg q4] at h
  have e0 := lv_neT (a := 0) q0 (by decide)
  have e1 := lv_neT (a := 1) q1 (by decide)
  have e2 := lv_neT (a := 2) q2 (by decide)
  have e3 := lv_neT (a := 3) q3 (by decide)
  have e4 := lv_neT (a := 4) q4 (by decide)
  refine lv_tableOut (tgt := 129) hx hb dX6_canDo_1 (by omega) (by decide) ?_
  refine lv_iconst (v := (1 : Int32)) hx hb dX6_canDo_129 (by decide) ?_
  exact me_zret hx hb hr hlk hP hS h dX6_canDo_130
theorem c_X6_canDo {l : Launch} {D : va_G} {cI : ClassId} {ad : Nat → Nat} {L : List CDs} {t : Nat} (hT : is_X6 L t) {x1 : Int32} {x2 : Int32} {x3 : Int32} {x4 : Int32} {M M' : Mem} {r : Int32} (h : X6_canDo t x1 x2 x3 x4 M = some (r, M')) : me_Met l yX6_canDo wsX6_canDo rmX6_canDo D cI ad L [.ref (ad t), .int x1, .int x2, .int x3, .int x4] (some (.int r)) M M' :=
  me_ofW (by decide) rfl (Nat.le_of_ble_eq_true rfl) (fun p e s m below meth c C0 => w_X6_canDo C0 t hT x1 x2 x3 x4 M h)
abbrev rmX6_setDebt : Room := { frames := 0, cells := 0, slots := 0, locals := 0 }
theorem kX6_setDebt_f46 : (Cond.fieldLink RX6 46 "LadderOfBowsModel" "debts" "[I") ∈ wsX6_setDebt := List.mem_of_getElem? (i := 1) rfl
theorem in_X6_setDebt_X6 : ∀ w ∈ wsX60, w ∈ wsX6_setDebt := by decide +kernel
theorem hd_X6_setDebt : yX6_setDebt.cls = RX6 ∧ yX6_setDebt.cls ≠ "java/lang/invoke/MethodHandle" ∧ yX6_setDebt.cls ≠ "java/lang/invoke/VarHandle" ∧ (parseMethodDescriptor yX6_setDebt.desc).map (fun d => d.parameters.length) = some 4 := by decide +kernel
set_option maxRecDepth 100000 in
set_option maxHeartbeats 4000000 in
theorem w_X6_setDebt {p : Program} {l : Launch} {e : Env} {s : State} {m : MethodId} {args : Array Value} {below : List Frame} {meth : Method} {c : Code} {D : va_G} {cI : ClassId} {ad : Nat → Nat} {L : List CDs} {r : Unit} {M' : Mem} (C0 : me_X p s m args meth c cX6_setDebt 5 none wsX6_setDebt RX6 D cI ad L) (t : Nat) (hT : is_X6 L t) (x1 : Int32) (x2 : Int32) (x3 : Int32) (x4 : Int32) : ∀  (M : Mem), X6_setDebt t x1 x2 x3 x4 M = some (r, M') → me_W p l e rmX6_setDebt s m args below meth c D cI ad L none M' 5 0 [(0, .ref (ad t)), (1, .int x1), (2, .int x2), (3, .int x3), (4, .int x4)] [] M := by
  obtain ⟨hx, hb, hr, hml, hown, hts, hlk, hK, hI⟩ := id C0
  intro M h
  unfold X6_setDebt at h
  intro H locs ls hP hS hl
  refine lv_aload_n hx hb dX6_setDebt_0 rfl (lv_at hl 0 rfl) ?_
  refine me_getr (ci := 6) (C := RX6) (T := TX6) (N := 22) hx hb hts in_X6_setDebt_X6 hown hK hP hT.1 rfl 16 (by decide) (hts _ kX6_setDebt_f46) rfl dX6_setDebt_1 ?_
  refine lv_bipush (v := (64 : Int32)) hx hb dX6_setDebt_4 (by decide) ?_
  refine lv_iload_n hx hb dX6_setDebt_6 rfl (lv_at hl 1 rfl) ?_
  refine lv_imul hx hb dX6_setDebt_7 ?_
  refine lv_bipush (v := (8 : Int32)) hx hb dX6_setDebt_8 (by decide) ?_
  refine lv_iload_n hx hb dX6_setDebt_10 rfl (lv_at hl 2 rfl) ?_
  refine lv_imul hx hb dX6_setDebt_11 ?_
  refine lv_iadd hx hb dX6_setDebt_12 ?_
  refine lv_iload_n hx hb dX6_setDebt_13 rfl (lv_at hl 3 rfl) ?_
  refine lv_iadd hx hb dX6_setDebt_14 ?_
  refine lv_iload hx hb dX6_setDebt_15 (lv_at hl 4 rfl) ?_
  refine lv_bipush (v := (9 : Int32)) hx hb dX6_setDebt_17 (by decide) ?_
  refine lv_icmp_le (tgt := 27) hx hb dX6_setDebt_19 (by decide) (fun q => ?_) (fun q => ?_)
  · rw [if_pos q] at h
    refine lv_iload hx hb dX6_setDebt_27 (lv_at hl 4 rfl) ?_
    obtain ⟨hi, h⟩ := s_ast_inv h
    refine me_ast hx hb hK hI hP hS hT.2.2.2.2.2.2.2.2.2.2.2.2.2.1 hi dX6_setDebt_29 (fun H locs M29 eM hP hS => ?_)
    replace h := h M29 eM
    exact me_vret hx hb hr hlk hP hS h dX6_setDebt_30
  · rw [if_neg q] at h
    refine lv_bipush (v := (9 : Int32)) hx hb dX6_setDebt_22 (by decide) ?_
    refine lv_goto (tgt := 29) hx hb dX6_setDebt_24 (by decide) ?_
    obtain ⟨hi, h⟩ := s_ast_inv h
    refine me_ast hx hb hK hI hP hS hT.2.2.2.2.2.2.2.2.2.2.2.2.2.1 hi dX6_setDebt_29 (fun H locs M29 eM hP hS => ?_)
    replace h := h M29 eM
    exact me_vret hx hb hr hlk hP hS h dX6_setDebt_30
theorem c_X6_setDebt {l : Launch} {D : va_G} {cI : ClassId} {ad : Nat → Nat} {L : List CDs} {t : Nat} (hT : is_X6 L t) {x1 : Int32} {x2 : Int32} {x3 : Int32} {x4 : Int32} {M M' : Mem} {r : Unit} (h : X6_setDebt t x1 x2 x3 x4 M = some (r, M')) : me_Met l yX6_setDebt wsX6_setDebt rmX6_setDebt D cI ad L [.ref (ad t), .int x1, .int x2, .int x3, .int x4] none M M' :=
  me_ofW (by decide) rfl (Nat.le_of_ble_eq_true rfl) (fun p e s m below meth c C0 => w_X6_setDebt C0 t hT x1 x2 x3 x4 M h)
abbrev rmX6_pays : Room := { frames := 1, cells := 0, slots := 0, locals := 23 }
theorem kX6_pays_f16 : (Cond.fieldLink RX6 16 "LadderOfBowsModel" "kinds" "[I") ∈ wsX6_pays := List.mem_of_getElem? (i := 1) rfl
theorem kX6_pays_f52 : (Cond.fieldLink RX6 52 "LadderOfBowsModel" "day" "[I") ∈ wsX6_pays := List.mem_of_getElem? (i := 2) rfl
theorem in_X6_pays_X6 : ∀ w ∈ wsX60, w ∈ wsX6_pays := by decide +kernel
theorem hd_X6_pays : yX6_pays.cls = RX6 ∧ yX6_pays.cls ≠ "java/lang/invoke/MethodHandle" ∧ yX6_pays.cls ≠ "java/lang/invoke/VarHandle" ∧ (parseMethodDescriptor yX6_pays.desc).map (fun d => d.parameters.length) = some 3 := by decide +kernel
set_option maxRecDepth 100000 in
set_option maxHeartbeats 4000000 in
theorem w_X6_pays {p : Program} {l : Launch} {e : Env} {s : State} {m : MethodId} {args : Array Value} {below : List Frame} {meth : Method} {c : Code} {D : va_G} {cI : ClassId} {ad : Nat → Nat} {L : List CDs} {r : Int32} {M' : Mem} (C0 : me_X p s m args meth c cX6_pays 4 (some .int) wsX6_pays RX6 D cI ad L) (t : Nat) (hT : is_X6 L t) (x1 : Int32) (x2 : Int32) (x3 : Int32) : ∀  (M : Mem), X6_pays t x1 x2 x3 M = some (r, M') → me_W p l e rmX6_pays s m args below meth c D cI ad L (some (.int r)) M' 4 0 [(0, .ref (ad t)), (1, .int x1), (2, .int x2), (3, .int x3)] [] M := by
  obtain ⟨hx, hb, hr, hml, hown, hts, hlk, hK, hI⟩ := id C0
  intro M h
  unfold X6_pays at h
  intro H locs ls hP hS hl
  refine lv_aload_n hx hb dX6_pays_0 rfl (lv_at hl 0 rfl) ?_
  refine me_getr (ci := 6) (C := RX6) (T := TX6) (N := 22) hx hb hts in_X6_pays_X6 hown hK hP hT.1 rfl 3 (by decide) (hts _ kX6_pays_f16) rfl dX6_pays_1 ?_
  refine lv_iload_n hx hb dX6_pays_4 rfl (lv_at hl 2 rfl) ?_
  obtain ⟨hi, h⟩ := s_ald_inv h
  refine me_ald hx hb hK hP hT.2.2.2.1 hi dX6_pays_5 (fun v5 ev => ?_)
  replace h := h v5 ev
  refine lv_iconst (v := (2 : Int32)) hx hb dX6_pays_6 (by decide) ?_
  refine lv_icmp_ne (tgt := 20) hx hb dX6_pays_7 (by decide) (fun q => ?_) (fun q => ?_)
  · rw [if_pos q] at h
    refine lv_aload_n hx hb dX6_pays_20 rfl (lv_at hl 0 rfl) ?_
    refine me_getr (ci := 6) (C := RX6) (T := TX6) (N := 22) hx hb hts in_X6_pays_X6 hown hK hP hT.1 rfl 3 (by decide) (hts _ kX6_pays_f16) rfl dX6_pays_21 ?_
    refine lv_iload_n hx hb dX6_pays_24 rfl (lv_at hl 2 rfl) ?_
    obtain ⟨hi, h⟩ := s_ald_inv h
    refine me_ald hx hb hK hP hT.2.2.2.1 hi dX6_pays_25 (fun v25 ev => ?_)
    replace h := h v25 ev
    refine lv_iconst (v := (3 : Int32)) hx hb dX6_pays_26 (by decide) ?_
    refine lv_icmp_ne (tgt := 46) hx hb dX6_pays_27 (by decide) (fun q => ?_) (fun q => ?_)
    · rw [if_pos q] at h
      refine lv_iconst (v := (1 : Int32)) hx hb dX6_pays_46 (by decide) ?_
      exact me_iret hx hb hr hlk hP hS h dX6_pays_47
    · rw [if_neg (not_not_intro q)] at h
      refine lv_aload_n hx hb dX6_pays_30 rfl (lv_at hl 0 rfl) ?_
      refine me_getr (ci := 6) (C := RX6) (T := TX6) (N := 22) hx hb hts in_X6_pays_X6 hown hK hP hT.1 rfl 18 (by decide) (hts _ kX6_pays_f52) rfl dX6_pays_31 ?_
      refine lv_iload_n hx hb dX6_pays_34 rfl (lv_at hl 1 rfl) ?_
      obtain ⟨hi, h⟩ := s_ald_inv h
      refine me_ald hx hb hK hP hT.2.2.2.2.2.2.2.2.2.2.2.2.2.2.2.1 hi dX6_pays_35 (fun v35 ev => ?_)
      replace h := h v35 ev
      refine lv_iconst (v := (2 : Int32)) hx hb dX6_pays_36 (by decide) ?_
      obtain ⟨hi, h⟩ := s_rem_inv h
      refine lv_irem hx hb dX6_pays_37 hi ?_
      refine lv_topi (fun v37 ev => ?_)
      replace h := h v37 ev
      refine lv_iconst (v := (1 : Int32)) hx hb dX6_pays_38 (by decide) ?_
      refine lv_icmp_ne (tgt := 46) hx hb dX6_pays_39 (by decide) (fun q => ?_) (fun q => ?_)
      · rw [if_pos q] at h
        refine lv_iconst (v := (1 : Int32)) hx hb dX6_pays_46 (by decide) ?_
        exact me_iret hx hb hr hlk hP hS h dX6_pays_47
      · rw [if_neg (not_not_intro q)] at h
        refine lv_iconst (v := (0 : Int32)) hx hb dX6_pays_42 (by decide) ?_
        refine lv_goto (tgt := 47) hx hb dX6_pays_43 (by decide) ?_
        exact me_iret hx hb hr hlk hP hS h dX6_pays_47
  · rw [if_neg (not_not_intro q)] at h
    refine lv_aload_n hx hb dX6_pays_10 rfl (lv_at hl 0 rfl) ?_
    refine lv_iload_n hx hb dX6_pays_11 rfl (lv_at hl 1 rfl) ?_
    refine lv_iload_n hx hb dX6_pays_12 rfl (lv_at hl 2 rfl) ?_
    refine lv_iload_n hx hb dX6_pays_13 rfl (lv_at hl 3 rfl) ?_
    obtain ⟨v14, M14, h1, h⟩ := s_call_inv h
    refine me_callVi (As := [.int x1, .int x2, .int x3]) (rest := []) ⟨hx, hb, hml, hown, hts⟩ (c_X6_debt hT h1) (cwV 3 hts gX6_pays_X6_debt rfl rfl rfl hd_X6_debt ⟨(Nat.le_of_ble_eq_true rfl), (Nat.le_of_ble_eq_true rfl)⟩) hK hI hP hS hT.1 rfl rfl hl.1 rfl (Nat.le_of_ble_eq_true rfl) dX6_pays_14 ⟨Nat.zero_le _, Nat.zero_le _⟩ (fun H locs hP hS => ?_)
    refine lv_goto (tgt := 47) hx hb dX6_pays_17 (by decide) ?_
    exact me_iret hx hb hr hlk hP hS h dX6_pays_47
theorem c_X6_pays {l : Launch} {D : va_G} {cI : ClassId} {ad : Nat → Nat} {L : List CDs} {t : Nat} (hT : is_X6 L t) {x1 : Int32} {x2 : Int32} {x3 : Int32} {M M' : Mem} {r : Int32} (h : X6_pays t x1 x2 x3 M = some (r, M')) : me_Met l yX6_pays wsX6_pays rmX6_pays D cI ad L [.ref (ad t), .int x1, .int x2, .int x3] (some (.int r)) M M' :=
  me_ofW (by decide) rfl (Nat.le_of_ble_eq_true rfl) (fun p e s m below meth c C0 => w_X6_pays C0 t hT x1 x2 x3 M h)
abbrev rmX6_bothBow : Room := { frames := 2, cells := 0, slots := 0, locals := 46 }
theorem hd_X6_bothBow : yX6_bothBow.cls = RX6 ∧ yX6_bothBow.cls ≠ "java/lang/invoke/MethodHandle" ∧ yX6_bothBow.cls ≠ "java/lang/invoke/VarHandle" ∧ (parseMethodDescriptor yX6_bothBow.desc).map (fun d => d.parameters.length) = some 3 := by decide +kernel
set_option maxRecDepth 100000 in
set_option maxHeartbeats 4000000 in
theorem w_X6_bothBow {p : Program} {l : Launch} {e : Env} {s : State} {m : MethodId} {args : Array Value} {below : List Frame} {meth : Method} {c : Code} {D : va_G} {cI : ClassId} {ad : Nat → Nat} {L : List CDs} {r : Unit} {M' : Mem} (C0 : me_X p s m args meth c cX6_bothBow 6 none wsX6_bothBow RX6 D cI ad L) (t : Nat) (hT : is_X6 L t) (x1 : Int32) (x2 : Int32) (x3 : Int32) : ∀  (M : Mem), X6_bothBow t x1 x2 x3 M = some (r, M') → me_W p l e rmX6_bothBow s m args below meth c D cI ad L none M' 6 0 [(0, .ref (ad t)), (1, .int x1), (2, .int x2), (3, .int x3)] [] M := by
  obtain ⟨hx, hb, hr, hml, hown, hts, hlk, hK, hI⟩ := id C0
  intro M h
  unfold X6_bothBow at h
  intro H locs ls hP hS hl
  refine lv_aload_n hx hb dX6_bothBow_0 rfl (lv_at hl 0 rfl) ?_
  refine lv_iload_n hx hb dX6_bothBow_1 rfl (lv_at hl 1 rfl) ?_
  refine lv_iload_n hx hb dX6_bothBow_2 rfl (lv_at hl 2 rfl) ?_
  refine lv_iload_n hx hb dX6_bothBow_3 rfl (lv_at hl 3 rfl) ?_
  obtain ⟨v4, M4, h1, h⟩ := s_call_inv h
  refine me_callVi (As := [.int x1, .int x2, .int x3]) (rest := []) ⟨hx, hb, hml, hown, hts⟩ (c_X6_pays hT h1) (cwV 3 hts gX6_bothBow_X6_pays rfl rfl rfl hd_X6_pays ⟨(Nat.le_of_ble_eq_true rfl), (Nat.le_of_ble_eq_true rfl)⟩) hK hI hP hS hT.1 rfl rfl hl.1 rfl (Nat.le_of_ble_eq_true rfl) dX6_bothBow_4 ⟨Nat.zero_le _, Nat.zero_le _⟩ (fun H locs hP hS => ?_)
  refine lv_istore (lv' := [(4, .int v4), (0, .ref (ad t)), (1, .int x1), (2, .int x2), (3, .int x3)]) hx hb dX6_bothBow_7 hl (by decide) rfl (fun ls hl => ?_)
  refine lv_aload_n hx hb dX6_bothBow_9 rfl (lv_at hl 1 rfl) ?_
  refine lv_iload_n hx hb dX6_bothBow_10 rfl (lv_at hl 2 rfl) ?_
  refine lv_iload_n hx hb dX6_bothBow_11 rfl (lv_at hl 4 rfl) ?_
  refine lv_iload_n hx hb dX6_bothBow_12 rfl (lv_at hl 3 rfl) ?_
  obtain ⟨v13, M13, h1, h⟩ := s_call_inv h
  refine me_callVi (As := [.int x1, .int x3, .int x2]) (rest := []) ⟨hx, hb, hml, hown, hts⟩ (c_X6_pays hT h1) (cwV 3 hts gX6_bothBow_X6_pays rfl rfl rfl hd_X6_pays ⟨(Nat.le_of_ble_eq_true rfl), (Nat.le_of_ble_eq_true rfl)⟩) hK hI hP hS hT.1 rfl rfl hl.1 rfl (Nat.le_of_ble_eq_true rfl) dX6_bothBow_13 ⟨Nat.zero_le _, Nat.zero_le _⟩ (fun H locs hP hS => ?_)
  refine lv_istore (lv' := [(5, .int v13), (4, .int v4), (0, .ref (ad t)), (1, .int x1), (2, .int x2), (3, .int x3)]) hx hb dX6_bothBow_16 hl (by decide) rfl (fun ls hl => ?_)
  refine lv_aload_n hx hb dX6_bothBow_18 rfl (lv_at hl 2 rfl) ?_
  refine lv_iload_n hx hb dX6_bothBow_19 rfl (lv_at hl 3 rfl) ?_
  refine lv_iload_n hx hb dX6_bothBow_20 rfl (lv_at hl 4 rfl) ?_
  refine lv_iload_n hx hb dX6_bothBow_21 rfl (lv_at hl 5 rfl) ?_
  refine lv_aload_n hx hb dX6_bothBow_22 rfl (lv_at hl 2 rfl) ?_
  refine lv_iload_n hx hb dX6_bothBow_23 rfl (lv_at hl 3 rfl) ?_
  refine lv_iload_n hx hb dX6_bothBow_24 rfl (lv_at hl 4 rfl) ?_
  refine lv_iload_n hx hb dX6_bothBow_25 rfl (lv_at hl 5 rfl) ?_
  obtain ⟨v26, M26, h1, h⟩ := s_call_inv h
  refine me_callVi (As := [.int x1, .int x2, .int x3]) (rest := [.int x3, .int x2, .int x1, .ref (ad t)]) ⟨hx, hb, hml, hown, hts⟩ (c_X6_debt hT h1) (cwV 3 hts gX6_bothBow_X6_debt rfl rfl rfl hd_X6_debt ⟨(Nat.le_of_ble_eq_true rfl), (Nat.le_of_ble_eq_true rfl)⟩) hK hI hP hS hT.1 rfl rfl hl.1 rfl (Nat.le_of_ble_eq_true rfl) dX6_bothBow_26 ⟨Nat.zero_le _, Nat.zero_le _⟩ (fun H locs hP hS => ?_)
  refine lv_iload hx hb dX6_bothBow_29 (lv_at hl 1 rfl) ?_
  refine lv_isub hx hb dX6_bothBow_31 ?_
  obtain ⟨u32, M32, h1, h⟩ := s_call_inv h
  refine me_callVv (As := [.int x1, .int x2, .int x3, .int (v26 - v4)]) (rest := []) ⟨hx, hb, hml, hown, hts⟩ (c_X6_setDebt hT h1) (cwV 4 hts gX6_bothBow_X6_setDebt rfl rfl rfl hd_X6_setDebt ⟨(Nat.le_of_ble_eq_true rfl), (Nat.le_of_ble_eq_true rfl)⟩) hK hI hP hS hT.1 rfl rfl hl.1 rfl (Nat.le_of_ble_eq_true rfl) dX6_bothBow_32 ⟨Nat.zero_le _, Nat.zero_le _⟩ (fun H locs hP hS => ?_)
  refine lv_aload_n hx hb dX6_bothBow_35 rfl (lv_at hl 2 rfl) ?_
  refine lv_iload_n hx hb dX6_bothBow_36 rfl (lv_at hl 3 rfl) ?_
  refine lv_iload_n hx hb dX6_bothBow_37 rfl (lv_at hl 5 rfl) ?_
  refine lv_iload_n hx hb dX6_bothBow_38 rfl (lv_at hl 4 rfl) ?_
  refine lv_aload_n hx hb dX6_bothBow_39 rfl (lv_at hl 2 rfl) ?_
  refine lv_iload_n hx hb dX6_bothBow_40 rfl (lv_at hl 3 rfl) ?_
  refine lv_iload_n hx hb dX6_bothBow_41 rfl (lv_at hl 5 rfl) ?_
  refine lv_iload_n hx hb dX6_bothBow_42 rfl (lv_at hl 4 rfl) ?_
  obtain ⟨v43, M43, h1, h⟩ := s_call_inv h
  refine me_callVi (As := [.int x1, .int x3, .int x2]) (rest := [.int x2, .int x3, .int x1, .ref (ad t)]) ⟨hx, hb, hml, hown, hts⟩ (c_X6_debt hT h1) (cwV 3 hts gX6_bothBow_X6_debt rfl rfl rfl hd_X6_debt ⟨(Nat.le_of_ble_eq_true rfl), (Nat.le_of_ble_eq_true rfl)⟩) hK hI hP hS hT.1 rfl rfl hl.1 rfl (Nat.le_of_ble_eq_true rfl) dX6_bothBow_43 ⟨Nat.zero_le _, Nat.zero_le _⟩ (fun H locs hP hS => ?_)
  refine lv_iload hx hb dX6_bothBow_46 (lv_at hl 0 rfl) ?_
  refine lv_isub hx hb dX6_bothBow_48 ?_
  obtain ⟨u49, M49, h1, h⟩ := s_call_inv h
  refine me_callVv (As := [.int x1, .int x3, .int x2, .int (v43 - v13)]) (rest := []) ⟨hx, hb, hml, hown, hts⟩ (c_X6_setDebt hT h1) (cwV 4 hts gX6_bothBow_X6_setDebt rfl rfl rfl hd_X6_setDebt ⟨(Nat.le_of_ble_eq_true rfl), (Nat.le_of_ble_eq_true rfl)⟩) hK hI hP hS hT.1 rfl rfl hl.1 rfl (Nat.le_of_ble_eq_true rfl) dX6_bothBow_49 ⟨Nat.zero_le _, Nat.zero_le _⟩ (fun H locs hP hS => ?_)
  exact me_vret hx hb hr hlk hP hS h dX6_bothBow_52
theorem c_X6_bothBow {l : Launch} {D : va_G} {cI : ClassId} {ad : Nat → Nat} {L : List CDs} {t : Nat} (hT : is_X6 L t) {x1 : Int32} {x2 : Int32} {x3 : Int32} {M M' : Mem} {r : Unit} (h : X6_bothBow t x1 x2 x3 M = some (r, M')) : me_Met l yX6_bothBow wsX6_bothBow rmX6_bothBow D cI ad L [.ref (ad t), .int x1, .int x2, .int x3] none M M' :=
  me_ofW (by decide) rfl (Nat.le_of_ble_eq_true rfl) (fun p e s m below meth c C0 => w_X6_bothBow C0 t hT x1 x2 x3 M h)
abbrev rmX6_dies : Room := { frames := 1, cells := 0, slots := 0, locals := 24 }
theorem kX6_dies_f49 : (Cond.fieldLink RX6 49 "LadderOfBowsModel" "alive" "[I") ∈ wsX6_dies := List.mem_of_getElem? (i := 1) rfl
theorem in_X6_dies_X6 : ∀ w ∈ wsX60, w ∈ wsX6_dies := by decide +kernel
theorem hd_X6_dies : yX6_dies.cls = RX6 ∧ yX6_dies.cls ≠ "java/lang/invoke/MethodHandle" ∧ yX6_dies.cls ≠ "java/lang/invoke/VarHandle" ∧ (parseMethodDescriptor yX6_dies.desc).map (fun d => d.parameters.length) = some 2 := by decide +kernel
set_option maxRecDepth 100000 in
set_option maxHeartbeats 4000000 in
theorem w_X6_dies_16 {p : Program} {l : Launch} {e : Env} {s : State} {m : MethodId} {args : Array Value} {below : List Frame} {meth : Method} {c : Code} {D : va_G} {cI : ClassId} {ad : Nat → Nat} {L : List CDs} {r : Unit} {M' : Mem} (C0 : me_X p s m args meth c cX6_dies 4 none wsX6_dies RX6 D cI ad L) (t : Nat) (hT : is_X6 L t) (x1 : Int32) (x2 : Int32) : ∀ (n : Nat) (x3 : Int32) (M : Mem), X6_dies_16 t x1 x2 n x3 M = some (r, M') → me_W p l e rmX6_dies s m args below meth c D cI ad L none M' 4 16 [(0, .ref (ad t)), (1, .int x1), (2, .int x2), (3, .int x3)] [] M := by
  obtain ⟨hx, hb, hr, hml, hown, hts, hlk, hK, hI⟩ := id C0
  intro n
  induction n with
  | zero =>
    intro x3 M h
    rw [X6_dies_16] at h
    cases h
  | succ n ih =>
    intro x3 M h
    rw [X6_dies_16] at h
    intro H locs ls hP hS hl
    refine lv_iload_n hx hb dX6_dies_16 rfl (lv_at hl 3 rfl) ?_
    refine lv_bipush (v := (8 : Int32)) hx hb dX6_dies_17 (by decide) ?_
    refine lv_icmp_ge (tgt := 44) hx hb dX6_dies_19 (by decide) (fun q => ?_) (fun q => ?_)
    · rw [if_pos q] at h
      exact me_vret hx hb hr hlk hP hS h dX6_dies_44
    · rw [if_neg q] at h
      refine lv_aload_n hx hb dX6_dies_22 rfl (lv_at hl 0 rfl) ?_
      refine lv_iload_n hx hb dX6_dies_23 rfl (lv_at hl 1 rfl) ?_
      refine lv_iload_n hx hb dX6_dies_24 rfl (lv_at hl 2 rfl) ?_
      refine lv_iload_n hx hb dX6_dies_25 rfl (lv_at hl 3 rfl) ?_
      refine lv_iconst (v := (0 : Int32)) hx hb dX6_dies_26 (by decide) ?_
      obtain ⟨u27, M27, h1, h⟩ := s_call_inv h
      refine me_callVv (As := [.int x1, .int x2, .int x3, .int (0 : Int32)]) (rest := []) ⟨hx, hb, hml, hown, hts⟩ (c_X6_setDebt hT h1) (cwV 4 hts gX6_dies_X6_setDebt rfl rfl rfl hd_X6_setDebt ⟨(Nat.le_of_ble_eq_true rfl), (Nat.le_of_ble_eq_true rfl)⟩) hK hI hP hS hT.1 rfl rfl hl.1 rfl (Nat.le_of_ble_eq_true rfl) dX6_dies_27 ⟨Nat.zero_le _, Nat.zero_le _⟩ (fun H locs hP hS => ?_)
      refine lv_aload_n hx hb dX6_dies_30 rfl (lv_at hl 0 rfl) ?_
      refine lv_iload_n hx hb dX6_dies_31 rfl (lv_at hl 1 rfl) ?_
      refine lv_iload_n hx hb dX6_dies_32 rfl (lv_at hl 3 rfl) ?_
      refine lv_iload_n hx hb dX6_dies_33 rfl (lv_at hl 2 rfl) ?_
      refine lv_iconst (v := (0 : Int32)) hx hb dX6_dies_34 (by decide) ?_
      obtain ⟨u35, M35, h1, h⟩ := s_call_inv h
      refine me_callVv (As := [.int x1, .int x3, .int x2, .int (0 : Int32)]) (rest := []) ⟨hx, hb, hml, hown, hts⟩ (c_X6_setDebt hT h1) (cwV 4 hts gX6_dies_X6_setDebt rfl rfl rfl hd_X6_setDebt ⟨(Nat.le_of_ble_eq_true rfl), (Nat.le_of_ble_eq_true rfl)⟩) hK hI hP hS hT.1 rfl rfl hl.1 rfl (Nat.le_of_ble_eq_true rfl) dX6_dies_35 ⟨Nat.zero_le _, Nat.zero_le _⟩ (fun H locs hP hS => ?_)
      refine lv_iinc (k := 3) (v := (x3 + (1 : Int32))) (lv' := [(3, .int (x3 + (1 : Int32))), (0, .ref (ad t)), (1, .int x1), (2, .int x2)]) hx hb dX6_dies_38 hl rfl rfl (by decide) rfl (fun ls hl => ?_)
      refine lv_goto (tgt := 16) hx hb dX6_dies_41 (by decide) ?_
      exact ih (x3 + (1 : Int32)) M35 h H locs ls hP hS (lv_sub hl [1, 2, 3, 0] rfl)
set_option maxRecDepth 100000 in
set_option maxHeartbeats 4000000 in
theorem w_X6_dies {p : Program} {l : Launch} {e : Env} {s : State} {m : MethodId} {args : Array Value} {below : List Frame} {meth : Method} {c : Code} {D : va_G} {cI : ClassId} {ad : Nat → Nat} {L : List CDs} {r : Unit} {M' : Mem} (C0 : me_X p s m args meth c cX6_dies 4 none wsX6_dies RX6 D cI ad L) (t : Nat) (hT : is_X6 L t) (x1 : Int32) (x2 : Int32) : ∀  (M : Mem), X6_dies t x1 x2 M = some (r, M') → me_W p l e rmX6_dies s m args below meth c D cI ad L none M' 4 0 [(0, .ref (ad t)), (1, .int x1), (2, .int x2)] [] M := by
  obtain ⟨hx, hb, hr, hml, hown, hts, hlk, hK, hI⟩ := id C0
  intro M h
  unfold X6_dies at h
  intro H locs ls hP hS hl
  refine lv_aload_n hx hb dX6_dies_0 rfl (lv_at hl 0 rfl) ?_
  refine me_getr (ci := 6) (C := RX6) (T := TX6) (N := 22) hx hb hts in_X6_dies_X6 hown hK hP hT.1 rfl 17 (by decide) (hts _ kX6_dies_f49) rfl dX6_dies_1 ?_
  refine lv_iload_n hx hb dX6_dies_4 rfl (lv_at hl 1 rfl) ?_
  refine lv_dup2_11 hx hb dX6_dies_5 rfl rfl ?_
  obtain ⟨hi, h⟩ := s_ald_inv h
  refine me_ald hx hb hK hP hT.2.2.2.2.2.2.2.2.2.2.2.2.2.2.1 hi dX6_dies_6 (fun v6 ev => ?_)
  replace h := h v6 ev
  refine lv_iconst (v := (1 : Int32)) hx hb dX6_dies_7 (by decide) ?_
  refine lv_iload_n hx hb dX6_dies_8 rfl (lv_at hl 2 rfl) ?_
  refine lv_ishl hx hb dX6_dies_9 ?_
  refine lv_iconst (v := (-1 : Int32)) hx hb dX6_dies_10 (by decide) ?_
  refine lv_ixor hx hb dX6_dies_11 ?_
  refine lv_iand hx hb dX6_dies_12 ?_
  obtain ⟨hi, h⟩ := s_ast_inv h
  refine me_ast hx hb hK hI hP hS hT.2.2.2.2.2.2.2.2.2.2.2.2.2.2.1 hi dX6_dies_13 (fun H locs M13 eM hP hS => ?_)
  replace h := h M13 eM
  refine lv_iconst (v := (0 : Int32)) hx hb dX6_dies_14 (by decide) ?_
  refine lv_istore_n (lv' := [(3, .int (0 : Int32)), (0, .ref (ad t)), (1, .int x1), (2, .int x2)]) hx hb dX6_dies_15 rfl hl (by decide) rfl (fun ls hl => ?_)
  exact w_X6_dies_16 C0 t hT x1 x2 FU (0 : Int32) M13 h H locs ls hP hS (lv_sub hl [1, 2, 3, 0] rfl)
theorem c_X6_dies {l : Launch} {D : va_G} {cI : ClassId} {ad : Nat → Nat} {L : List CDs} {t : Nat} (hT : is_X6 L t) {x1 : Int32} {x2 : Int32} {M M' : Mem} {r : Unit} (h : X6_dies t x1 x2 M = some (r, M')) : me_Met l yX6_dies wsX6_dies rmX6_dies D cI ad L [.ref (ad t), .int x1, .int x2] none M M' :=
  me_ofW (by decide) rfl (Nat.le_of_ble_eq_true rfl) (fun p e s m below meth c C0 => w_X6_dies C0 t hT x1 x2 M h)
abbrev rmX6_goDay : Room := { frames := 2, cells := 0, slots := 0, locals := 43 }
theorem kX6_goDay_f52 : (Cond.fieldLink RX6 52 "LadderOfBowsModel" "day" "[I") ∈ wsX6_goDay := List.mem_of_getElem? (i := 1) rfl
theorem kX6_goDay_f55 : (Cond.fieldLink RX6 55 "LadderOfBowsModel" "many" "[I") ∈ wsX6_goDay := List.mem_of_getElem? (i := 2) rfl
theorem kX6_goDay_f16 : (Cond.fieldLink RX6 16 "LadderOfBowsModel" "kinds" "[I") ∈ wsX6_goDay := List.mem_of_getElem? (i := 3) rfl
theorem in_X6_goDay_X6 : ∀ w ∈ wsX60, w ∈ wsX6_goDay := by decide +kernel
theorem hd_X6_goDay : yX6_goDay.cls = RX6 ∧ yX6_goDay.cls ≠ "java/lang/invoke/MethodHandle" ∧ yX6_goDay.cls ≠ "java/lang/invoke/VarHandle" ∧ (parseMethodDescriptor yX6_goDay.desc).map (fun d => d.parameters.length) = some 1 := by decide +kernel
set_option maxRecDepth 100000 in
set_option maxHeartbeats 4000000 in
theorem w_X6_goDay_36 {p : Program} {l : Launch} {e : Env} {s : State} {m : MethodId} {args : Array Value} {below : List Frame} {meth : Method} {c : Code} {D : va_G} {cI : ClassId} {ad : Nat → Nat} {L : List CDs} {r : Unit} {M' : Mem} (C0 : me_X p s m args meth c cX6_goDay 4 none wsX6_goDay RX6 D cI ad L) (t : Nat) (hT : is_X6 L t) (x1 : Int32) (x2 : Int32) (k12 : Int32 → Mem → Option (Unit × Mem)) (hk12 : ∀ (x2 : Int32) (M : Mem), k12 x2 M = some (r, M') → me_W p l e rmX6_goDay s m args below meth c D cI ad L none M' 4 12 [(0, .ref (ad t)), (1, .int x1), (2, .int x2)] [] M) : ∀ (n : Nat) (x3 : Int32) (M : Mem), X6_goDay_36 t x1 x2 k12 n x3 M = some (r, M') → me_W p l e rmX6_goDay s m args below meth c D cI ad L none M' 4 36 [(0, .ref (ad t)), (1, .int x1), (2, .int x2), (3, .int x3)] [] M := by
  obtain ⟨hx, hb, hr, hml, hown, hts, hlk, hK, hI⟩ := id C0
  intro n
  induction n with
  | zero =>
    intro x3 M h
    rw [X6_goDay_36] at h
    cases h
  | succ n ih =>
    intro x3 M h
    rw [X6_goDay_36] at h
    intro H locs ls hP hS hl
    refine lv_iload_n hx hb dX6_goDay_36 rfl (lv_at hl 3 rfl) ?_
    refine lv_aload_n hx hb dX6_goDay_37 rfl (lv_at hl 0 rfl) ?_
    refine me_getr (ci := 6) (C := RX6) (T := TX6) (N := 22) hx hb hts in_X6_goDay_X6 hown hK hP hT.1 rfl 19 (by decide) (hts _ kX6_goDay_f55) rfl dX6_goDay_38 ?_
    refine lv_iload_n hx hb dX6_goDay_41 rfl (lv_at hl 1 rfl) ?_
    obtain ⟨hi, h⟩ := s_ald_inv h
    refine me_ald hx hb hK hP hT.2.2.2.2.2.2.2.2.2.2.2.2.2.2.2.2.1 hi dX6_goDay_42 (fun v42 ev => ?_)
    replace h := h v42 ev
    refine lv_icmp_ge (tgt := 101) hx hb dX6_goDay_43 (by decide) (fun q => ?_) (fun q => ?_)
    · rw [if_pos q] at h
      refine lv_iinc (k := 2) (v := (x2 + (1 : Int32))) (lv' := [(2, .int (x2 + (1 : Int32))), (0, .ref (ad t)), (1, .int x1), (3, .int x3)]) hx hb dX6_goDay_101 hl rfl rfl (by decide) rfl (fun ls hl => ?_)
      refine lv_goto (tgt := 12) hx hb dX6_goDay_104 (by decide) ?_
      exact hk12 (x2 + (1 : Int32)) M h H locs ls hP hS (lv_sub hl [1, 2, 0] rfl)
    · rw [if_neg q] at h
      refine lv_aload_n hx hb dX6_goDay_46 rfl (lv_at hl 0 rfl) ?_
      refine me_getr (ci := 6) (C := RX6) (T := TX6) (N := 22) hx hb hts in_X6_goDay_X6 hown hK hP hT.1 rfl 3 (by decide) (hts _ kX6_goDay_f16) rfl dX6_goDay_47 ?_
      refine lv_iload_n hx hb dX6_goDay_50 rfl (lv_at hl 2 rfl) ?_
      obtain ⟨hi, h⟩ := s_ald_inv h
      refine me_ald hx hb hK hP hT.2.2.2.1 hi dX6_goDay_51 (fun v51 ev => ?_)
      replace h := h v51 ev
      refine lv_iconst (v := (1 : Int32)) hx hb dX6_goDay_52 (by decide) ?_
      refine lv_icmp_ne (tgt := 95) hx hb dX6_goDay_53 (by decide) (fun q => ?_) (fun q => ?_)
      · rw [if_pos q] at h
        refine lv_iinc (k := 3) (v := (x3 + (1 : Int32))) (lv' := [(3, .int (x3 + (1 : Int32))), (0, .ref (ad t)), (1, .int x1), (2, .int x2)]) hx hb dX6_goDay_95 hl rfl rfl (by decide) rfl (fun ls hl => ?_)
        refine lv_goto (tgt := 36) hx hb dX6_goDay_98 (by decide) ?_
        exact ih (x3 + (1 : Int32)) M h H locs ls hP hS (lv_sub hl [1, 2, 3, 0] rfl)
      · rw [if_neg (not_not_intro q)] at h
        refine lv_iload_n hx hb dX6_goDay_56 rfl (lv_at hl 2 rfl) ?_
        refine lv_iload_n hx hb dX6_goDay_57 rfl (lv_at hl 3 rfl) ?_
        refine lv_icmp_eq (tgt := 95) hx hb dX6_goDay_58 (by decide) (fun q => ?_) (fun q => ?_)
        · rw [if_pos q] at h
          refine lv_iinc (k := 3) (v := (x3 + (1 : Int32))) (lv' := [(3, .int (x3 + (1 : Int32))), (0, .ref (ad t)), (1, .int x1), (2, .int x2)]) hx hb dX6_goDay_95 hl rfl rfl (by decide) rfl (fun ls hl => ?_)
          refine lv_goto (tgt := 36) hx hb dX6_goDay_98 (by decide) ?_
          exact ih (x3 + (1 : Int32)) M h H locs ls hP hS (lv_sub hl [1, 2, 3, 0] rfl)
        · rw [if_neg q] at h
          refine lv_aload_n hx hb dX6_goDay_61 rfl (lv_at hl 0 rfl) ?_
          refine lv_iload_n hx hb dX6_goDay_62 rfl (lv_at hl 1 rfl) ?_
          refine lv_iload_n hx hb dX6_goDay_63 rfl (lv_at hl 2 rfl) ?_
          obtain ⟨v64, M64, h1, h⟩ := s_call_inv h
          refine me_callVi (As := [.int x1, .int x2]) (rest := []) ⟨hx, hb, hml, hown, hts⟩ (c_X6_isAlive hT h1) (cwV 2 hts gX6_goDay_X6_isAlive rfl rfl rfl hd_X6_isAlive ⟨(Nat.le_of_ble_eq_true rfl), (Nat.le_of_ble_eq_true rfl)⟩) hK hI hP hS hT.1 rfl rfl hl.1 rfl (Nat.le_of_ble_eq_true rfl) dX6_goDay_64 ⟨Nat.zero_le _, Nat.zero_le _⟩ (fun H locs hP hS => ?_)
          refine lv_if_eq (tgt := 95) hx hb dX6_goDay_67 (by decide) (fun q => ?_) (fun q => ?_)
          · rw [if_pos q] at h
            refine lv_iinc (k := 3) (v := (x3 + (1 : Int32))) (lv' := [(3, .int (x3 + (1 : Int32))), (0, .ref (ad t)), (1, .int x1), (2, .int x2)]) hx hb dX6_goDay_95 hl rfl rfl (by decide) rfl (fun ls hl => ?_)
            refine lv_goto (tgt := 36) hx hb dX6_goDay_98 (by decide) ?_
            exact ih (x3 + (1 : Int32)) M64 h H locs ls hP hS (lv_sub hl [1, 2, 3, 0] rfl)
          · rw [if_neg q] at h
            refine lv_aload_n hx hb dX6_goDay_70 rfl (lv_at hl 0 rfl) ?_
            refine lv_iload_n hx hb dX6_goDay_71 rfl (lv_at hl 1 rfl) ?_
            refine lv_iload_n hx hb dX6_goDay_72 rfl (lv_at hl 3 rfl) ?_
            obtain ⟨v73, M73, h1, h⟩ := s_call_inv h
            refine me_callVi (As := [.int x1, .int x3]) (rest := []) ⟨hx, hb, hml, hown, hts⟩ (c_X6_isAlive hT h1) (cwV 2 hts gX6_goDay_X6_isAlive rfl rfl rfl hd_X6_isAlive ⟨(Nat.le_of_ble_eq_true rfl), (Nat.le_of_ble_eq_true rfl)⟩) hK hI hP hS hT.1 rfl rfl hl.1 rfl (Nat.le_of_ble_eq_true rfl) dX6_goDay_73 ⟨Nat.zero_le _, Nat.zero_le _⟩ (fun H locs hP hS => ?_)
            refine lv_if_eq (tgt := 95) hx hb dX6_goDay_76 (by decide) (fun q => ?_) (fun q => ?_)
            · rw [if_pos q] at h
              refine lv_iinc (k := 3) (v := (x3 + (1 : Int32))) (lv' := [(3, .int (x3 + (1 : Int32))), (0, .ref (ad t)), (1, .int x1), (2, .int x2)]) hx hb dX6_goDay_95 hl rfl rfl (by decide) rfl (fun ls hl => ?_)
              refine lv_goto (tgt := 36) hx hb dX6_goDay_98 (by decide) ?_
              exact ih (x3 + (1 : Int32)) M73 h H locs ls hP hS (lv_sub hl [1, 2, 3, 0] rfl)
            · rw [if_neg q] at h
              refine lv_aload_n hx hb dX6_goDay_79 rfl (lv_at hl 0 rfl) ?_
              refine lv_iload_n hx hb dX6_goDay_80 rfl (lv_at hl 1 rfl) ?_
              refine lv_iload_n hx hb dX6_goDay_81 rfl (lv_at hl 2 rfl) ?_
              refine lv_iload_n hx hb dX6_goDay_82 rfl (lv_at hl 3 rfl) ?_
              refine lv_aload_n hx hb dX6_goDay_83 rfl (lv_at hl 0 rfl) ?_
              refine lv_iload_n hx hb dX6_goDay_84 rfl (lv_at hl 1 rfl) ?_
              refine lv_iload_n hx hb dX6_goDay_85 rfl (lv_at hl 2 rfl) ?_
              refine lv_iload_n hx hb dX6_goDay_86 rfl (lv_at hl 3 rfl) ?_
              obtain ⟨v87, M87, h1, h⟩ := s_call_inv h
              refine me_callVi (As := [.int x1, .int x2, .int x3]) (rest := [.int x3, .int x2, .int x1, .ref (ad t)]) ⟨hx, hb, hml, hown, hts⟩ (c_X6_debt hT h1) (cwV 3 hts gX6_goDay_X6_debt rfl rfl rfl hd_X6_debt ⟨(Nat.le_of_ble_eq_true rfl), (Nat.le_of_ble_eq_true rfl)⟩) hK hI hP hS hT.1 rfl rfl hl.1 rfl (Nat.le_of_ble_eq_true rfl) dX6_goDay_87 ⟨Nat.zero_le _, Nat.zero_le _⟩ (fun H locs hP hS => ?_)
              refine lv_iconst (v := (1 : Int32)) hx hb dX6_goDay_90 (by decide) ?_
              refine lv_iadd hx hb dX6_goDay_91 ?_
              obtain ⟨u92, M92, h1, h⟩ := s_call_inv h
              refine me_callVv (As := [.int x1, .int x2, .int x3, .int (v87 + (1 : Int32))]) (rest := []) ⟨hx, hb, hml, hown, hts⟩ (c_X6_setDebt hT h1) (cwV 4 hts gX6_goDay_X6_setDebt rfl rfl rfl hd_X6_setDebt ⟨(Nat.le_of_ble_eq_true rfl), (Nat.le_of_ble_eq_true rfl)⟩) hK hI hP hS hT.1 rfl rfl hl.1 rfl (Nat.le_of_ble_eq_true rfl) dX6_goDay_92 ⟨Nat.zero_le _, Nat.zero_le _⟩ (fun H locs hP hS => ?_)
              refine lv_iinc (k := 3) (v := (x3 + (1 : Int32))) (lv' := [(3, .int (x3 + (1 : Int32))), (0, .ref (ad t)), (1, .int x1), (2, .int x2)]) hx hb dX6_goDay_95 hl rfl rfl (by decide) rfl (fun ls hl => ?_)
              refine lv_goto (tgt := 36) hx hb dX6_goDay_98 (by decide) ?_
              exact ih (x3 + (1 : Int32)) M92 h H locs ls hP hS (lv_sub hl [1, 2, 3, 0] rfl)
set_option maxRecDepth 100000 in
set_option maxHeartbeats 4000000 in
theorem w_X6_goDay_12 {p : Program} {l : Launch} {e : Env} {s : State} {m : MethodId} {args : Array Value} {below : List Frame} {meth : Method} {c : Code} {D : va_G} {cI : ClassId} {ad : Nat → Nat} {L : List CDs} {r : Unit} {M' : Mem} (C0 : me_X p s m args meth c cX6_goDay 4 none wsX6_goDay RX6 D cI ad L) (t : Nat) (hT : is_X6 L t) (x1 : Int32) : ∀ (n : Nat) (x2 : Int32) (M : Mem), X6_goDay_12 t x1 n x2 M = some (r, M') → me_W p l e rmX6_goDay s m args below meth c D cI ad L none M' 4 12 [(0, .ref (ad t)), (1, .int x1), (2, .int x2)] [] M := by
  obtain ⟨hx, hb, hr, hml, hown, hts, hlk, hK, hI⟩ := id C0
  intro n
  induction n with
  | zero =>
    intro x2 M h
    rw [X6_goDay_12] at h
    cases h
  | succ n ih =>
    intro x2 M h
    rw [X6_goDay_12] at h
    intro H locs ls hP hS hl
    refine lv_iload_n hx hb dX6_goDay_12 rfl (lv_at hl 2 rfl) ?_
    refine lv_aload_n hx hb dX6_goDay_13 rfl (lv_at hl 0 rfl) ?_
    refine me_getr (ci := 6) (C := RX6) (T := TX6) (N := 22) hx hb hts in_X6_goDay_X6 hown hK hP hT.1 rfl 19 (by decide) (hts _ kX6_goDay_f55) rfl dX6_goDay_14 ?_
    refine lv_iload_n hx hb dX6_goDay_17 rfl (lv_at hl 1 rfl) ?_
    obtain ⟨hi, h⟩ := s_ald_inv h
    refine me_ald hx hb hK hP hT.2.2.2.2.2.2.2.2.2.2.2.2.2.2.2.2.1 hi dX6_goDay_18 (fun v18 ev => ?_)
    replace h := h v18 ev
    refine lv_icmp_ge (tgt := 107) hx hb dX6_goDay_19 (by decide) (fun q => ?_) (fun q => ?_)
    · rw [if_pos q] at h
      exact me_vret hx hb hr hlk hP hS h dX6_goDay_107
    · rw [if_neg q] at h
      refine lv_aload_n hx hb dX6_goDay_22 rfl (lv_at hl 0 rfl) ?_
      refine me_getr (ci := 6) (C := RX6) (T := TX6) (N := 22) hx hb hts in_X6_goDay_X6 hown hK hP hT.1 rfl 18 (by decide) (hts _ kX6_goDay_f52) rfl dX6_goDay_23 ?_
      refine lv_iload_n hx hb dX6_goDay_26 rfl (lv_at hl 1 rfl) ?_
      obtain ⟨hi, h⟩ := s_ald_inv h
      refine me_ald hx hb hK hP hT.2.2.2.2.2.2.2.2.2.2.2.2.2.2.2.1 hi dX6_goDay_27 (fun v27 ev => ?_)
      replace h := h v27 ev
      refine lv_bipush (v := (7 : Int32)) hx hb dX6_goDay_28 (by decide) ?_
      obtain ⟨hi, h⟩ := s_rem_inv h
      refine lv_irem hx hb dX6_goDay_30 hi ?_
      refine lv_topi (fun v30 ev => ?_)
      replace h := h v30 ev
      refine lv_if_ne (tgt := 107) hx hb dX6_goDay_31 (by decide) (fun q => ?_) (fun q => ?_)
      · rw [if_pos q] at h
        exact me_vret hx hb hr hlk hP hS h dX6_goDay_107
      · rw [if_neg (not_not_intro q)] at h
        refine lv_iconst (v := (0 : Int32)) hx hb dX6_goDay_34 (by decide) ?_
        refine lv_istore_n (lv' := [(3, .int (0 : Int32)), (0, .ref (ad t)), (1, .int x1), (2, .int x2)]) hx hb dX6_goDay_35 rfl hl (by decide) rfl (fun ls hl => ?_)
        exact w_X6_goDay_36 C0 t hT x1 x2 (X6_goDay_12 t x1 n) (fun x2 M h => ih x2 M h) FU (0 : Int32) M h H locs ls hP hS (lv_sub hl [1, 2, 3, 0] rfl)
set_option maxRecDepth 100000 in
set_option maxHeartbeats 4000000 in
theorem w_X6_goDay {p : Program} {l : Launch} {e : Env} {s : State} {m : MethodId} {args : Array Value} {below : List Frame} {meth : Method} {c : Code} {D : va_G} {cI : ClassId} {ad : Nat → Nat} {L : List CDs} {r : Unit} {M' : Mem} (C0 : me_X p s m args meth c cX6_goDay 4 none wsX6_goDay RX6 D cI ad L) (t : Nat) (hT : is_X6 L t) (x1 : Int32) : ∀  (M : Mem), X6_goDay t x1 M = some (r, M') → me_W p l e rmX6_goDay s m args below meth c D cI ad L none M' 4 0 [(0, .ref (ad t)), (1, .int x1)] [] M := by
  obtain ⟨hx, hb, hr, hml, hown, hts, hlk, hK, hI⟩ := id C0
  intro M h
  unfold X6_goDay at h
  intro H locs ls hP hS hl
  refine lv_aload_n hx hb dX6_goDay_0 rfl (lv_at hl 0 rfl) ?_
  refine me_getr (ci := 6) (C := RX6) (T := TX6) (N := 22) hx hb hts in_X6_goDay_X6 hown hK hP hT.1 rfl 18 (by decide) (hts _ kX6_goDay_f52) rfl dX6_goDay_1 ?_
  refine lv_iload_n hx hb dX6_goDay_4 rfl (lv_at hl 1 rfl) ?_
  refine lv_dup2_11 hx hb dX6_goDay_5 rfl rfl ?_
  obtain ⟨hi, h⟩ := s_ald_inv h
  refine me_ald hx hb hK hP hT.2.2.2.2.2.2.2.2.2.2.2.2.2.2.2.1 hi dX6_goDay_6 (fun v6 ev => ?_)
  replace h := h v6 ev
  refine lv_iconst (v := (1 : Int32)) hx hb dX6_goDay_7 (by decide) ?_
  refine lv_iadd hx hb dX6_goDay_8 ?_
  obtain ⟨hi, h⟩ := s_ast_inv h
  refine me_ast hx hb hK hI hP hS hT.2.2.2.2.2.2.2.2.2.2.2.2.2.2.2.1 hi dX6_goDay_9 (fun H locs M9 eM hP hS => ?_)
  replace h := h M9 eM
  refine lv_iconst (v := (0 : Int32)) hx hb dX6_goDay_10 (by decide) ?_
  refine lv_istore_n (lv' := [(2, .int (0 : Int32)), (0, .ref (ad t)), (1, .int x1)]) hx hb dX6_goDay_11 rfl hl (by decide) rfl (fun ls hl => ?_)
  exact w_X6_goDay_12 C0 t hT x1 FU (0 : Int32) M9 h H locs ls hP hS (lv_sub hl [1, 2, 0] rfl)
theorem c_X6_goDay {l : Launch} {D : va_G} {cI : ClassId} {ad : Nat → Nat} {L : List CDs} {t : Nat} (hT : is_X6 L t) {x1 : Int32} {M M' : Mem} {r : Unit} (h : X6_goDay t x1 M = some (r, M')) : me_Met l yX6_goDay wsX6_goDay rmX6_goDay D cI ad L [.ref (ad t), .int x1] none M M' :=
  me_ofW (by decide) rfl (Nat.le_of_ble_eq_true rfl) (fun p e s m below meth c C0 => w_X6_goDay C0 t hT x1 M h)
abbrev rmX6_doAct : Room := { frames := 3, cells := 0, slots := 0, locals := 71 }
theorem hd_X6_doAct : yX6_doAct.cls = RX6 ∧ yX6_doAct.cls ≠ "java/lang/invoke/MethodHandle" ∧ yX6_doAct.cls ≠ "java/lang/invoke/VarHandle" ∧ (parseMethodDescriptor yX6_doAct.desc).map (fun d => d.parameters.length) = some 4 := by decide +kernel
set_option maxRecDepth 100000 in
set_option maxHeartbeats 4000000 in
theorem w_X6_doAct_36 {p : Program} {l : Launch} {e : Env} {s : State} {m : MethodId} {args : Array Value} {below : List Frame} {meth : Method} {c : Code} {D : va_G} {cI : ClassId} {ad : Nat → Nat} {L : List CDs} {r : Unit} {M' : Mem} (C0 : me_X p s m args meth c cX6_doAct 6 none wsX6_doAct RX6 D cI ad L) (t : Nat) (hT : is_X6 L t) (x1 : Int32) (x3 : Int32) (x4 : Int32) : ∀  (M : Mem), X6_doAct_36 t x1 x3 x4 M = some (r, M') → me_W p l e rmX6_doAct s m args below meth c D cI ad L none M' 6 36 [(0, .ref (ad t)), (1, .int x1), (3, .int x3), (4, .int x4)] [] M := by
  obtain ⟨hx, hb, hr, hml, hown, hts, hlk, hK, hI⟩ := id C0
  intro M h
  unfold X6_doAct_36 at h
  intro H locs ls hP hS hl
  refine lv_aload_n hx hb dX6_doAct_36 rfl (lv_at hl 0 rfl) ?_
  refine lv_iload_n hx hb dX6_doAct_37 rfl (lv_at hl 1 rfl) ?_
  refine lv_iload_n hx hb dX6_doAct_38 rfl (lv_at hl 2 rfl) ?_
  refine lv_iload hx hb dX6_doAct_39 (lv_at hl 3 rfl) ?_
  refine lv_aload_n hx hb dX6_doAct_41 rfl (lv_at hl 0 rfl) ?_
  refine lv_iload_n hx hb dX6_doAct_42 rfl (lv_at hl 1 rfl) ?_
  refine lv_iload_n hx hb dX6_doAct_43 rfl (lv_at hl 2 rfl) ?_
  refine lv_iload hx hb dX6_doAct_44 (lv_at hl 3 rfl) ?_
  obtain ⟨v46, M46, h1, h⟩ := s_call_inv h
  refine me_callVi (As := [.int x1, .int x3, .int x4]) (rest := [.int x4, .int x3, .int x1, .ref (ad t)]) ⟨hx, hb, hml, hown, hts⟩ (c_X6_debt hT h1) (cwV 3 hts gX6_doAct_X6_debt rfl rfl rfl hd_X6_debt ⟨(Nat.le_of_ble_eq_true rfl), (Nat.le_of_ble_eq_true rfl)⟩) hK hI hP hS hT.1 rfl rfl hl.1 rfl (Nat.le_of_ble_eq_true rfl) dX6_doAct_46 ⟨Nat.zero_le _, Nat.zero_le _⟩ (fun H locs hP hS => ?_)
  refine lv_iconst (v := (1 : Int32)) hx hb dX6_doAct_49 (by decide) ?_
  refine lv_iadd hx hb dX6_doAct_50 ?_
  obtain ⟨u51, M51, h1, h⟩ := s_call_inv h
  refine me_callVv (As := [.int x1, .int x3, .int x4, .int (v46 + (1 : Int32))]) (rest := []) ⟨hx, hb, hml, hown, hts⟩ (c_X6_setDebt hT h1) (cwV 4 hts gX6_doAct_X6_setDebt rfl rfl rfl hd_X6_setDebt ⟨(Nat.le_of_ble_eq_true rfl), (Nat.le_of_ble_eq_true rfl)⟩) hK hI hP hS hT.1 rfl rfl hl.1 rfl (Nat.le_of_ble_eq_true rfl) dX6_doAct_51 ⟨Nat.zero_le _, Nat.zero_le _⟩ (fun H locs hP hS => ?_)
  refine lv_goto (tgt := 126) hx hb dX6_doAct_54 (by decide) ?_
  exact me_vret hx hb hr hlk hP hS h dX6_doAct_126
set_option maxRecDepth 100000 in
set_option maxHeartbeats 4000000 in
theorem w_X6_doAct_108 {p : Program} {l : Launch} {e : Env} {s : State} {m : MethodId} {args : Array Value} {below : List Frame} {meth : Method} {c : Code} {D : va_G} {cI : ClassId} {ad : Nat → Nat} {L : List CDs} {r : Unit} {M' : Mem} (C0 : me_X p s m args meth c cX6_doAct 6 none wsX6_doAct RX6 D cI ad L) (t : Nat) (hT : is_X6 L t) (x1 : Int32) (x4 : Int32) : ∀ (n : Nat) (x5 : Int32) (M : Mem), X6_doAct_108 t x1 x4 n x5 M = some (r, M') → me_W p l e rmX6_doAct s m args below meth c D cI ad L none M' 6 108 [(0, .ref (ad t)), (1, .int x1), (4, .int x4), (5, .int x5)] [] M := by
  obtain ⟨hx, hb, hr, hml, hown, hts, hlk, hK, hI⟩ := id C0
  intro n
  induction n with
  | zero =>
    intro x5 M h
    rw [X6_doAct_108] at h
    cases h
  | succ n ih =>
    intro x5 M h
    rw [X6_doAct_108] at h
    intro H locs ls hP hS hl
    refine lv_iload hx hb dX6_doAct_108 (lv_at hl 3 rfl) ?_
    refine lv_iload hx hb dX6_doAct_110 (lv_at hl 2 rfl) ?_
    refine lv_icmp_ge (tgt := 126) hx hb dX6_doAct_112 (by decide) (fun q => ?_) (fun q => ?_)
    · rw [if_pos q] at h
      exact me_vret hx hb hr hlk hP hS h dX6_doAct_126
    · rw [if_neg q] at h
      refine lv_aload_n hx hb dX6_doAct_115 rfl (lv_at hl 0 rfl) ?_
      refine lv_iload_n hx hb dX6_doAct_116 rfl (lv_at hl 1 rfl) ?_
      obtain ⟨u117, M117, h1, h⟩ := s_call_inv h
      refine me_callVv (As := [.int x1]) (rest := []) ⟨hx, hb, hml, hown, hts⟩ (c_X6_goDay hT h1) (cwV 1 hts gX6_doAct_X6_goDay rfl rfl rfl hd_X6_goDay ⟨(Nat.le_of_ble_eq_true rfl), (Nat.le_of_ble_eq_true rfl)⟩) hK hI hP hS hT.1 rfl rfl hl.1 rfl (Nat.le_of_ble_eq_true rfl) dX6_doAct_117 ⟨Nat.zero_le _, Nat.zero_le _⟩ (fun H locs hP hS => ?_)
      refine lv_iinc (k := 3) (v := (x5 + (1 : Int32))) (lv' := [(5, .int (x5 + (1 : Int32))), (0, .ref (ad t)), (1, .int x1), (4, .int x4)]) hx hb dX6_doAct_120 hl rfl rfl (by decide) rfl (fun ls hl => ?_)
      refine lv_goto (tgt := 108) hx hb dX6_doAct_123 (by decide) ?_
      exact ih (x5 + (1 : Int32)) M117 h H locs ls hP hS (lv_sub hl [1, 2, 3, 0] rfl)
set_option maxRecDepth 100000 in
set_option maxHeartbeats 4000000 in
theorem w_X6_doAct {p : Program} {l : Launch} {e : Env} {s : State} {m : MethodId} {args : Array Value} {below : List Frame} {meth : Method} {c : Code} {D : va_G} {cI : ClassId} {ad : Nat → Nat} {L : List CDs} {r : Unit} {M' : Mem} (C0 : me_X p s m args meth c cX6_doAct 6 none wsX6_doAct RX6 D cI ad L) (t : Nat) (hT : is_X6 L t) (x1 : Int32) (x2 : Int32) (x3 : Int32) (x4 : Int32) : ∀  (M : Mem), X6_doAct t x1 x2 x3 x4 M = some (r, M') → me_W p l e rmX6_doAct s m args below meth c D cI ad L none M' 6 0 [(0, .ref (ad t)), (1, .int x1), (2, .int x2), (3, .int x3), (4, .int x4)] [] M := by
  obtain ⟨hx, hb, hr, hml, hown, hts, hlk, hK, hI⟩ := id C0
  intro M h
  unfold X6_doAct at h
  intro H locs ls hP hS hl
  refine lv_iload_n hx hb dX6_doAct_0 rfl (lv_at hl 2 rfl) ?_
  by_cases q0 : x2 = (0 : Int32)
  · rw [if_pos q0] at h
    refine lv_tableIn (tgt := 36) (off := 35) hx hb dX6_doAct_1 (by rw [q0]; decide) (by rw [q0]; decide) (by rw [q0]; rfl) (by decide) ?_
    exact w_X6_doAct_36 C0 t hT x1 x3 x4 M h H locs ls hP hS (lv_sub hl [0, 1, 3, 4] rfl)
  rw [if_neg q0] at h
  by_cases q1 : x2 = (1 : Int32)
  · rw [if_pos q1] at h
    refine lv_tableIn (tgt := 57) (off := 56) hx hb dX6_doAct_1 (by rw [q1]; decide) (by rw [q1]; decide) (by rw [q1]; rfl) (by decide) ?_
    refine lv_aload_n hx hb dX6_doAct_57 rfl (lv_at hl 0 rfl) ?_
    refine lv_iload_n hx hb dX6_doAct_58 rfl (lv_at hl 1 rfl) ?_
    refine lv_iload_n hx hb dX6_doAct_59 rfl (lv_at hl 3 rfl) ?_
    refine lv_iload hx hb dX6_doAct_60 (lv_at hl 4 rfl) ?_
    refine lv_aload_n hx hb dX6_doAct_62 rfl (lv_at hl 0 rfl) ?_
    refine lv_iload_n hx hb dX6_doAct_63 rfl (lv_at hl 1 rfl) ?_
    refine lv_iload_n hx hb dX6_doAct_64 rfl (lv_at hl 3 rfl) ?_
    refine lv_iload hx hb dX6_doAct_65 (lv_at hl 4 rfl) ?_
    obtain ⟨v67, M67, h1, h⟩ := s_call_inv h
    refine me_callVi (As := [.int x1, .int x3, .int x4]) (rest := [.int x4, .int x3, .int x1, .ref (ad t)]) ⟨hx, hb, hml, hown, hts⟩ (c_X6_debt hT h1) (cwV 3 hts gX6_doAct_X6_debt rfl rfl rfl hd_X6_debt ⟨(Nat.le_of_ble_eq_true rfl), (Nat.le_of_ble_eq_true rfl)⟩) hK hI hP hS hT.1 rfl rfl hl.1 rfl (Nat.le_of_ble_eq_true rfl) dX6_doAct_67 ⟨Nat.zero_le _, Nat.zero_le _⟩ (fun H locs hP hS => ?_)
    refine lv_aload_n hx hb dX6_doAct_70 rfl (lv_at hl 0 rfl) ?_
    refine lv_iload_n hx hb dX6_doAct_71 rfl (lv_at hl 1 rfl) ?_
    refine lv_iload_n hx hb dX6_doAct_72 rfl (lv_at hl 3 rfl) ?_
    refine lv_iload hx hb dX6_doAct_73 (lv_at hl 4 rfl) ?_
    obtain ⟨v75, M75, h1, h⟩ := s_call_inv h
    refine me_callVi (As := [.int x1, .int x3, .int x4]) (rest := [.int v67, .int x4, .int x3, .int x1, .ref (ad t)]) ⟨hx, hb, hml, hown, hts⟩ (c_X6_pays hT h1) (cwV 3 hts gX6_doAct_X6_pays rfl rfl rfl hd_X6_pays ⟨(Nat.le_of_ble_eq_true rfl), (Nat.le_of_ble_eq_true rfl)⟩) hK hI hP hS hT.1 rfl rfl hl.1 rfl (Nat.le_of_ble_eq_true rfl) dX6_doAct_75 ⟨Nat.zero_le _, Nat.zero_le _⟩ (fun H locs hP hS => ?_)
    refine lv_isub hx hb dX6_doAct_78 ?_
    obtain ⟨u79, M79, h1, h⟩ := s_call_inv h
    refine me_callVv (As := [.int x1, .int x3, .int x4, .int (v67 - v75)]) (rest := []) ⟨hx, hb, hml, hown, hts⟩ (c_X6_setDebt hT h1) (cwV 4 hts gX6_doAct_X6_setDebt rfl rfl rfl hd_X6_setDebt ⟨(Nat.le_of_ble_eq_true rfl), (Nat.le_of_ble_eq_true rfl)⟩) hK hI hP hS hT.1 rfl rfl hl.1 rfl (Nat.le_of_ble_eq_true rfl) dX6_doAct_79 ⟨Nat.zero_le _, Nat.zero_le _⟩ (fun H locs hP hS => ?_)
    refine lv_goto (tgt := 126) hx hb dX6_doAct_82 (by decide) ?_
    exact me_vret hx hb hr hlk hP hS h dX6_doAct_126
  rw [if_neg q1] at h
  by_cases q2 : x2 = (2 : Int32)
  · rw [if_pos q2] at h
    refine lv_tableIn (tgt := 36) (off := 35) hx hb dX6_doAct_1 (by rw [q2]; decide) (by rw [q2]; decide) (by rw [q2]; rfl) (by decide) ?_
    exact w_X6_doAct_36 C0 t hT x1 x3 x4 M h H locs ls hP hS (lv_sub hl [0, 1, 3, 4] rfl)
  rw [if_neg q2] at h
  by_cases q3 : x2 = (3 : Int32)
  · rw [if_pos q3] at h
    refine lv_tableIn (tgt := 85) (off := 84) hx hb dX6_doAct_1 (by rw [q3]; decide) (by rw [q3]; decide) (by rw [q3]; rfl) (by decide) ?_
    refine lv_aload_n hx hb dX6_doAct_85 rfl (lv_at hl 0 rfl) ?_
    refine lv_iload_n hx hb dX6_doAct_86 rfl (lv_at hl 1 rfl) ?_
    refine lv_iload_n hx hb dX6_doAct_87 rfl (lv_at hl 3 rfl) ?_
    refine lv_iload hx hb dX6_doAct_88 (lv_at hl 4 rfl) ?_
    obtain ⟨u90, M90, h1, h⟩ := s_call_inv h
    refine me_callVv (As := [.int x1, .int x3, .int x4]) (rest := []) ⟨hx, hb, hml, hown, hts⟩ (c_X6_bothBow hT h1) (cwV 3 hts gX6_doAct_X6_bothBow rfl rfl rfl hd_X6_bothBow ⟨(Nat.le_of_ble_eq_true rfl), (Nat.le_of_ble_eq_true rfl)⟩) hK hI hP hS hT.1 rfl rfl hl.1 rfl (Nat.le_of_ble_eq_true rfl) dX6_doAct_90 ⟨Nat.zero_le _, Nat.zero_le _⟩ (fun H locs hP hS => ?_)
    refine lv_goto (tgt := 126) hx hb dX6_doAct_93 (by decide) ?_
    exact me_vret hx hb hr hlk hP hS h dX6_doAct_126
  rw [if_neg q3] at h
  by_cases q4 : x2 = (4 : Int32)
  · rw [if_pos q4] at h
    refine lv_tableIn (tgt := 96) (off := 95) hx hb dX6_doAct_1 (by rw [q4]; decide) (by rw [q4]; decide) (by rw [q4]; rfl) (by decide) ?_
    refine lv_aload_n hx hb dX6_doAct_96 rfl (lv_at hl 0 rfl) ?_
    refine lv_iload_n hx hb dX6_doAct_97 rfl (lv_at hl 1 rfl) ?_
    refine lv_iload_n hx hb dX6_doAct_98 rfl (lv_at hl 3 rfl) ?_
    obtain ⟨u99, M99, h1, h⟩ := s_call_inv h
    refine me_callVv (As := [.int x1, .int x3]) (rest := []) ⟨hx, hb, hml, hown, hts⟩ (c_X6_dies hT h1) (cwV 2 hts gX6_doAct_X6_dies rfl rfl rfl hd_X6_dies ⟨(Nat.le_of_ble_eq_true rfl), (Nat.le_of_ble_eq_true rfl)⟩) hK hI hP hS hT.1 rfl rfl hl.1 rfl (Nat.le_of_ble_eq_true rfl) dX6_doAct_99 ⟨Nat.zero_le _, Nat.zero_le _⟩ (fun H locs hP hS => ?_)
    refine lv_goto (tgt := 126) hx hb dX6_doAct_102 (by decide) ?_
    exact me_vret hx hb hr hlk hP hS h dX6_doAct_126
  rw [if_neg q4] at h
  have e0 := lv_neT (a := 0) q0 (by decide)
  have e1 := lv_neT (a := 1) q1 (by decide)
  have e2 := lv_neT (a := 2) q2 (by decide)
  have e3 := lv_neT (a := 3) q3 (by decide)
  have e4 := lv_neT (a := 4) q4 (by decide)
  refine lv_tableOut (tgt := 105) hx hb dX6_doAct_1 (by omega) (by decide) ?_
  refine lv_iconst (v := (0 : Int32)) hx hb dX6_doAct_105 (by decide) ?_
  refine lv_istore (lv' := [(5, .int (0 : Int32)), (0, .ref (ad t)), (1, .int x1), (2, .int x2), (3, .int x3), (4, .int x4)]) hx hb dX6_doAct_106 hl (by decide) rfl (fun ls hl => ?_)
  exact w_X6_doAct_108 C0 t hT x1 x4 FU (0 : Int32) M h H locs ls hP hS (lv_sub hl [1, 2, 5, 0] rfl)
theorem c_X6_doAct {l : Launch} {D : va_G} {cI : ClassId} {ad : Nat → Nat} {L : List CDs} {t : Nat} (hT : is_X6 L t) {x1 : Int32} {x2 : Int32} {x3 : Int32} {x4 : Int32} {M M' : Mem} {r : Unit} (h : X6_doAct t x1 x2 x3 x4 M = some (r, M')) : me_Met l yX6_doAct wsX6_doAct rmX6_doAct D cI ad L [.ref (ad t), .int x1, .int x2, .int x3, .int x4] none M M' :=
  me_ofW (by decide) rfl (Nat.le_of_ble_eq_true rfl) (fun p e s m below meth c C0 => w_X6_doAct C0 t hT x1 x2 x3 x4 M h)
abbrev rmX6_beginBut : Room := { frames := 5, cells := 0, slots := 0, locals := 116 }
theorem kX6_beginBut_f49 : (Cond.fieldLink RX6 49 "LadderOfBowsModel" "alive" "[I") ∈ wsX6_beginBut := List.mem_of_getElem? (i := 3) rfl
theorem kX6_beginBut_f13 : (Cond.fieldLink RX6 13 "LadderOfBowsModel" "persons" "[I") ∈ wsX6_beginBut := List.mem_of_getElem? (i := 4) rfl
theorem kX6_beginBut_f52 : (Cond.fieldLink RX6 52 "LadderOfBowsModel" "day" "[I") ∈ wsX6_beginBut := List.mem_of_getElem? (i := 5) rfl
theorem kX6_beginBut_f55 : (Cond.fieldLink RX6 55 "LadderOfBowsModel" "many" "[I") ∈ wsX6_beginBut := List.mem_of_getElem? (i := 6) rfl
theorem kX6_beginBut_f28 : (Cond.fieldLink RX6 28 "LadderOfBowsModel" "acts" "[I") ∈ wsX6_beginBut := List.mem_of_getElem? (i := 7) rfl
theorem kX6_beginBut_f31 : (Cond.fieldLink RX6 31 "LadderOfBowsModel" "actKind" "[I") ∈ wsX6_beginBut := List.mem_of_getElem? (i := 8) rfl
theorem kX6_beginBut_f34 : (Cond.fieldLink RX6 34 "LadderOfBowsModel" "actOne" "[I") ∈ wsX6_beginBut := List.mem_of_getElem? (i := 9) rfl
theorem kX6_beginBut_f37 : (Cond.fieldLink RX6 37 "LadderOfBowsModel" "actTwo" "[I") ∈ wsX6_beginBut := List.mem_of_getElem? (i := 10) rfl
theorem kX6_beginBut_f46 : (Cond.fieldLink RX6 46 "LadderOfBowsModel" "debts" "[I") ∈ wsX6_beginBut := List.mem_of_getElem? (i := 1) rfl
theorem kX6_beginBut_f22 : (Cond.fieldLink RX6 22 "LadderOfBowsModel" "firsts" "[I") ∈ wsX6_beginBut := List.mem_of_getElem? (i := 2) rfl
theorem in_X6_beginBut_X6 : ∀ w ∈ wsX60, w ∈ wsX6_beginBut := by decide +kernel
theorem hd_X6_beginBut : yX6_beginBut.cls = RX6 ∧ yX6_beginBut.cls ≠ "java/lang/invoke/MethodHandle" ∧ yX6_beginBut.cls ≠ "java/lang/invoke/VarHandle" ∧ (parseMethodDescriptor yX6_beginBut.desc).map (fun d => d.parameters.length) = some 2 := by decide +kernel
set_option maxRecDepth 100000 in
set_option maxHeartbeats 4000000 in
theorem w_X6_beginBut_68 {p : Program} {l : Launch} {e : Env} {s : State} {m : MethodId} {args : Array Value} {below : List Frame} {meth : Method} {c : Code} {D : va_G} {cI : ClassId} {ad : Nat → Nat} {L : List CDs} {r : Unit} {M' : Mem} (C0 : me_X p s m args meth c cX6_beginBut 4 none wsX6_beginBut RX6 D cI ad L) (t : Nat) (hT : is_X6 L t) (x1 : Int32) (x2 : Int32) : ∀ (n : Nat) (x3 : Int32) (M : Mem), X6_beginBut_68 t x1 x2 n x3 M = some (r, M') → me_W p l e rmX6_beginBut s m args below meth c D cI ad L none M' 4 68 [(0, .ref (ad t)), (1, .int x1), (2, .int x2), (3, .int x3)] [] M := by
  obtain ⟨hx, hb, hr, hml, hown, hts, hlk, hK, hI⟩ := id C0
  intro n
  induction n with
  | zero =>
    intro x3 M h
    rw [X6_beginBut_68] at h
    cases h
  | succ n ih =>
    intro x3 M h
    rw [X6_beginBut_68] at h
    intro H locs ls hP hS hl
    refine lv_iload_n hx hb dX6_beginBut_68 rfl (lv_at hl 3 rfl) ?_
    refine lv_aload_n hx hb dX6_beginBut_69 rfl (lv_at hl 0 rfl) ?_
    refine me_getr (ci := 6) (C := RX6) (T := TX6) (N := 22) hx hb hts in_X6_beginBut_X6 hown hK hP hT.1 rfl 7 (by decide) (hts _ kX6_beginBut_f28) rfl dX6_beginBut_70 ?_
    refine lv_iconst (v := (0 : Int32)) hx hb dX6_beginBut_73 (by decide) ?_
    obtain ⟨hi, h⟩ := s_ald_inv h
    refine me_ald hx hb hK hP hT.2.2.2.2.2.2.2.1 hi dX6_beginBut_74 (fun v74 ev => ?_)
    replace h := h v74 ev
    refine lv_icmp_ge (tgt := 138) hx hb dX6_beginBut_75 (by decide) (fun q => ?_) (fun q => ?_)
    · rw [if_pos q] at h
      exact me_vret hx hb hr hlk hP hS h dX6_beginBut_138
    · rw [if_neg q] at h
      refine lv_iload_n hx hb dX6_beginBut_78 rfl (lv_at hl 3 rfl) ?_
      refine lv_iload_n hx hb dX6_beginBut_79 rfl (lv_at hl 2 rfl) ?_
      refine lv_icmp_eq (tgt := 132) hx hb dX6_beginBut_80 (by decide) (fun q => ?_) (fun q => ?_)
      · rw [if_pos q] at h
        refine lv_iinc (k := 3) (v := (x3 + (1 : Int32))) (lv' := [(3, .int (x3 + (1 : Int32))), (0, .ref (ad t)), (1, .int x1), (2, .int x2)]) hx hb dX6_beginBut_132 hl rfl rfl (by decide) rfl (fun ls hl => ?_)
        refine lv_goto (tgt := 68) hx hb dX6_beginBut_135 (by decide) ?_
        exact ih (x3 + (1 : Int32)) M h H locs ls hP hS (lv_sub hl [1, 2, 3, 0] rfl)
      · rw [if_neg q] at h
        refine lv_aload_n hx hb dX6_beginBut_83 rfl (lv_at hl 0 rfl) ?_
        refine lv_iload_n hx hb dX6_beginBut_84 rfl (lv_at hl 1 rfl) ?_
        refine lv_aload_n hx hb dX6_beginBut_85 rfl (lv_at hl 0 rfl) ?_
        refine me_getr (ci := 6) (C := RX6) (T := TX6) (N := 22) hx hb hts in_X6_beginBut_X6 hown hK hP hT.1 rfl 8 (by decide) (hts _ kX6_beginBut_f31) rfl dX6_beginBut_86 ?_
        refine lv_iload_n hx hb dX6_beginBut_89 rfl (lv_at hl 3 rfl) ?_
        obtain ⟨hi, h⟩ := s_ald_inv h
        refine me_ald hx hb hK hP hT.2.2.2.2.2.2.2.2.1 hi dX6_beginBut_90 (fun v90 ev => ?_)
        replace h := h v90 ev
        refine lv_aload_n hx hb dX6_beginBut_91 rfl (lv_at hl 0 rfl) ?_
        refine me_getr (ci := 6) (C := RX6) (T := TX6) (N := 22) hx hb hts in_X6_beginBut_X6 hown hK hP hT.1 rfl 9 (by decide) (hts _ kX6_beginBut_f34) rfl dX6_beginBut_92 ?_
        refine lv_iload_n hx hb dX6_beginBut_95 rfl (lv_at hl 3 rfl) ?_
        obtain ⟨hi, h⟩ := s_ald_inv h
        refine me_ald hx hb hK hP hT.2.2.2.2.2.2.2.2.2.1 hi dX6_beginBut_96 (fun v96 ev => ?_)
        replace h := h v96 ev
        refine lv_aload_n hx hb dX6_beginBut_97 rfl (lv_at hl 0 rfl) ?_
        refine me_getr (ci := 6) (C := RX6) (T := TX6) (N := 22) hx hb hts in_X6_beginBut_X6 hown hK hP hT.1 rfl 10 (by decide) (hts _ kX6_beginBut_f37) rfl dX6_beginBut_98 ?_
        refine lv_iload_n hx hb dX6_beginBut_101 rfl (lv_at hl 3 rfl) ?_
        obtain ⟨hi, h⟩ := s_ald_inv h
        refine me_ald hx hb hK hP hT.2.2.2.2.2.2.2.2.2.2.1 hi dX6_beginBut_102 (fun v102 ev => ?_)
        replace h := h v102 ev
        obtain ⟨v103, M103, h1, h⟩ := s_call_inv h
        refine me_callVi (As := [.int x1, .int v90, .int v96, .int v102]) (rest := []) ⟨hx, hb, hml, hown, hts⟩ (c_X6_canDo hT h1) (cwV 4 hts gX6_beginBut_X6_canDo rfl rfl rfl hd_X6_canDo ⟨(Nat.le_of_ble_eq_true rfl), (Nat.le_of_ble_eq_true rfl)⟩) hK hI hP hS hT.1 rfl rfl hl.1 rfl (Nat.le_of_ble_eq_true rfl) dX6_beginBut_103 ⟨Nat.zero_le _, Nat.zero_le _⟩ (fun H locs hP hS => ?_)
        refine lv_if_eq (tgt := 132) hx hb dX6_beginBut_106 (by decide) (fun q => ?_) (fun q => ?_)
        · rw [if_pos q] at h
          refine lv_iinc (k := 3) (v := (x3 + (1 : Int32))) (lv' := [(3, .int (x3 + (1 : Int32))), (0, .ref (ad t)), (1, .int x1), (2, .int x2)]) hx hb dX6_beginBut_132 hl rfl rfl (by decide) rfl (fun ls hl => ?_)
          refine lv_goto (tgt := 68) hx hb dX6_beginBut_135 (by decide) ?_
          exact ih (x3 + (1 : Int32)) M103 h H locs ls hP hS (lv_sub hl [1, 2, 3, 0] rfl)
        · rw [if_neg q] at h
          refine lv_aload_n hx hb dX6_beginBut_109 rfl (lv_at hl 0 rfl) ?_
          refine lv_iload_n hx hb dX6_beginBut_110 rfl (lv_at hl 1 rfl) ?_
          refine lv_aload_n hx hb dX6_beginBut_111 rfl (lv_at hl 0 rfl) ?_
          refine me_getr (ci := 6) (C := RX6) (T := TX6) (N := 22) hx hb hts in_X6_beginBut_X6 hown hK hP hT.1 rfl 8 (by decide) (hts _ kX6_beginBut_f31) rfl dX6_beginBut_112 ?_
          refine lv_iload_n hx hb dX6_beginBut_115 rfl (lv_at hl 3 rfl) ?_
          obtain ⟨hi, h⟩ := s_ald_inv h
          refine me_ald hx hb hK hP hT.2.2.2.2.2.2.2.2.1 hi dX6_beginBut_116 (fun v116 ev => ?_)
          replace h := h v116 ev
          refine lv_aload_n hx hb dX6_beginBut_117 rfl (lv_at hl 0 rfl) ?_
          refine me_getr (ci := 6) (C := RX6) (T := TX6) (N := 22) hx hb hts in_X6_beginBut_X6 hown hK hP hT.1 rfl 9 (by decide) (hts _ kX6_beginBut_f34) rfl dX6_beginBut_118 ?_
          refine lv_iload_n hx hb dX6_beginBut_121 rfl (lv_at hl 3 rfl) ?_
          obtain ⟨hi, h⟩ := s_ald_inv h
          refine me_ald hx hb hK hP hT.2.2.2.2.2.2.2.2.2.1 hi dX6_beginBut_122 (fun v122 ev => ?_)
          replace h := h v122 ev
          refine lv_aload_n hx hb dX6_beginBut_123 rfl (lv_at hl 0 rfl) ?_
          refine me_getr (ci := 6) (C := RX6) (T := TX6) (N := 22) hx hb hts in_X6_beginBut_X6 hown hK hP hT.1 rfl 10 (by decide) (hts _ kX6_beginBut_f37) rfl dX6_beginBut_124 ?_
          refine lv_iload_n hx hb dX6_beginBut_127 rfl (lv_at hl 3 rfl) ?_
          obtain ⟨hi, h⟩ := s_ald_inv h
          refine me_ald hx hb hK hP hT.2.2.2.2.2.2.2.2.2.2.1 hi dX6_beginBut_128 (fun v128 ev => ?_)
          replace h := h v128 ev
          obtain ⟨u129, M129, h1, h⟩ := s_call_inv h
          refine me_callVv (As := [.int x1, .int v116, .int v122, .int v128]) (rest := []) ⟨hx, hb, hml, hown, hts⟩ (c_X6_doAct hT h1) (cwV 4 hts gX6_beginBut_X6_doAct rfl rfl rfl hd_X6_doAct ⟨(Nat.le_of_ble_eq_true rfl), (Nat.le_of_ble_eq_true rfl)⟩) hK hI hP hS hT.1 rfl rfl hl.1 rfl (Nat.le_of_ble_eq_true rfl) dX6_beginBut_129 ⟨Nat.zero_le _, Nat.zero_le _⟩ (fun H locs hP hS => ?_)
          refine lv_iinc (k := 3) (v := (x3 + (1 : Int32))) (lv' := [(3, .int (x3 + (1 : Int32))), (0, .ref (ad t)), (1, .int x1), (2, .int x2)]) hx hb dX6_beginBut_132 hl rfl rfl (by decide) rfl (fun ls hl => ?_)
          refine lv_goto (tgt := 68) hx hb dX6_beginBut_135 (by decide) ?_
          exact ih (x3 + (1 : Int32)) M129 h H locs ls hP hS (lv_sub hl [1, 2, 3, 0] rfl)
set_option maxRecDepth 100000 in
set_option maxHeartbeats 4000000 in
theorem w_X6_beginBut_2 {p : Program} {l : Launch} {e : Env} {s : State} {m : MethodId} {args : Array Value} {below : List Frame} {meth : Method} {c : Code} {D : va_G} {cI : ClassId} {ad : Nat → Nat} {L : List CDs} {r : Unit} {M' : Mem} (C0 : me_X p s m args meth c cX6_beginBut 4 none wsX6_beginBut RX6 D cI ad L) (t : Nat) (hT : is_X6 L t) (x1 : Int32) (x2 : Int32) : ∀ (n : Nat) (x3 : Int32) (M : Mem), X6_beginBut_2 t x1 x2 n x3 M = some (r, M') → me_W p l e rmX6_beginBut s m args below meth c D cI ad L none M' 4 2 [(0, .ref (ad t)), (1, .int x1), (2, .int x2), (3, .int x3)] [] M := by
  obtain ⟨hx, hb, hr, hml, hown, hts, hlk, hK, hI⟩ := id C0
  intro n
  induction n with
  | zero =>
    intro x3 M h
    rw [X6_beginBut_2] at h
    cases h
  | succ n ih =>
    intro x3 M h
    rw [X6_beginBut_2] at h
    intro H locs ls hP hS hl
    refine lv_iload_n hx hb dX6_beginBut_2 rfl (lv_at hl 3 rfl) ?_
    refine lv_bipush (v := (64 : Int32)) hx hb dX6_beginBut_3 (by decide) ?_
    refine lv_icmp_ge (tgt := 31) hx hb dX6_beginBut_5 (by decide) (fun q => ?_) (fun q => ?_)
    · rw [if_pos q] at h
      refine lv_aload_n hx hb dX6_beginBut_31 rfl (lv_at hl 0 rfl) ?_
      refine me_getr (ci := 6) (C := RX6) (T := TX6) (N := 22) hx hb hts in_X6_beginBut_X6 hown hK hP hT.1 rfl 17 (by decide) (hts _ kX6_beginBut_f49) rfl dX6_beginBut_32 ?_
      refine lv_iload_n hx hb dX6_beginBut_35 rfl (lv_at hl 1 rfl) ?_
      refine lv_iconst (v := (1 : Int32)) hx hb dX6_beginBut_36 (by decide) ?_
      refine lv_aload_n hx hb dX6_beginBut_37 rfl (lv_at hl 0 rfl) ?_
      refine me_getr (ci := 6) (C := RX6) (T := TX6) (N := 22) hx hb hts in_X6_beginBut_X6 hown hK hP hT.1 rfl 2 (by decide) (hts _ kX6_beginBut_f13) rfl dX6_beginBut_38 ?_
      refine lv_iconst (v := (0 : Int32)) hx hb dX6_beginBut_41 (by decide) ?_
      obtain ⟨hi, h⟩ := s_ald_inv h
      refine me_ald hx hb hK hP hT.2.2.1 hi dX6_beginBut_42 (fun v42 ev => ?_)
      replace h := h v42 ev
      refine lv_ishl hx hb dX6_beginBut_43 ?_
      refine lv_iconst (v := (1 : Int32)) hx hb dX6_beginBut_44 (by decide) ?_
      refine lv_isub hx hb dX6_beginBut_45 ?_
      obtain ⟨hi, h⟩ := s_ast_inv h
      refine me_ast hx hb hK hI hP hS hT.2.2.2.2.2.2.2.2.2.2.2.2.2.2.1 hi dX6_beginBut_46 (fun H locs M46 eM hP hS => ?_)
      replace h := h M46 eM
      refine lv_aload_n hx hb dX6_beginBut_47 rfl (lv_at hl 0 rfl) ?_
      refine me_getr (ci := 6) (C := RX6) (T := TX6) (N := 22) hx hb hts in_X6_beginBut_X6 hown hK hP hT.1 rfl 18 (by decide) (hts _ kX6_beginBut_f52) rfl dX6_beginBut_48 ?_
      refine lv_iload_n hx hb dX6_beginBut_51 rfl (lv_at hl 1 rfl) ?_
      refine lv_iconst (v := (0 : Int32)) hx hb dX6_beginBut_52 (by decide) ?_
      obtain ⟨hi, h⟩ := s_ast_inv h
      refine me_ast hx hb hK hI hP hS hT.2.2.2.2.2.2.2.2.2.2.2.2.2.2.2.1 hi dX6_beginBut_53 (fun H locs M53 eM hP hS => ?_)
      replace h := h M53 eM
      refine lv_aload_n hx hb dX6_beginBut_54 rfl (lv_at hl 0 rfl) ?_
      refine me_getr (ci := 6) (C := RX6) (T := TX6) (N := 22) hx hb hts in_X6_beginBut_X6 hown hK hP hT.1 rfl 19 (by decide) (hts _ kX6_beginBut_f55) rfl dX6_beginBut_55 ?_
      refine lv_iload_n hx hb dX6_beginBut_58 rfl (lv_at hl 1 rfl) ?_
      refine lv_aload_n hx hb dX6_beginBut_59 rfl (lv_at hl 0 rfl) ?_
      refine me_getr (ci := 6) (C := RX6) (T := TX6) (N := 22) hx hb hts in_X6_beginBut_X6 hown hK hP hT.1 rfl 2 (by decide) (hts _ kX6_beginBut_f13) rfl dX6_beginBut_60 ?_
      refine lv_iconst (v := (0 : Int32)) hx hb dX6_beginBut_63 (by decide) ?_
      obtain ⟨hi, h⟩ := s_ald_inv h
      refine me_ald hx hb hK hP hT.2.2.1 hi dX6_beginBut_64 (fun v64 ev => ?_)
      replace h := h v64 ev
      obtain ⟨hi, h⟩ := s_ast_inv h
      refine me_ast hx hb hK hI hP hS hT.2.2.2.2.2.2.2.2.2.2.2.2.2.2.2.2.1 hi dX6_beginBut_65 (fun H locs M65 eM hP hS => ?_)
      replace h := h M65 eM
      refine lv_iconst (v := (0 : Int32)) hx hb dX6_beginBut_66 (by decide) ?_
      refine lv_istore_n (lv' := [(3, .int (0 : Int32)), (0, .ref (ad t)), (1, .int x1), (2, .int x2)]) hx hb dX6_beginBut_67 rfl hl (by decide) rfl (fun ls hl => ?_)
      exact w_X6_beginBut_68 C0 t hT x1 x2 FU (0 : Int32) M65 h H locs ls hP hS (lv_sub hl [1, 2, 3, 0] rfl)
    · rw [if_neg q] at h
      refine lv_aload_n hx hb dX6_beginBut_8 rfl (lv_at hl 0 rfl) ?_
      refine me_getr (ci := 6) (C := RX6) (T := TX6) (N := 22) hx hb hts in_X6_beginBut_X6 hown hK hP hT.1 rfl 16 (by decide) (hts _ kX6_beginBut_f46) rfl dX6_beginBut_9 ?_
      refine lv_bipush (v := (64 : Int32)) hx hb dX6_beginBut_12 (by decide) ?_
      refine lv_iload_n hx hb dX6_beginBut_14 rfl (lv_at hl 1 rfl) ?_
      refine lv_imul hx hb dX6_beginBut_15 ?_
      refine lv_iload_n hx hb dX6_beginBut_16 rfl (lv_at hl 3 rfl) ?_
      refine lv_iadd hx hb dX6_beginBut_17 ?_
      refine lv_aload_n hx hb dX6_beginBut_18 rfl (lv_at hl 0 rfl) ?_
      refine me_getr (ci := 6) (C := RX6) (T := TX6) (N := 22) hx hb hts in_X6_beginBut_X6 hown hK hP hT.1 rfl 5 (by decide) (hts _ kX6_beginBut_f22) rfl dX6_beginBut_19 ?_
      refine lv_iload_n hx hb dX6_beginBut_22 rfl (lv_at hl 3 rfl) ?_
      obtain ⟨hi, h⟩ := s_ald_inv h
      refine me_ald hx hb hK hP hT.2.2.2.2.2.1 hi dX6_beginBut_23 (fun v23 ev => ?_)
      replace h := h v23 ev
      obtain ⟨hi, h⟩ := s_ast_inv h
      refine me_ast hx hb hK hI hP hS hT.2.2.2.2.2.2.2.2.2.2.2.2.2.1 hi dX6_beginBut_24 (fun H locs M24 eM hP hS => ?_)
      replace h := h M24 eM
      refine lv_iinc (k := 3) (v := (x3 + (1 : Int32))) (lv' := [(3, .int (x3 + (1 : Int32))), (0, .ref (ad t)), (1, .int x1), (2, .int x2)]) hx hb dX6_beginBut_25 hl rfl rfl (by decide) rfl (fun ls hl => ?_)
      refine lv_goto (tgt := 2) hx hb dX6_beginBut_28 (by decide) ?_
      exact ih (x3 + (1 : Int32)) M24 h H locs ls hP hS (lv_sub hl [1, 2, 3, 0] rfl)
set_option maxRecDepth 100000 in
set_option maxHeartbeats 4000000 in
theorem w_X6_beginBut {p : Program} {l : Launch} {e : Env} {s : State} {m : MethodId} {args : Array Value} {below : List Frame} {meth : Method} {c : Code} {D : va_G} {cI : ClassId} {ad : Nat → Nat} {L : List CDs} {r : Unit} {M' : Mem} (C0 : me_X p s m args meth c cX6_beginBut 4 none wsX6_beginBut RX6 D cI ad L) (t : Nat) (hT : is_X6 L t) (x1 : Int32) (x2 : Int32) : ∀  (M : Mem), X6_beginBut t x1 x2 M = some (r, M') → me_W p l e rmX6_beginBut s m args below meth c D cI ad L none M' 4 0 [(0, .ref (ad t)), (1, .int x1), (2, .int x2)] [] M := by
  obtain ⟨hx, hb, hr, hml, hown, hts, hlk, hK, hI⟩ := id C0
  intro M h
  unfold X6_beginBut at h
  intro H locs ls hP hS hl
  refine lv_iconst (v := (0 : Int32)) hx hb dX6_beginBut_0 (by decide) ?_
  refine lv_istore_n (lv' := [(3, .int (0 : Int32)), (0, .ref (ad t)), (1, .int x1), (2, .int x2)]) hx hb dX6_beginBut_1 rfl hl (by decide) rfl (fun ls hl => ?_)
  exact w_X6_beginBut_2 C0 t hT x1 x2 FU (0 : Int32) M h H locs ls hP hS (lv_sub hl [1, 2, 3, 0] rfl)
theorem c_X6_beginBut {l : Launch} {D : va_G} {cI : ClassId} {ad : Nat → Nat} {L : List CDs} {t : Nat} (hT : is_X6 L t) {x1 : Int32} {x2 : Int32} {M M' : Mem} {r : Unit} (h : X6_beginBut t x1 x2 M = some (r, M')) : me_Met l yX6_beginBut wsX6_beginBut rmX6_beginBut D cI ad L [.ref (ad t), .int x1, .int x2] none M M' :=
  me_ofW (by decide) rfl (Nat.le_of_ble_eq_true rfl) (fun p e s m below meth c C0 => w_X6_beginBut C0 t hT x1 x2 M h)
abbrev rmX6_begin : Room := { frames := 6, cells := 0, slots := 0, locals := 139 }
theorem hd_X6_begin : yX6_begin.cls = RX6 ∧ yX6_begin.cls ≠ "java/lang/invoke/MethodHandle" ∧ yX6_begin.cls ≠ "java/lang/invoke/VarHandle" ∧ (parseMethodDescriptor yX6_begin.desc).map (fun d => d.parameters.length) = some 0 := by decide +kernel
set_option maxRecDepth 100000 in
set_option maxHeartbeats 4000000 in
theorem w_X6_begin {p : Program} {l : Launch} {e : Env} {s : State} {m : MethodId} {args : Array Value} {below : List Frame} {meth : Method} {c : Code} {D : va_G} {cI : ClassId} {ad : Nat → Nat} {L : List CDs} {r : Unit} {M' : Mem} (C0 : me_X p s m args meth c cX6_begin 1 none wsX6_begin RX6 D cI ad L) (t : Nat) (hT : is_X6 L t) : ∀  (M : Mem), X6_begin t M = some (r, M') → me_W p l e rmX6_begin s m args below meth c D cI ad L none M' 1 0 [(0, .ref (ad t))] [] M := by
  obtain ⟨hx, hb, hr, hml, hown, hts, hlk, hK, hI⟩ := id C0
  intro M h
  unfold X6_begin at h
  intro H locs ls hP hS hl
  refine lv_aload_n hx hb dX6_begin_0 rfl (lv_at hl 0 rfl) ?_
  refine lv_iconst (v := (0 : Int32)) hx hb dX6_begin_1 (by decide) ?_
  refine lv_bipush (v := (-4 : Int32)) hx hb dX6_begin_2 (by decide) ?_
  obtain ⟨u4, M4, h1, h⟩ := s_call_inv h
  refine me_callVv (As := [.int (0 : Int32), .int (-4 : Int32)]) (rest := []) ⟨hx, hb, hml, hown, hts⟩ (c_X6_beginBut hT h1) (cwV 2 hts gX6_begin_X6_beginBut rfl rfl rfl hd_X6_beginBut ⟨(Nat.le_of_ble_eq_true rfl), (Nat.le_of_ble_eq_true rfl)⟩) hK hI hP hS hT.1 rfl rfl hl.1 rfl (Nat.le_of_ble_eq_true rfl) dX6_begin_4 ⟨Nat.zero_le _, Nat.zero_le _⟩ (fun H locs hP hS => ?_)
  exact me_vret hx hb hr hlk hP hS h dX6_begin_7
theorem c_X6_begin {l : Launch} {D : va_G} {cI : ClassId} {ad : Nat → Nat} {L : List CDs} {t : Nat} (hT : is_X6 L t)  {M M' : Mem} {r : Unit} (h : X6_begin t M = some (r, M')) : me_Met l yX6_begin wsX6_begin rmX6_begin D cI ad L [.ref (ad t)] none M M' :=
  me_ofW (by decide) rfl (Nat.le_of_ble_eq_true rfl) (fun p e s m below meth c C0 => w_X6_begin C0 t hT M h)
abbrev rmX6_lay : Room := { frames := 7, cells := 0, slots := 0, locals := 159 }
theorem kX6_lay_f13 : (Cond.fieldLink RX6 13 "LadderOfBowsModel" "persons" "[I") ∈ wsX6_lay := List.mem_of_getElem? (i := 1) rfl
theorem kX6_lay_f25 : (Cond.fieldLink RX6 25 "LadderOfBowsModel" "easters" "[I") ∈ wsX6_lay := List.mem_of_getElem? (i := 2) rfl
theorem kX6_lay_f28 : (Cond.fieldLink RX6 28 "LadderOfBowsModel" "acts" "[I") ∈ wsX6_lay := List.mem_of_getElem? (i := 6) rfl
theorem kX6_lay_f114 : (Cond.fieldLink RX6 114 "LadderOfBowsModel" "keptMany" "I") ∈ wsX6_lay := List.mem_of_getElem? (i := 7) rfl
theorem kX6_lay_f117 : (Cond.fieldLink RX6 117 "LadderOfBowsModel" "silents" "I") ∈ wsX6_lay := List.mem_of_getElem? (i := 8) rfl
theorem kX6_lay_f22 : (Cond.fieldLink RX6 22 "LadderOfBowsModel" "firsts" "[I") ∈ wsX6_lay := List.mem_of_getElem? (i := 5) rfl
theorem kX6_lay_f16 : (Cond.fieldLink RX6 16 "LadderOfBowsModel" "kinds" "[I") ∈ wsX6_lay := List.mem_of_getElem? (i := 3) rfl
theorem kX6_lay_f19 : (Cond.fieldLink RX6 19 "LadderOfBowsModel" "streets" "[I") ∈ wsX6_lay := List.mem_of_getElem? (i := 4) rfl
theorem in_X6_lay_X6 : ∀ w ∈ wsX60, w ∈ wsX6_lay := by decide +kernel
theorem hd_X6_lay : yX6_lay.cls = RX6 ∧ yX6_lay.cls ≠ "java/lang/invoke/MethodHandle" ∧ yX6_lay.cls ≠ "java/lang/invoke/VarHandle" ∧ (parseMethodDescriptor yX6_lay.desc).map (fun d => d.parameters.length) = some 0 := by decide +kernel
set_option maxRecDepth 100000 in
set_option maxHeartbeats 4000000 in
theorem w_X6_lay_91 {p : Program} {l : Launch} {e : Env} {s : State} {m : MethodId} {args : Array Value} {below : List Frame} {meth : Method} {c : Code} {D : va_G} {cI : ClassId} {ad : Nat → Nat} {L : List CDs} {r : Int32} {M' : Mem} (C0 : me_X p s m args meth c cX6_lay 2 (some .int) wsX6_lay RX6 D cI ad L) (t : Nat) (hT : is_X6 L t) : ∀ (n : Nat) (x1 : Int32) (M : Mem), X6_lay_91 t n x1 M = some (r, M') → me_W p l e rmX6_lay s m args below meth c D cI ad L (some (.int r)) M' 2 91 [(0, .ref (ad t)), (1, .int x1)] [] M := by
  obtain ⟨hx, hb, hr, hml, hown, hts, hlk, hK, hI⟩ := id C0
  intro n
  induction n with
  | zero =>
    intro x1 M h
    rw [X6_lay_91] at h
    cases h
  | succ n ih =>
    intro x1 M h
    rw [X6_lay_91] at h
    intro H locs ls hP hS hl
    refine lv_iload_n hx hb dX6_lay_91 rfl (lv_at hl 1 rfl) ?_
    refine lv_bipush (v := (64 : Int32)) hx hb dX6_lay_92 (by decide) ?_
    refine lv_icmp_ge (tgt := 118) hx hb dX6_lay_94 (by decide) (fun q => ?_) (fun q => ?_)
    · rw [if_pos q] at h
      refine lv_aload_n hx hb dX6_lay_118 rfl (lv_at hl 0 rfl) ?_
      refine me_getr (ci := 6) (C := RX6) (T := TX6) (N := 22) hx hb hts in_X6_lay_X6 hown hK hP hT.1 rfl 7 (by decide) (hts _ kX6_lay_f28) rfl dX6_lay_119 ?_
      refine lv_iconst (v := (0 : Int32)) hx hb dX6_lay_122 (by decide) ?_
      refine lv_iconst (v := (0 : Int32)) hx hb dX6_lay_123 (by decide) ?_
      obtain ⟨hi, h⟩ := s_ast_inv h
      refine me_ast hx hb hK hI hP hS hT.2.2.2.2.2.2.2.1 hi dX6_lay_124 (fun H locs M124 eM hP hS => ?_)
      replace h := h M124 eM
      refine lv_aload_n hx hb dX6_lay_125 rfl (lv_at hl 0 rfl) ?_
      refine lv_iconst (v := (0 : Int32)) hx hb dX6_lay_126 (by decide) ?_
      refine me_put (ci := 6) (C := RX6) (T := TX6) (N := 22) hx hb hts in_X6_lay_X6 tyX6_ok nmX6 hown hK hI hP hS hT.1 rfl 11 (by decide) (hts _ kX6_lay_f114) rfl rfl rfl dX6_lay_127 (fun H locs M127 eM hP hS => ?_)
      replace h := s_put_inv h M127 eM
      refine lv_aload_n hx hb dX6_lay_130 rfl (lv_at hl 0 rfl) ?_
      refine lv_iconst (v := (0 : Int32)) hx hb dX6_lay_131 (by decide) ?_
      refine me_put (ci := 6) (C := RX6) (T := TX6) (N := 22) hx hb hts in_X6_lay_X6 tyX6_ok nmX6 hown hK hI hP hS hT.1 rfl 12 (by decide) (hts _ kX6_lay_f117) rfl rfl rfl dX6_lay_132 (fun H locs M132 eM hP hS => ?_)
      replace h := s_put_inv h M132 eM
      refine lv_aload_n hx hb dX6_lay_135 rfl (lv_at hl 0 rfl) ?_
      obtain ⟨u136, M136, h1, h⟩ := s_call_inv h
      refine me_callVv (As := []) (rest := []) ⟨hx, hb, hml, hown, hts⟩ (c_X6_begin hT h1) (cwV 0 hts gX6_lay_X6_begin rfl rfl rfl hd_X6_begin ⟨(Nat.le_of_ble_eq_true rfl), (Nat.le_of_ble_eq_true rfl)⟩) hK hI hP hS hT.1 rfl rfl hl.1 rfl (Nat.le_of_ble_eq_true rfl) dX6_lay_136 ⟨Nat.zero_le _, Nat.zero_le _⟩ (fun H locs hP hS => ?_)
      refine lv_aload_n hx hb dX6_lay_139 rfl (lv_at hl 0 rfl) ?_
      refine me_getr (ci := 6) (C := RX6) (T := TX6) (N := 22) hx hb hts in_X6_lay_X6 hown hK hP hT.1 rfl 2 (by decide) (hts _ kX6_lay_f13) rfl dX6_lay_140 ?_
      refine lv_iconst (v := (0 : Int32)) hx hb dX6_lay_143 (by decide) ?_
      obtain ⟨hi, h⟩ := s_ald_inv h
      refine me_ald hx hb hK hP hT.2.2.1 hi dX6_lay_144 (fun v144 ev => ?_)
      replace h := h v144 ev
      exact me_iret hx hb hr hlk hP hS h dX6_lay_145
    · rw [if_neg q] at h
      refine lv_aload_n hx hb dX6_lay_97 rfl (lv_at hl 0 rfl) ?_
      refine me_getr (ci := 6) (C := RX6) (T := TX6) (N := 22) hx hb hts in_X6_lay_X6 hown hK hP hT.1 rfl 5 (by decide) (hts _ kX6_lay_f22) rfl dX6_lay_98 ?_
      refine lv_iload_n hx hb dX6_lay_101 rfl (lv_at hl 1 rfl) ?_
      refine lv_aload_n hx hb dX6_lay_102 rfl (lv_at hl 0 rfl) ?_
      refine me_getr (ci := 6) (C := RX6) (T := TX6) (N := 22) hx hb hts in_X6_lay_X6 hown hK hP hT.1 rfl 5 (by decide) (hts _ kX6_lay_f22) rfl dX6_lay_103 ?_
      refine lv_bipush (v := (64 : Int32)) hx hb dX6_lay_106 (by decide) ?_
      refine lv_iload_n hx hb dX6_lay_108 rfl (lv_at hl 1 rfl) ?_
      refine lv_iadd hx hb dX6_lay_109 ?_
      obtain ⟨hi, h⟩ := s_ald_inv h
      refine me_ald hx hb hK hP hT.2.2.2.2.2.1 hi dX6_lay_110 (fun v110 ev => ?_)
      replace h := h v110 ev
      obtain ⟨hi, h⟩ := s_ast_inv h
      refine me_ast hx hb hK hI hP hS hT.2.2.2.2.2.1 hi dX6_lay_111 (fun H locs M111 eM hP hS => ?_)
      replace h := h M111 eM
      refine lv_iinc (k := 1) (v := (x1 + (1 : Int32))) (lv' := [(1, .int (x1 + (1 : Int32))), (0, .ref (ad t))]) hx hb dX6_lay_112 hl rfl rfl (by decide) rfl (fun ls hl => ?_)
      refine lv_goto (tgt := 91) hx hb dX6_lay_115 (by decide) ?_
      exact ih (x1 + (1 : Int32)) M111 h H locs ls hP hS (lv_sub hl [1, 0] rfl)
set_option maxRecDepth 100000 in
set_option maxHeartbeats 4000000 in
theorem w_X6_lay_47 {p : Program} {l : Launch} {e : Env} {s : State} {m : MethodId} {args : Array Value} {below : List Frame} {meth : Method} {c : Code} {D : va_G} {cI : ClassId} {ad : Nat → Nat} {L : List CDs} {r : Int32} {M' : Mem} (C0 : me_X p s m args meth c cX6_lay 2 (some .int) wsX6_lay RX6 D cI ad L) (t : Nat) (hT : is_X6 L t) : ∀ (n : Nat) (x1 : Int32) (M : Mem), X6_lay_47 t n x1 M = some (r, M') → me_W p l e rmX6_lay s m args below meth c D cI ad L (some (.int r)) M' 2 47 [(0, .ref (ad t)), (1, .int x1)] [] M := by
  obtain ⟨hx, hb, hr, hml, hown, hts, hlk, hK, hI⟩ := id C0
  intro n
  induction n with
  | zero =>
    intro x1 M h
    rw [X6_lay_47] at h
    cases h
  | succ n ih =>
    intro x1 M h
    rw [X6_lay_47] at h
    intro H locs ls hP hS hl
    refine lv_iload_n hx hb dX6_lay_47 rfl (lv_at hl 1 rfl) ?_
    refine lv_bipush (v := (8 : Int32)) hx hb dX6_lay_48 (by decide) ?_
    refine lv_icmp_ge (tgt := 89) hx hb dX6_lay_50 (by decide) (fun q => ?_) (fun q => ?_)
    · rw [if_pos q] at h
      refine lv_iconst (v := (0 : Int32)) hx hb dX6_lay_89 (by decide) ?_
      refine lv_istore_n (lv' := [(1, .int (0 : Int32)), (0, .ref (ad t))]) hx hb dX6_lay_90 rfl hl (by decide) rfl (fun ls hl => ?_)
      exact w_X6_lay_91 C0 t hT FU (0 : Int32) M h H locs ls hP hS (lv_sub hl [1, 0] rfl)
    · rw [if_neg q] at h
      refine lv_aload_n hx hb dX6_lay_53 rfl (lv_at hl 0 rfl) ?_
      refine me_getr (ci := 6) (C := RX6) (T := TX6) (N := 22) hx hb hts in_X6_lay_X6 hown hK hP hT.1 rfl 3 (by decide) (hts _ kX6_lay_f16) rfl dX6_lay_54 ?_
      refine lv_iload_n hx hb dX6_lay_57 rfl (lv_at hl 1 rfl) ?_
      refine lv_aload_n hx hb dX6_lay_58 rfl (lv_at hl 0 rfl) ?_
      refine me_getr (ci := 6) (C := RX6) (T := TX6) (N := 22) hx hb hts in_X6_lay_X6 hown hK hP hT.1 rfl 3 (by decide) (hts _ kX6_lay_f16) rfl dX6_lay_59 ?_
      refine lv_bipush (v := (8 : Int32)) hx hb dX6_lay_62 (by decide) ?_
      refine lv_iload_n hx hb dX6_lay_64 rfl (lv_at hl 1 rfl) ?_
      refine lv_iadd hx hb dX6_lay_65 ?_
      obtain ⟨hi, h⟩ := s_ald_inv h
      refine me_ald hx hb hK hP hT.2.2.2.1 hi dX6_lay_66 (fun v66 ev => ?_)
      replace h := h v66 ev
      obtain ⟨hi, h⟩ := s_ast_inv h
      refine me_ast hx hb hK hI hP hS hT.2.2.2.1 hi dX6_lay_67 (fun H locs M67 eM hP hS => ?_)
      replace h := h M67 eM
      refine lv_aload_n hx hb dX6_lay_68 rfl (lv_at hl 0 rfl) ?_
      refine me_getr (ci := 6) (C := RX6) (T := TX6) (N := 22) hx hb hts in_X6_lay_X6 hown hK hP hT.1 rfl 4 (by decide) (hts _ kX6_lay_f19) rfl dX6_lay_69 ?_
      refine lv_iload_n hx hb dX6_lay_72 rfl (lv_at hl 1 rfl) ?_
      refine lv_aload_n hx hb dX6_lay_73 rfl (lv_at hl 0 rfl) ?_
      refine me_getr (ci := 6) (C := RX6) (T := TX6) (N := 22) hx hb hts in_X6_lay_X6 hown hK hP hT.1 rfl 4 (by decide) (hts _ kX6_lay_f19) rfl dX6_lay_74 ?_
      refine lv_bipush (v := (8 : Int32)) hx hb dX6_lay_77 (by decide) ?_
      refine lv_iload_n hx hb dX6_lay_79 rfl (lv_at hl 1 rfl) ?_
      refine lv_iadd hx hb dX6_lay_80 ?_
      obtain ⟨hi, h⟩ := s_ald_inv h
      refine me_ald hx hb hK hP hT.2.2.2.2.1 hi dX6_lay_81 (fun v81 ev => ?_)
      replace h := h v81 ev
      obtain ⟨hi, h⟩ := s_ast_inv h
      refine me_ast hx hb hK hI hP hS hT.2.2.2.2.1 hi dX6_lay_82 (fun H locs M82 eM hP hS => ?_)
      replace h := h M82 eM
      refine lv_iinc (k := 1) (v := (x1 + (1 : Int32))) (lv' := [(1, .int (x1 + (1 : Int32))), (0, .ref (ad t))]) hx hb dX6_lay_83 hl rfl rfl (by decide) rfl (fun ls hl => ?_)
      refine lv_goto (tgt := 47) hx hb dX6_lay_86 (by decide) ?_
      exact ih (x1 + (1 : Int32)) M82 h H locs ls hP hS (lv_sub hl [1, 0] rfl)
set_option maxRecDepth 100000 in
set_option maxHeartbeats 4000000 in
theorem w_X6_lay {p : Program} {l : Launch} {e : Env} {s : State} {m : MethodId} {args : Array Value} {below : List Frame} {meth : Method} {c : Code} {D : va_G} {cI : ClassId} {ad : Nat → Nat} {L : List CDs} {r : Int32} {M' : Mem} (C0 : me_X p s m args meth c cX6_lay 2 (some .int) wsX6_lay RX6 D cI ad L) (t : Nat) (hT : is_X6 L t) : ∀  (M : Mem), X6_lay t M = some (r, M') → me_W p l e rmX6_lay s m args below meth c D cI ad L (some (.int r)) M' 2 0 [(0, .ref (ad t))] [] M := by
  obtain ⟨hx, hb, hr, hml, hown, hts, hlk, hK, hI⟩ := id C0
  intro M h
  unfold X6_lay at h
  intro H locs ls hP hS hl
  refine lv_aload_n hx hb dX6_lay_0 rfl (lv_at hl 0 rfl) ?_
  obtain ⟨v1, M1, h1, h⟩ := s_call_inv h
  refine me_callVi (As := []) (rest := []) ⟨hx, hb, hml, hown, hts⟩ (c_X6_readAll hT h1) (cwV 0 hts gX6_lay_X6_readAll rfl rfl rfl hd_X6_readAll ⟨(Nat.le_of_ble_eq_true rfl), (Nat.le_of_ble_eq_true rfl)⟩) hK hI hP hS hT.1 rfl rfl hl.1 rfl (Nat.le_of_ble_eq_true rfl) dX6_lay_1 ⟨Nat.zero_le _, Nat.zero_le _⟩ (fun H locs hP hS => ?_)
  refine lv_bipush (v := (-4 : Int32)) hx hb dX6_lay_4 (by decide) ?_
  refine lv_icmp_ne (tgt := 18) hx hb dX6_lay_6 (by decide) (fun q => ?_) (fun q => ?_)
  · rw [if_pos q] at h
    refine lv_bipush (v := (-2 : Int32)) hx hb dX6_lay_18 (by decide) ?_
    exact me_iret hx hb hr hlk hP hS h dX6_lay_20
  · rw [if_neg (not_not_intro q)] at h
    refine lv_aload_n hx hb dX6_lay_9 rfl (lv_at hl 0 rfl) ?_
    refine me_getr (ci := 6) (C := RX6) (T := TX6) (N := 22) hx hb hts in_X6_lay_X6 hown hK hP hT.1 rfl 2 (by decide) (hts _ kX6_lay_f13) rfl dX6_lay_10 ?_
    refine lv_iconst (v := (1 : Int32)) hx hb dX6_lay_13 (by decide) ?_
    obtain ⟨hi, h⟩ := s_ald_inv h
    refine me_ald hx hb hK hP hT.2.2.1 hi dX6_lay_14 (fun v14 ev => ?_)
    replace h := h v14 ev
    refine lv_if_ne (tgt := 21) hx hb dX6_lay_15 (by decide) (fun q => ?_) (fun q => ?_)
    · rw [if_pos q] at h
      refine lv_aload_n hx hb dX6_lay_21 rfl (lv_at hl 0 rfl) ?_
      refine me_getr (ci := 6) (C := RX6) (T := TX6) (N := 22) hx hb hts in_X6_lay_X6 hown hK hP hT.1 rfl 2 (by decide) (hts _ kX6_lay_f13) rfl dX6_lay_22 ?_
      refine lv_iconst (v := (0 : Int32)) hx hb dX6_lay_25 (by decide) ?_
      refine lv_aload_n hx hb dX6_lay_26 rfl (lv_at hl 0 rfl) ?_
      refine me_getr (ci := 6) (C := RX6) (T := TX6) (N := 22) hx hb hts in_X6_lay_X6 hown hK hP hT.1 rfl 2 (by decide) (hts _ kX6_lay_f13) rfl dX6_lay_27 ?_
      refine lv_iconst (v := (1 : Int32)) hx hb dX6_lay_30 (by decide) ?_
      obtain ⟨hi, h⟩ := s_ald_inv h
      refine me_ald hx hb hK hP hT.2.2.1 hi dX6_lay_31 (fun v31 ev => ?_)
      replace h := h v31 ev
      obtain ⟨hi, h⟩ := s_ast_inv h
      refine me_ast hx hb hK hI hP hS hT.2.2.1 hi dX6_lay_32 (fun H locs M32 eM hP hS => ?_)
      replace h := h M32 eM
      refine lv_aload_n hx hb dX6_lay_33 rfl (lv_at hl 0 rfl) ?_
      refine me_getr (ci := 6) (C := RX6) (T := TX6) (N := 22) hx hb hts in_X6_lay_X6 hown hK hP hT.1 rfl 6 (by decide) (hts _ kX6_lay_f25) rfl dX6_lay_34 ?_
      refine lv_iconst (v := (0 : Int32)) hx hb dX6_lay_37 (by decide) ?_
      refine lv_aload_n hx hb dX6_lay_38 rfl (lv_at hl 0 rfl) ?_
      refine me_getr (ci := 6) (C := RX6) (T := TX6) (N := 22) hx hb hts in_X6_lay_X6 hown hK hP hT.1 rfl 6 (by decide) (hts _ kX6_lay_f25) rfl dX6_lay_39 ?_
      refine lv_iconst (v := (1 : Int32)) hx hb dX6_lay_42 (by decide) ?_
      obtain ⟨hi, h⟩ := s_ald_inv h
      refine me_ald hx hb hK hP hT.2.2.2.2.2.2.1 hi dX6_lay_43 (fun v43 ev => ?_)
      replace h := h v43 ev
      obtain ⟨hi, h⟩ := s_ast_inv h
      refine me_ast hx hb hK hI hP hS hT.2.2.2.2.2.2.1 hi dX6_lay_44 (fun H locs M44 eM hP hS => ?_)
      replace h := h M44 eM
      refine lv_iconst (v := (0 : Int32)) hx hb dX6_lay_45 (by decide) ?_
      refine lv_istore_n (lv' := [(1, .int (0 : Int32)), (0, .ref (ad t))]) hx hb dX6_lay_46 rfl hl (by decide) rfl (fun ls hl => ?_)
      exact w_X6_lay_47 C0 t hT FU (0 : Int32) M44 h H locs ls hP hS (lv_sub hl [1, 0] rfl)
    · rw [if_neg (not_not_intro q)] at h
      refine lv_bipush (v := (-2 : Int32)) hx hb dX6_lay_18 (by decide) ?_
      exact me_iret hx hb hr hlk hP hS h dX6_lay_20
theorem c_X6_lay {l : Launch} {D : va_G} {cI : ClassId} {ad : Nat → Nat} {L : List CDs} {t : Nat} (hT : is_X6 L t)  {M M' : Mem} {r : Int32} (h : X6_lay t M = some (r, M')) : me_Met l yX6_lay wsX6_lay rmX6_lay D cI ad L [.ref (ad t)] (some (.int r)) M M' :=
  me_ofW (by decide) rfl (Nat.le_of_ble_eq_true rfl) (fun p e s m below meth c C0 => w_X6_lay C0 t hT M h)
abbrev rmX6_isPerson : Room := { frames := 1, cells := 0, slots := 0, locals := 25 }
theorem kX6_isPerson_f13 : (Cond.fieldLink RX6 13 "LadderOfBowsModel" "persons" "[I") ∈ wsX6_isPerson := List.mem_of_getElem? (i := 1) rfl
theorem in_X6_isPerson_X6 : ∀ w ∈ wsX60, w ∈ wsX6_isPerson := by decide +kernel
theorem hd_X6_isPerson : yX6_isPerson.cls = RX6 ∧ yX6_isPerson.cls ≠ "java/lang/invoke/MethodHandle" ∧ yX6_isPerson.cls ≠ "java/lang/invoke/VarHandle" ∧ (parseMethodDescriptor yX6_isPerson.desc).map (fun d => d.parameters.length) = some 1 := by decide +kernel
set_option maxRecDepth 100000 in
set_option maxHeartbeats 4000000 in
theorem w_X6_isPerson {p : Program} {l : Launch} {e : Env} {s : State} {m : MethodId} {args : Array Value} {below : List Frame} {meth : Method} {c : Code} {D : va_G} {cI : ClassId} {ad : Nat → Nat} {L : List CDs} {r : Int32} {M' : Mem} (C0 : me_X p s m args meth c cX6_isPerson 2 (some .boolean) wsX6_isPerson RX6 D cI ad L) (t : Nat) (hT : is_X6 L t) (x1 : Int32) : ∀  (M : Mem), X6_isPerson t x1 M = some (r, M') → me_W p l e rmX6_isPerson s m args below meth c D cI ad L (some (.int r)) M' 2 0 [(0, .ref (ad t)), (1, .int x1)] [] M := by
  obtain ⟨hx, hb, hr, hml, hown, hts, hlk, hK, hI⟩ := id C0
  intro M h
  unfold X6_isPerson at h
  intro H locs ls hP hS hl
  refine lv_iload_n hx hb dX6_isPerson_0 rfl (lv_at hl 1 rfl) ?_
  refine lv_i2l (v := (x1).toInt64) hx hb dX6_isPerson_1 rfl ?_
  refine lv_lconst (v := (0 : Int64)) hx hb dX6_isPerson_2 (by decide) ?_
  refine lv_aload_n hx hb dX6_isPerson_3 rfl (lv_at hl 0 rfl) ?_
  refine me_getr (ci := 6) (C := RX6) (T := TX6) (N := 22) hx hb hts in_X6_isPerson_X6 hown hK hP hT.1 rfl 2 (by decide) (hts _ kX6_isPerson_f13) rfl dX6_isPerson_4 ?_
  refine lv_iconst (v := (0 : Int32)) hx hb dX6_isPerson_7 (by decide) ?_
  obtain ⟨hi, h⟩ := s_ald_inv h
  refine me_ald hx hb hK hP hT.2.2.1 hi dX6_isPerson_8 (fun v8 ev => ?_)
  replace h := h v8 ev
  refine lv_iconst (v := (1 : Int32)) hx hb dX6_isPerson_9 (by decide) ?_
  refine lv_isub hx hb dX6_isPerson_10 ?_
  refine lv_i2l (v := ((v8 - (1 : Int32))).toInt64) hx hb dX6_isPerson_11 rfl ?_
  obtain ⟨v12, M12, h1, h⟩ := s_call_inv h
  refine me_callSi (As := [.long ((x1).toInt64), .long (0 : Int64), .long (((v8 - (1 : Int32))).toInt64)]) (rest := []) ⟨hx, hb, hml, hown, hts⟩ (c_X6_in h1) (va_cwS 3 hts gX6_isPerson_X6_in rfl rfl rfl hd_X6_in.2 ⟨(Nat.le_of_ble_eq_true rfl), (Nat.le_of_ble_eq_true rfl)⟩) hK hI hP hS rfl hl.1 rfl (Nat.le_of_ble_eq_true rfl) dX6_isPerson_12 ⟨Nat.zero_le _, Nat.zero_le _⟩ (fun H locs hP hS => ?_)
  exact me_zret hx hb hr hlk hP hS h dX6_isPerson_15
theorem c_X6_isPerson {l : Launch} {D : va_G} {cI : ClassId} {ad : Nat → Nat} {L : List CDs} {t : Nat} (hT : is_X6 L t) {x1 : Int32} {M M' : Mem} {r : Int32} (h : X6_isPerson t x1 M = some (r, M')) : me_Met l yX6_isPerson wsX6_isPerson rmX6_isPerson D cI ad L [.ref (ad t), .int x1] (some (.int r)) M M' :=
  me_ofW (by decide) rfl (Nat.le_of_ble_eq_true rfl) (fun p e s m below meth c C0 => w_X6_isPerson C0 t hT x1 M h)
abbrev rmX6_areTwo : Room := { frames := 2, cells := 0, slots := 0, locals := 46 }
theorem hd_X6_areTwo : yX6_areTwo.cls = RX6 ∧ yX6_areTwo.cls ≠ "java/lang/invoke/MethodHandle" ∧ yX6_areTwo.cls ≠ "java/lang/invoke/VarHandle" ∧ (parseMethodDescriptor yX6_areTwo.desc).map (fun d => d.parameters.length) = some 2 := by decide +kernel
set_option maxRecDepth 100000 in
set_option maxHeartbeats 4000000 in
theorem w_X6_areTwo {p : Program} {l : Launch} {e : Env} {s : State} {m : MethodId} {args : Array Value} {below : List Frame} {meth : Method} {c : Code} {D : va_G} {cI : ClassId} {ad : Nat → Nat} {L : List CDs} {r : Int32} {M' : Mem} (C0 : me_X p s m args meth c cX6_areTwo 3 (some .boolean) wsX6_areTwo RX6 D cI ad L) (t : Nat) (hT : is_X6 L t) (x1 : Int32) (x2 : Int32) : ∀  (M : Mem), X6_areTwo t x1 x2 M = some (r, M') → me_W p l e rmX6_areTwo s m args below meth c D cI ad L (some (.int r)) M' 3 0 [(0, .ref (ad t)), (1, .int x1), (2, .int x2)] [] M := by
  obtain ⟨hx, hb, hr, hml, hown, hts, hlk, hK, hI⟩ := id C0
  intro M h
  unfold X6_areTwo at h
  intro H locs ls hP hS hl
  refine lv_aload_n hx hb dX6_areTwo_0 rfl (lv_at hl 0 rfl) ?_
  refine lv_iload_n hx hb dX6_areTwo_1 rfl (lv_at hl 1 rfl) ?_
  obtain ⟨v2, M2, h1, h⟩ := s_call_inv h
  refine me_callVi (As := [.int x1]) (rest := []) ⟨hx, hb, hml, hown, hts⟩ (c_X6_isPerson hT h1) (cwV 1 hts gX6_areTwo_X6_isPerson rfl rfl rfl hd_X6_isPerson ⟨(Nat.le_of_ble_eq_true rfl), (Nat.le_of_ble_eq_true rfl)⟩) hK hI hP hS hT.1 rfl rfl hl.1 rfl (Nat.le_of_ble_eq_true rfl) dX6_areTwo_2 ⟨Nat.zero_le _, Nat.zero_le _⟩ (fun H locs hP hS => ?_)
  refine lv_if_eq (tgt := 25) hx hb dX6_areTwo_5 (by decide) (fun q => ?_) (fun q => ?_)
  · rw [if_pos q] at h
    refine lv_iconst (v := (0 : Int32)) hx hb dX6_areTwo_25 (by decide) ?_
    exact me_zret hx hb hr hlk hP hS h dX6_areTwo_26
  · rw [if_neg q] at h
    refine lv_aload_n hx hb dX6_areTwo_8 rfl (lv_at hl 0 rfl) ?_
    refine lv_iload_n hx hb dX6_areTwo_9 rfl (lv_at hl 2 rfl) ?_
    obtain ⟨v10, M10, h1, h⟩ := s_call_inv h
    refine me_callVi (As := [.int x2]) (rest := []) ⟨hx, hb, hml, hown, hts⟩ (c_X6_isPerson hT h1) (cwV 1 hts gX6_areTwo_X6_isPerson rfl rfl rfl hd_X6_isPerson ⟨(Nat.le_of_ble_eq_true rfl), (Nat.le_of_ble_eq_true rfl)⟩) hK hI hP hS hT.1 rfl rfl hl.1 rfl (Nat.le_of_ble_eq_true rfl) dX6_areTwo_10 ⟨Nat.zero_le _, Nat.zero_le _⟩ (fun H locs hP hS => ?_)
    refine lv_if_eq (tgt := 25) hx hb dX6_areTwo_13 (by decide) (fun q => ?_) (fun q => ?_)
    · rw [if_pos q] at h
      refine lv_iconst (v := (0 : Int32)) hx hb dX6_areTwo_25 (by decide) ?_
      exact me_zret hx hb hr hlk hP hS h dX6_areTwo_26
    · rw [if_neg q] at h
      refine lv_iload_n hx hb dX6_areTwo_16 rfl (lv_at hl 1 rfl) ?_
      refine lv_iload_n hx hb dX6_areTwo_17 rfl (lv_at hl 2 rfl) ?_
      refine lv_icmp_eq (tgt := 25) hx hb dX6_areTwo_18 (by decide) (fun q => ?_) (fun q => ?_)
      · rw [if_pos q] at h
        refine lv_iconst (v := (0 : Int32)) hx hb dX6_areTwo_25 (by decide) ?_
        exact me_zret hx hb hr hlk hP hS h dX6_areTwo_26
      · rw [if_neg q] at h
        refine lv_iconst (v := (1 : Int32)) hx hb dX6_areTwo_21 (by decide) ?_
        refine lv_goto (tgt := 26) hx hb dX6_areTwo_22 (by decide) ?_
        exact me_zret hx hb hr hlk hP hS h dX6_areTwo_26
theorem c_X6_areTwo {l : Launch} {D : va_G} {cI : ClassId} {ad : Nat → Nat} {L : List CDs} {t : Nat} (hT : is_X6 L t) {x1 : Int32} {x2 : Int32} {M M' : Mem} {r : Int32} (h : X6_areTwo t x1 x2 M = some (r, M')) : me_Met l yX6_areTwo wsX6_areTwo rmX6_areTwo D cI ad L [.ref (ad t), .int x1, .int x2] (some (.int r)) M M' :=
  me_ofW (by decide) rfl (Nat.le_of_ble_eq_true rfl) (fun p e s m below meth c C0 => w_X6_areTwo C0 t hT x1 x2 M h)
abbrev rmX6_owedTo : Room := { frames := 1, cells := 0, slots := 0, locals := 23 }
theorem hd_X6_owedTo : yX6_owedTo.cls = RX6 ∧ yX6_owedTo.cls ≠ "java/lang/invoke/MethodHandle" ∧ yX6_owedTo.cls ≠ "java/lang/invoke/VarHandle" ∧ (parseMethodDescriptor yX6_owedTo.desc).map (fun d => d.parameters.length) = some 2 := by decide +kernel
set_option maxRecDepth 100000 in
set_option maxHeartbeats 4000000 in
theorem w_X6_owedTo_5 {p : Program} {l : Launch} {e : Env} {s : State} {m : MethodId} {args : Array Value} {below : List Frame} {meth : Method} {c : Code} {D : va_G} {cI : ClassId} {ad : Nat → Nat} {L : List CDs} {r : Int32} {M' : Mem} (C0 : me_X p s m args meth c cX6_owedTo 5 (some .int) wsX6_owedTo RX6 D cI ad L) (t : Nat) (hT : is_X6 L t) (x1 : Int32) (x2 : Int32) : ∀ (n : Nat) (x3 : Int32) (x4 : Int32) (M : Mem), X6_owedTo_5 t x1 x2 n x3 x4 M = some (r, M') → me_W p l e rmX6_owedTo s m args below meth c D cI ad L (some (.int r)) M' 5 5 [(0, .ref (ad t)), (1, .int x1), (2, .int x2), (3, .int x3), (4, .int x4)] [] M := by
  obtain ⟨hx, hb, hr, hml, hown, hts, hlk, hK, hI⟩ := id C0
  intro n
  induction n with
  | zero =>
    intro x3 x4 M h
    rw [X6_owedTo_5] at h
    cases h
  | succ n ih =>
    intro x3 x4 M h
    rw [X6_owedTo_5] at h
    intro H locs ls hP hS hl
    refine lv_iload hx hb dX6_owedTo_5 (lv_at hl 4 rfl) ?_
    refine lv_bipush (v := (8 : Int32)) hx hb dX6_owedTo_7 (by decide) ?_
    refine lv_icmp_ge (tgt := 29) hx hb dX6_owedTo_9 (by decide) (fun q => ?_) (fun q => ?_)
    · rw [if_pos q] at h
      refine lv_iload_n hx hb dX6_owedTo_29 rfl (lv_at hl 3 rfl) ?_
      exact me_iret hx hb hr hlk hP hS h dX6_owedTo_30
    · rw [if_neg q] at h
      refine lv_iload_n hx hb dX6_owedTo_12 rfl (lv_at hl 3 rfl) ?_
      refine lv_aload_n hx hb dX6_owedTo_13 rfl (lv_at hl 0 rfl) ?_
      refine lv_iload_n hx hb dX6_owedTo_14 rfl (lv_at hl 1 rfl) ?_
      refine lv_iload hx hb dX6_owedTo_15 (lv_at hl 4 rfl) ?_
      refine lv_iload_n hx hb dX6_owedTo_17 rfl (lv_at hl 2 rfl) ?_
      obtain ⟨v18, M18, h1, h⟩ := s_call_inv h
      refine me_callVi (As := [.int x1, .int x4, .int x2]) (rest := [.int x3]) ⟨hx, hb, hml, hown, hts⟩ (c_X6_debt hT h1) (cwV 3 hts gX6_owedTo_X6_debt rfl rfl rfl hd_X6_debt ⟨(Nat.le_of_ble_eq_true rfl), (Nat.le_of_ble_eq_true rfl)⟩) hK hI hP hS hT.1 rfl rfl hl.1 rfl (Nat.le_of_ble_eq_true rfl) dX6_owedTo_18 ⟨Nat.zero_le _, Nat.zero_le _⟩ (fun H locs hP hS => ?_)
      refine lv_iadd hx hb dX6_owedTo_21 ?_
      refine lv_topi (fun x3_22 ev => ?_)
      replace h := s_let_inv h x3_22 ev
      refine lv_istore_n (lv' := [(3, .int x3_22), (0, .ref (ad t)), (1, .int x1), (2, .int x2), (4, .int x4)]) hx hb dX6_owedTo_22 rfl hl (by decide) rfl (fun ls hl => ?_)
      refine lv_iinc (k := 4) (v := (x4 + (1 : Int32))) (lv' := [(4, .int (x4 + (1 : Int32))), (3, .int x3_22), (0, .ref (ad t)), (1, .int x1), (2, .int x2)]) hx hb dX6_owedTo_23 hl rfl rfl (by decide) rfl (fun ls hl => ?_)
      refine lv_goto (tgt := 5) hx hb dX6_owedTo_26 (by decide) ?_
      exact ih x3_22 (x4 + (1 : Int32)) M18 h H locs ls hP hS (lv_sub hl [2, 3, 4, 1, 0] rfl)
set_option maxRecDepth 100000 in
set_option maxHeartbeats 4000000 in
theorem w_X6_owedTo {p : Program} {l : Launch} {e : Env} {s : State} {m : MethodId} {args : Array Value} {below : List Frame} {meth : Method} {c : Code} {D : va_G} {cI : ClassId} {ad : Nat → Nat} {L : List CDs} {r : Int32} {M' : Mem} (C0 : me_X p s m args meth c cX6_owedTo 5 (some .int) wsX6_owedTo RX6 D cI ad L) (t : Nat) (hT : is_X6 L t) (x1 : Int32) (x2 : Int32) : ∀  (M : Mem), X6_owedTo t x1 x2 M = some (r, M') → me_W p l e rmX6_owedTo s m args below meth c D cI ad L (some (.int r)) M' 5 0 [(0, .ref (ad t)), (1, .int x1), (2, .int x2)] [] M := by
  obtain ⟨hx, hb, hr, hml, hown, hts, hlk, hK, hI⟩ := id C0
  intro M h
  unfold X6_owedTo at h
  intro H locs ls hP hS hl
  refine lv_iconst (v := (0 : Int32)) hx hb dX6_owedTo_0 (by decide) ?_
  refine lv_istore_n (lv' := [(3, .int (0 : Int32)), (0, .ref (ad t)), (1, .int x1), (2, .int x2)]) hx hb dX6_owedTo_1 rfl hl (by decide) rfl (fun ls hl => ?_)
  refine lv_iconst (v := (0 : Int32)) hx hb dX6_owedTo_2 (by decide) ?_
  refine lv_istore (lv' := [(4, .int (0 : Int32)), (3, .int (0 : Int32)), (0, .ref (ad t)), (1, .int x1), (2, .int x2)]) hx hb dX6_owedTo_3 hl (by decide) rfl (fun ls hl => ?_)
  exact w_X6_owedTo_5 C0 t hT x1 x2 FU (0 : Int32) (0 : Int32) M h H locs ls hP hS (lv_sub hl [2, 3, 4, 1, 0] rfl)
theorem c_X6_owedTo {l : Launch} {D : va_G} {cI : ClassId} {ad : Nat → Nat} {L : List CDs} {t : Nat} (hT : is_X6 L t) {x1 : Int32} {x2 : Int32} {M M' : Mem} {r : Int32} (h : X6_owedTo t x1 x2 M = some (r, M')) : me_Met l yX6_owedTo wsX6_owedTo rmX6_owedTo D cI ad L [.ref (ad t), .int x1, .int x2] (some (.int r)) M M' :=
  me_ofW (by decide) rfl (Nat.le_of_ble_eq_true rfl) (fun p e s m below meth c C0 => w_X6_owedTo C0 t hT x1 x2 M h)
abbrev rmX6_allOf : Room := { frames := 2, cells := 0, slots := 0, locals := 47 }
theorem hd_X6_allOf : yX6_allOf.cls = RX6 ∧ yX6_allOf.cls ≠ "java/lang/invoke/MethodHandle" ∧ yX6_allOf.cls ≠ "java/lang/invoke/VarHandle" ∧ (parseMethodDescriptor yX6_allOf.desc).map (fun d => d.parameters.length) = some 1 := by decide +kernel
set_option maxRecDepth 100000 in
set_option maxHeartbeats 4000000 in
theorem w_X6_allOf_4 {p : Program} {l : Launch} {e : Env} {s : State} {m : MethodId} {args : Array Value} {below : List Frame} {meth : Method} {c : Code} {D : va_G} {cI : ClassId} {ad : Nat → Nat} {L : List CDs} {r : Int32} {M' : Mem} (C0 : me_X p s m args meth c cX6_allOf 4 (some .int) wsX6_allOf RX6 D cI ad L) (t : Nat) (hT : is_X6 L t) (x1 : Int32) : ∀ (n : Nat) (x2 : Int32) (x3 : Int32) (M : Mem), X6_allOf_4 t x1 n x2 x3 M = some (r, M') → me_W p l e rmX6_allOf s m args below meth c D cI ad L (some (.int r)) M' 4 4 [(0, .ref (ad t)), (1, .int x1), (2, .int x2), (3, .int x3)] [] M := by
  obtain ⟨hx, hb, hr, hml, hown, hts, hlk, hK, hI⟩ := id C0
  intro n
  induction n with
  | zero =>
    intro x2 x3 M h
    rw [X6_allOf_4] at h
    cases h
  | succ n ih =>
    intro x2 x3 M h
    rw [X6_allOf_4] at h
    intro H locs ls hP hS hl
    refine lv_iload_n hx hb dX6_allOf_4 rfl (lv_at hl 3 rfl) ?_
    refine lv_bipush (v := (8 : Int32)) hx hb dX6_allOf_5 (by decide) ?_
    refine lv_icmp_ge (tgt := 25) hx hb dX6_allOf_7 (by decide) (fun q => ?_) (fun q => ?_)
    · rw [if_pos q] at h
      refine lv_iload_n hx hb dX6_allOf_25 rfl (lv_at hl 2 rfl) ?_
      exact me_iret hx hb hr hlk hP hS h dX6_allOf_26
    · rw [if_neg q] at h
      refine lv_iload_n hx hb dX6_allOf_10 rfl (lv_at hl 2 rfl) ?_
      refine lv_aload_n hx hb dX6_allOf_11 rfl (lv_at hl 0 rfl) ?_
      refine lv_iload_n hx hb dX6_allOf_12 rfl (lv_at hl 1 rfl) ?_
      refine lv_iload_n hx hb dX6_allOf_13 rfl (lv_at hl 3 rfl) ?_
      obtain ⟨v14, M14, h1, h⟩ := s_call_inv h
      refine me_callVi (As := [.int x1, .int x3]) (rest := [.int x2]) ⟨hx, hb, hml, hown, hts⟩ (c_X6_debtsOf hT h1) (cwV 2 hts gX6_allOf_X6_debtsOf rfl rfl rfl hd_X6_debtsOf ⟨(Nat.le_of_ble_eq_true rfl), (Nat.le_of_ble_eq_true rfl)⟩) hK hI hP hS hT.1 rfl rfl hl.1 rfl (Nat.le_of_ble_eq_true rfl) dX6_allOf_14 ⟨Nat.zero_le _, Nat.zero_le _⟩ (fun H locs hP hS => ?_)
      refine lv_iadd hx hb dX6_allOf_17 ?_
      refine lv_topi (fun x2_18 ev => ?_)
      replace h := s_let_inv h x2_18 ev
      refine lv_istore_n (lv' := [(2, .int x2_18), (0, .ref (ad t)), (1, .int x1), (3, .int x3)]) hx hb dX6_allOf_18 rfl hl (by decide) rfl (fun ls hl => ?_)
      refine lv_iinc (k := 3) (v := (x3 + (1 : Int32))) (lv' := [(3, .int (x3 + (1 : Int32))), (2, .int x2_18), (0, .ref (ad t)), (1, .int x1)]) hx hb dX6_allOf_19 hl rfl rfl (by decide) rfl (fun ls hl => ?_)
      refine lv_goto (tgt := 4) hx hb dX6_allOf_22 (by decide) ?_
      exact ih x2_18 (x3 + (1 : Int32)) M14 h H locs ls hP hS (lv_sub hl [2, 3, 1, 0] rfl)
set_option maxRecDepth 100000 in
set_option maxHeartbeats 4000000 in
theorem w_X6_allOf {p : Program} {l : Launch} {e : Env} {s : State} {m : MethodId} {args : Array Value} {below : List Frame} {meth : Method} {c : Code} {D : va_G} {cI : ClassId} {ad : Nat → Nat} {L : List CDs} {r : Int32} {M' : Mem} (C0 : me_X p s m args meth c cX6_allOf 4 (some .int) wsX6_allOf RX6 D cI ad L) (t : Nat) (hT : is_X6 L t) (x1 : Int32) : ∀  (M : Mem), X6_allOf t x1 M = some (r, M') → me_W p l e rmX6_allOf s m args below meth c D cI ad L (some (.int r)) M' 4 0 [(0, .ref (ad t)), (1, .int x1)] [] M := by
  obtain ⟨hx, hb, hr, hml, hown, hts, hlk, hK, hI⟩ := id C0
  intro M h
  unfold X6_allOf at h
  intro H locs ls hP hS hl
  refine lv_iconst (v := (0 : Int32)) hx hb dX6_allOf_0 (by decide) ?_
  refine lv_istore_n (lv' := [(2, .int (0 : Int32)), (0, .ref (ad t)), (1, .int x1)]) hx hb dX6_allOf_1 rfl hl (by decide) rfl (fun ls hl => ?_)
  refine lv_iconst (v := (0 : Int32)) hx hb dX6_allOf_2 (by decide) ?_
  refine lv_istore_n (lv' := [(3, .int (0 : Int32)), (2, .int (0 : Int32)), (0, .ref (ad t)), (1, .int x1)]) hx hb dX6_allOf_3 rfl hl (by decide) rfl (fun ls hl => ?_)
  exact w_X6_allOf_4 C0 t hT x1 FU (0 : Int32) (0 : Int32) M h H locs ls hP hS (lv_sub hl [2, 3, 1, 0] rfl)
theorem c_X6_allOf {l : Launch} {D : va_G} {cI : ClassId} {ad : Nat → Nat} {L : List CDs} {t : Nat} (hT : is_X6 L t) {x1 : Int32} {M M' : Mem} {r : Int32} (h : X6_allOf t x1 M = some (r, M')) : me_Met l yX6_allOf wsX6_allOf rmX6_allOf D cI ad L [.ref (ad t), .int x1] (some (.int r)) M M' :=
  me_ofW (by decide) rfl (Nat.le_of_ble_eq_true rfl) (fun p e s m below meth c C0 => w_X6_allOf C0 t hT x1 M h)
abbrev rmX6_maySpeak : Room := { frames := 2, cells := 0, slots := 0, locals := 43 }
theorem hd_X6_maySpeak : yX6_maySpeak.cls = RX6 ∧ yX6_maySpeak.cls ≠ "java/lang/invoke/MethodHandle" ∧ yX6_maySpeak.cls ≠ "java/lang/invoke/VarHandle" ∧ (parseMethodDescriptor yX6_maySpeak.desc).map (fun d => d.parameters.length) = some 3 := by decide +kernel
set_option maxRecDepth 100000 in
set_option maxHeartbeats 4000000 in
theorem w_X6_maySpeak {p : Program} {l : Launch} {e : Env} {s : State} {m : MethodId} {args : Array Value} {below : List Frame} {meth : Method} {c : Code} {D : va_G} {cI : ClassId} {ad : Nat → Nat} {L : List CDs} {r : Int32} {M' : Mem} (C0 : me_X p s m args meth c cX6_maySpeak 4 (some .boolean) wsX6_maySpeak RX6 D cI ad L) (t : Nat) (hT : is_X6 L t) (x1 : Int32) (x2 : Int32) (x3 : Int32) : ∀  (M : Mem), X6_maySpeak t x1 x2 x3 M = some (r, M') → me_W p l e rmX6_maySpeak s m args below meth c D cI ad L (some (.int r)) M' 4 0 [(0, .ref (ad t)), (1, .int x1), (2, .int x2), (3, .int x3)] [] M := by
  obtain ⟨hx, hb, hr, hml, hown, hts, hlk, hK, hI⟩ := id C0
  intro M h
  unfold X6_maySpeak at h
  intro H locs ls hP hS hl
  refine lv_iload_n hx hb dX6_maySpeak_0 rfl (lv_at hl 2 rfl) ?_
  refine lv_iload_n hx hb dX6_maySpeak_1 rfl (lv_at hl 3 rfl) ?_
  refine lv_icmp_eq (tgt := 47) hx hb dX6_maySpeak_2 (by decide) (fun q => ?_) (fun q => ?_)
  · rw [if_pos q] at h
    refine lv_iconst (v := (0 : Int32)) hx hb dX6_maySpeak_47 (by decide) ?_
    exact me_zret hx hb hr hlk hP hS h dX6_maySpeak_48
  · rw [if_neg q] at h
    refine lv_aload_n hx hb dX6_maySpeak_5 rfl (lv_at hl 0 rfl) ?_
    refine lv_iload_n hx hb dX6_maySpeak_6 rfl (lv_at hl 1 rfl) ?_
    refine lv_iload_n hx hb dX6_maySpeak_7 rfl (lv_at hl 2 rfl) ?_
    obtain ⟨v8, M8, h1, h⟩ := s_call_inv h
    refine me_callVi (As := [.int x1, .int x2]) (rest := []) ⟨hx, hb, hml, hown, hts⟩ (c_X6_isAlive hT h1) (cwV 2 hts gX6_maySpeak_X6_isAlive rfl rfl rfl hd_X6_isAlive ⟨(Nat.le_of_ble_eq_true rfl), (Nat.le_of_ble_eq_true rfl)⟩) hK hI hP hS hT.1 rfl rfl hl.1 rfl (Nat.le_of_ble_eq_true rfl) dX6_maySpeak_8 ⟨Nat.zero_le _, Nat.zero_le _⟩ (fun H locs hP hS => ?_)
    refine lv_if_eq (tgt := 47) hx hb dX6_maySpeak_11 (by decide) (fun q => ?_) (fun q => ?_)
    · rw [if_pos q] at h
      refine lv_iconst (v := (0 : Int32)) hx hb dX6_maySpeak_47 (by decide) ?_
      exact me_zret hx hb hr hlk hP hS h dX6_maySpeak_48
    · rw [if_neg q] at h
      refine lv_aload_n hx hb dX6_maySpeak_14 rfl (lv_at hl 0 rfl) ?_
      refine lv_iload_n hx hb dX6_maySpeak_15 rfl (lv_at hl 1 rfl) ?_
      refine lv_iload_n hx hb dX6_maySpeak_16 rfl (lv_at hl 3 rfl) ?_
      obtain ⟨v17, M17, h1, h⟩ := s_call_inv h
      refine me_callVi (As := [.int x1, .int x3]) (rest := []) ⟨hx, hb, hml, hown, hts⟩ (c_X6_isAlive hT h1) (cwV 2 hts gX6_maySpeak_X6_isAlive rfl rfl rfl hd_X6_isAlive ⟨(Nat.le_of_ble_eq_true rfl), (Nat.le_of_ble_eq_true rfl)⟩) hK hI hP hS hT.1 rfl rfl hl.1 rfl (Nat.le_of_ble_eq_true rfl) dX6_maySpeak_17 ⟨Nat.zero_le _, Nat.zero_le _⟩ (fun H locs hP hS => ?_)
      refine lv_if_eq (tgt := 47) hx hb dX6_maySpeak_20 (by decide) (fun q => ?_) (fun q => ?_)
      · rw [if_pos q] at h
        refine lv_iconst (v := (0 : Int32)) hx hb dX6_maySpeak_47 (by decide) ?_
        exact me_zret hx hb hr hlk hP hS h dX6_maySpeak_48
      · rw [if_neg q] at h
        refine lv_aload_n hx hb dX6_maySpeak_23 rfl (lv_at hl 0 rfl) ?_
        refine lv_iload_n hx hb dX6_maySpeak_24 rfl (lv_at hl 1 rfl) ?_
        refine lv_iload_n hx hb dX6_maySpeak_25 rfl (lv_at hl 2 rfl) ?_
        refine lv_iload_n hx hb dX6_maySpeak_26 rfl (lv_at hl 3 rfl) ?_
        obtain ⟨v27, M27, h1, h⟩ := s_call_inv h
        refine me_callVi (As := [.int x1, .int x2, .int x3]) (rest := []) ⟨hx, hb, hml, hown, hts⟩ (c_X6_debt hT h1) (cwV 3 hts gX6_maySpeak_X6_debt rfl rfl rfl hd_X6_debt ⟨(Nat.le_of_ble_eq_true rfl), (Nat.le_of_ble_eq_true rfl)⟩) hK hI hP hS hT.1 rfl rfl hl.1 rfl (Nat.le_of_ble_eq_true rfl) dX6_maySpeak_27 ⟨Nat.zero_le _, Nat.zero_le _⟩ (fun H locs hP hS => ?_)
        refine lv_if_ne (tgt := 47) hx hb dX6_maySpeak_30 (by decide) (fun q => ?_) (fun q => ?_)
        · rw [if_pos q] at h
          refine lv_iconst (v := (0 : Int32)) hx hb dX6_maySpeak_47 (by decide) ?_
          exact me_zret hx hb hr hlk hP hS h dX6_maySpeak_48
        · rw [if_neg (not_not_intro q)] at h
          refine lv_aload_n hx hb dX6_maySpeak_33 rfl (lv_at hl 0 rfl) ?_
          refine lv_iload_n hx hb dX6_maySpeak_34 rfl (lv_at hl 1 rfl) ?_
          refine lv_iload_n hx hb dX6_maySpeak_35 rfl (lv_at hl 3 rfl) ?_
          refine lv_iload_n hx hb dX6_maySpeak_36 rfl (lv_at hl 2 rfl) ?_
          obtain ⟨v37, M37, h1, h⟩ := s_call_inv h
          refine me_callVi (As := [.int x1, .int x3, .int x2]) (rest := []) ⟨hx, hb, hml, hown, hts⟩ (c_X6_debt hT h1) (cwV 3 hts gX6_maySpeak_X6_debt rfl rfl rfl hd_X6_debt ⟨(Nat.le_of_ble_eq_true rfl), (Nat.le_of_ble_eq_true rfl)⟩) hK hI hP hS hT.1 rfl rfl hl.1 rfl (Nat.le_of_ble_eq_true rfl) dX6_maySpeak_37 ⟨Nat.zero_le _, Nat.zero_le _⟩ (fun H locs hP hS => ?_)
          refine lv_if_ne (tgt := 47) hx hb dX6_maySpeak_40 (by decide) (fun q => ?_) (fun q => ?_)
          · rw [if_pos q] at h
            refine lv_iconst (v := (0 : Int32)) hx hb dX6_maySpeak_47 (by decide) ?_
            exact me_zret hx hb hr hlk hP hS h dX6_maySpeak_48
          · rw [if_neg (not_not_intro q)] at h
            refine lv_iconst (v := (1 : Int32)) hx hb dX6_maySpeak_43 (by decide) ?_
            refine lv_goto (tgt := 48) hx hb dX6_maySpeak_44 (by decide) ?_
            exact me_zret hx hb hr hlk hP hS h dX6_maySpeak_48
theorem c_X6_maySpeak {l : Launch} {D : va_G} {cI : ClassId} {ad : Nat → Nat} {L : List CDs} {t : Nat} (hT : is_X6 L t) {x1 : Int32} {x2 : Int32} {x3 : Int32} {M M' : Mem} {r : Int32} (h : X6_maySpeak t x1 x2 x3 M = some (r, M')) : me_Met l yX6_maySpeak wsX6_maySpeak rmX6_maySpeak D cI ad L [.ref (ad t), .int x1, .int x2, .int x3] (some (.int r)) M M' :=
  me_ofW (by decide) rfl (Nat.le_of_ble_eq_true rfl) (fun p e s m below meth c C0 => w_X6_maySpeak C0 t hT x1 x2 x3 M h)
abbrev rmX6_copy : Room := { frames := 0, cells := 0, slots := 0, locals := 0 }
theorem kX6_copy_f49 : (Cond.fieldLink RX6 49 "LadderOfBowsModel" "alive" "[I") ∈ wsX6_copy := List.mem_of_getElem? (i := 2) rfl
theorem kX6_copy_f52 : (Cond.fieldLink RX6 52 "LadderOfBowsModel" "day" "[I") ∈ wsX6_copy := List.mem_of_getElem? (i := 3) rfl
theorem kX6_copy_f55 : (Cond.fieldLink RX6 55 "LadderOfBowsModel" "many" "[I") ∈ wsX6_copy := List.mem_of_getElem? (i := 4) rfl
theorem kX6_copy_f46 : (Cond.fieldLink RX6 46 "LadderOfBowsModel" "debts" "[I") ∈ wsX6_copy := List.mem_of_getElem? (i := 1) rfl
theorem in_X6_copy_X6 : ∀ w ∈ wsX60, w ∈ wsX6_copy := by decide +kernel
theorem hd_X6_copy : yX6_copy.cls = RX6 ∧ yX6_copy.cls ≠ "java/lang/invoke/MethodHandle" ∧ yX6_copy.cls ≠ "java/lang/invoke/VarHandle" ∧ (parseMethodDescriptor yX6_copy.desc).map (fun d => d.parameters.length) = some 2 := by decide +kernel
set_option maxRecDepth 100000 in
set_option maxHeartbeats 4000000 in
theorem w_X6_copy_2 {p : Program} {l : Launch} {e : Env} {s : State} {m : MethodId} {args : Array Value} {below : List Frame} {meth : Method} {c : Code} {D : va_G} {cI : ClassId} {ad : Nat → Nat} {L : List CDs} {r : Unit} {M' : Mem} (C0 : me_X p s m args meth c cX6_copy 4 none wsX6_copy RX6 D cI ad L) (t : Nat) (hT : is_X6 L t) (x1 : Int32) (x2 : Int32) : ∀ (n : Nat) (x3 : Int32) (M : Mem), X6_copy_2 t x1 x2 n x3 M = some (r, M') → me_W p l e rmX6_copy s m args below meth c D cI ad L none M' 4 2 [(0, .ref (ad t)), (1, .int x1), (2, .int x2), (3, .int x3)] [] M := by
  obtain ⟨hx, hb, hr, hml, hown, hts, hlk, hK, hI⟩ := id C0
  intro n
  induction n with
  | zero =>
    intro x3 M h
    rw [X6_copy_2] at h
    cases h
  | succ n ih =>
    intro x3 M h
    rw [X6_copy_2] at h
    intro H locs ls hP hS hl
    refine lv_iload_n hx hb dX6_copy_2 rfl (lv_at hl 3 rfl) ?_
    refine lv_bipush (v := (64 : Int32)) hx hb dX6_copy_3 (by decide) ?_
    refine lv_icmp_ge (tgt := 36) hx hb dX6_copy_5 (by decide) (fun q => ?_) (fun q => ?_)
    · rw [if_pos q] at h
      refine lv_aload_n hx hb dX6_copy_36 rfl (lv_at hl 0 rfl) ?_
      refine me_getr (ci := 6) (C := RX6) (T := TX6) (N := 22) hx hb hts in_X6_copy_X6 hown hK hP hT.1 rfl 17 (by decide) (hts _ kX6_copy_f49) rfl dX6_copy_37 ?_
      refine lv_iload_n hx hb dX6_copy_40 rfl (lv_at hl 2 rfl) ?_
      refine lv_aload_n hx hb dX6_copy_41 rfl (lv_at hl 0 rfl) ?_
      refine me_getr (ci := 6) (C := RX6) (T := TX6) (N := 22) hx hb hts in_X6_copy_X6 hown hK hP hT.1 rfl 17 (by decide) (hts _ kX6_copy_f49) rfl dX6_copy_42 ?_
      refine lv_iload_n hx hb dX6_copy_45 rfl (lv_at hl 1 rfl) ?_
      obtain ⟨hi, h⟩ := s_ald_inv h
      refine me_ald hx hb hK hP hT.2.2.2.2.2.2.2.2.2.2.2.2.2.2.1 hi dX6_copy_46 (fun v46 ev => ?_)
      replace h := h v46 ev
      obtain ⟨hi, h⟩ := s_ast_inv h
      refine me_ast hx hb hK hI hP hS hT.2.2.2.2.2.2.2.2.2.2.2.2.2.2.1 hi dX6_copy_47 (fun H locs M47 eM hP hS => ?_)
      replace h := h M47 eM
      refine lv_aload_n hx hb dX6_copy_48 rfl (lv_at hl 0 rfl) ?_
      refine me_getr (ci := 6) (C := RX6) (T := TX6) (N := 22) hx hb hts in_X6_copy_X6 hown hK hP hT.1 rfl 18 (by decide) (hts _ kX6_copy_f52) rfl dX6_copy_49 ?_
      refine lv_iload_n hx hb dX6_copy_52 rfl (lv_at hl 2 rfl) ?_
      refine lv_aload_n hx hb dX6_copy_53 rfl (lv_at hl 0 rfl) ?_
      refine me_getr (ci := 6) (C := RX6) (T := TX6) (N := 22) hx hb hts in_X6_copy_X6 hown hK hP hT.1 rfl 18 (by decide) (hts _ kX6_copy_f52) rfl dX6_copy_54 ?_
      refine lv_iload_n hx hb dX6_copy_57 rfl (lv_at hl 1 rfl) ?_
      obtain ⟨hi, h⟩ := s_ald_inv h
      refine me_ald hx hb hK hP hT.2.2.2.2.2.2.2.2.2.2.2.2.2.2.2.1 hi dX6_copy_58 (fun v58 ev => ?_)
      replace h := h v58 ev
      obtain ⟨hi, h⟩ := s_ast_inv h
      refine me_ast hx hb hK hI hP hS hT.2.2.2.2.2.2.2.2.2.2.2.2.2.2.2.1 hi dX6_copy_59 (fun H locs M59 eM hP hS => ?_)
      replace h := h M59 eM
      refine lv_aload_n hx hb dX6_copy_60 rfl (lv_at hl 0 rfl) ?_
      refine me_getr (ci := 6) (C := RX6) (T := TX6) (N := 22) hx hb hts in_X6_copy_X6 hown hK hP hT.1 rfl 19 (by decide) (hts _ kX6_copy_f55) rfl dX6_copy_61 ?_
      refine lv_iload_n hx hb dX6_copy_64 rfl (lv_at hl 2 rfl) ?_
      refine lv_aload_n hx hb dX6_copy_65 rfl (lv_at hl 0 rfl) ?_
      refine me_getr (ci := 6) (C := RX6) (T := TX6) (N := 22) hx hb hts in_X6_copy_X6 hown hK hP hT.1 rfl 19 (by decide) (hts _ kX6_copy_f55) rfl dX6_copy_66 ?_
      refine lv_iload_n hx hb dX6_copy_69 rfl (lv_at hl 1 rfl) ?_
      obtain ⟨hi, h⟩ := s_ald_inv h
      refine me_ald hx hb hK hP hT.2.2.2.2.2.2.2.2.2.2.2.2.2.2.2.2.1 hi dX6_copy_70 (fun v70 ev => ?_)
      replace h := h v70 ev
      obtain ⟨hi, h⟩ := s_ast_inv h
      refine me_ast hx hb hK hI hP hS hT.2.2.2.2.2.2.2.2.2.2.2.2.2.2.2.2.1 hi dX6_copy_71 (fun H locs M71 eM hP hS => ?_)
      replace h := h M71 eM
      exact me_vret hx hb hr hlk hP hS h dX6_copy_72
    · rw [if_neg q] at h
      refine lv_aload_n hx hb dX6_copy_8 rfl (lv_at hl 0 rfl) ?_
      refine me_getr (ci := 6) (C := RX6) (T := TX6) (N := 22) hx hb hts in_X6_copy_X6 hown hK hP hT.1 rfl 16 (by decide) (hts _ kX6_copy_f46) rfl dX6_copy_9 ?_
      refine lv_bipush (v := (64 : Int32)) hx hb dX6_copy_12 (by decide) ?_
      refine lv_iload_n hx hb dX6_copy_14 rfl (lv_at hl 2 rfl) ?_
      refine lv_imul hx hb dX6_copy_15 ?_
      refine lv_iload_n hx hb dX6_copy_16 rfl (lv_at hl 3 rfl) ?_
      refine lv_iadd hx hb dX6_copy_17 ?_
      refine lv_aload_n hx hb dX6_copy_18 rfl (lv_at hl 0 rfl) ?_
      refine me_getr (ci := 6) (C := RX6) (T := TX6) (N := 22) hx hb hts in_X6_copy_X6 hown hK hP hT.1 rfl 16 (by decide) (hts _ kX6_copy_f46) rfl dX6_copy_19 ?_
      refine lv_bipush (v := (64 : Int32)) hx hb dX6_copy_22 (by decide) ?_
      refine lv_iload_n hx hb dX6_copy_24 rfl (lv_at hl 1 rfl) ?_
      refine lv_imul hx hb dX6_copy_25 ?_
      refine lv_iload_n hx hb dX6_copy_26 rfl (lv_at hl 3 rfl) ?_
      refine lv_iadd hx hb dX6_copy_27 ?_
      obtain ⟨hi, h⟩ := s_ald_inv h
      refine me_ald hx hb hK hP hT.2.2.2.2.2.2.2.2.2.2.2.2.2.1 hi dX6_copy_28 (fun v28 ev => ?_)
      replace h := h v28 ev
      obtain ⟨hi, h⟩ := s_ast_inv h
      refine me_ast hx hb hK hI hP hS hT.2.2.2.2.2.2.2.2.2.2.2.2.2.1 hi dX6_copy_29 (fun H locs M29 eM hP hS => ?_)
      replace h := h M29 eM
      refine lv_iinc (k := 3) (v := (x3 + (1 : Int32))) (lv' := [(3, .int (x3 + (1 : Int32))), (0, .ref (ad t)), (1, .int x1), (2, .int x2)]) hx hb dX6_copy_30 hl rfl rfl (by decide) rfl (fun ls hl => ?_)
      refine lv_goto (tgt := 2) hx hb dX6_copy_33 (by decide) ?_
      exact ih (x3 + (1 : Int32)) M29 h H locs ls hP hS (lv_sub hl [1, 2, 3, 0] rfl)
set_option maxRecDepth 100000 in
set_option maxHeartbeats 4000000 in
theorem w_X6_copy {p : Program} {l : Launch} {e : Env} {s : State} {m : MethodId} {args : Array Value} {below : List Frame} {meth : Method} {c : Code} {D : va_G} {cI : ClassId} {ad : Nat → Nat} {L : List CDs} {r : Unit} {M' : Mem} (C0 : me_X p s m args meth c cX6_copy 4 none wsX6_copy RX6 D cI ad L) (t : Nat) (hT : is_X6 L t) (x1 : Int32) (x2 : Int32) : ∀  (M : Mem), X6_copy t x1 x2 M = some (r, M') → me_W p l e rmX6_copy s m args below meth c D cI ad L none M' 4 0 [(0, .ref (ad t)), (1, .int x1), (2, .int x2)] [] M := by
  obtain ⟨hx, hb, hr, hml, hown, hts, hlk, hK, hI⟩ := id C0
  intro M h
  unfold X6_copy at h
  intro H locs ls hP hS hl
  refine lv_iconst (v := (0 : Int32)) hx hb dX6_copy_0 (by decide) ?_
  refine lv_istore_n (lv' := [(3, .int (0 : Int32)), (0, .ref (ad t)), (1, .int x1), (2, .int x2)]) hx hb dX6_copy_1 rfl hl (by decide) rfl (fun ls hl => ?_)
  exact w_X6_copy_2 C0 t hT x1 x2 FU (0 : Int32) M h H locs ls hP hS (lv_sub hl [1, 2, 3, 0] rfl)
theorem c_X6_copy {l : Launch} {D : va_G} {cI : ClassId} {ad : Nat → Nat} {L : List CDs} {t : Nat} (hT : is_X6 L t) {x1 : Int32} {x2 : Int32} {M M' : Mem} {r : Unit} (h : X6_copy t x1 x2 M = some (r, M')) : me_Met l yX6_copy wsX6_copy rmX6_copy D cI ad L [.ref (ad t), .int x1, .int x2] none M M' :=
  me_ofW (by decide) rfl (Nat.le_of_ble_eq_true rfl) (fun p e s m below meth c C0 => w_X6_copy C0 t hT x1 x2 M h)
