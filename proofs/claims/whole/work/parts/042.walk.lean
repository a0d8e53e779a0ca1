/-! ===== the walks, by program (wip/gen/gen.py) ===== -/
abbrev rmX4_pay : Room := { frames := 1, cells := 0, slots := 0, locals := 24 }
theorem kX4_pay_f9 : (Cond.fieldLink RX4 9 "LadderOfBows$Town" "kinds" "[I") ∈ wsX4_pay := List.mem_of_getElem? (i := 1) rfl
theorem in_X4_pay_X4 : ∀ w ∈ wsX40, w ∈ wsX4_pay := by decide +kernel
theorem hd_X4_pay : yX4_pay.cls = RX4 ∧ yX4_pay.cls ≠ "java/lang/invoke/MethodHandle" ∧ yX4_pay.cls ≠ "java/lang/invoke/VarHandle" ∧ (parseMethodDescriptor yX4_pay.desc).map (fun d => d.parameters.length) = some 2 := by decide +kernel
set_option maxRecDepth 100000 in
set_option maxHeartbeats 4000000 in
theorem w_X4_pay {p : Program} {l : Launch} {e : Env} {s : State} {m : MethodId} {args : Array Value} {below : List Frame} {meth : Method} {c : Code} {D : va_G} {cI : ClassId} {ad : Nat → Nat} {L : List CDs} {r : Unit} {M' : Mem} (C0 : me_X p s m args meth c cX4_pay 3 none wsX4_pay RX4 D cI ad L) (t : Nat) (hT : is_X4 L t) (x1 : Int32) (x2 : Int32) : ∀  (M : Mem), X4_pay t x1 x2 M = some (r, M') → me_W p l e rmX4_pay s m args below meth c D cI ad L none M' 3 0 [(0, .ref (ad t)), (1, .int x1), (2, .int x2)] [] M := by
  obtain ⟨hx, hb, hr, hml, hown, hts, hlk, hK, hI⟩ := id C0
  intro M h
  unfold X4_pay at h
  intro H locs ls hP hS hl
  refine lv_aload_n hx hb dX4_pay_0 rfl (lv_at hl 0 rfl) ?_
  refine lv_iload_n hx hb dX4_pay_1 rfl (lv_at hl 1 rfl) ?_
  obtain ⟨v2, M2, h1, h⟩ := s_call_inv h
  refine me_callVi (As := [.int x1]) (rest := []) ⟨hx, hb, hml, hown, hts⟩ (c_X4_paysToday hT h1) (cwV 1 hts gX4_pay_X4_paysToday rfl rfl rfl hd_X4_paysToday ⟨(Nat.le_of_ble_eq_true rfl), (Nat.le_of_ble_eq_true rfl)⟩) hK hI hP hS hT.1 rfl rfl hl.1 rfl (Nat.le_of_ble_eq_true rfl) dX4_pay_2 ⟨Nat.zero_le _, Nat.zero_le _⟩ (fun H locs hP hS => ?_)
  refine lv_if_eq (tgt := 45) hx hb dX4_pay_5 (by decide) (fun q => ?_) (fun q => ?_)
  · rw [if_pos q] at h
    exact me_vret hx hb hr hlk hP hS h dX4_pay_45
  · rw [if_neg q] at h
    refine lv_aload_n hx hb dX4_pay_8 rfl (lv_at hl 0 rfl) ?_
    refine lv_iload_n hx hb dX4_pay_9 rfl (lv_at hl 1 rfl) ?_
    refine lv_iload_n hx hb dX4_pay_10 rfl (lv_at hl 2 rfl) ?_
    obtain ⟨v11, M11, h1, h⟩ := s_call_inv h
    refine me_callVi (As := [.int x1, .int x2]) (rest := []) ⟨hx, hb, hml, hown, hts⟩ (c_X4_debt hT h1) (cwV 2 hts gX4_pay_X4_debt rfl rfl rfl hd_X4_debt ⟨(Nat.le_of_ble_eq_true rfl), (Nat.le_of_ble_eq_true rfl)⟩) hK hI hP hS hT.1 rfl rfl hl.1 rfl (Nat.le_of_ble_eq_true rfl) dX4_pay_11 ⟨Nat.zero_le _, Nat.zero_le _⟩ (fun H locs hP hS => ?_)
    refine lv_if_le (tgt := 45) hx hb dX4_pay_14 (by decide) (fun q => ?_) (fun q => ?_)
    · rw [if_pos q] at h
      exact me_vret hx hb hr hlk hP hS h dX4_pay_45
    · rw [if_neg q] at h
      refine lv_aload_n hx hb dX4_pay_17 rfl (lv_at hl 0 rfl) ?_
      refine lv_iload_n hx hb dX4_pay_18 rfl (lv_at hl 1 rfl) ?_
      refine lv_iload_n hx hb dX4_pay_19 rfl (lv_at hl 2 rfl) ?_
      refine lv_aload_n hx hb dX4_pay_20 rfl (lv_at hl 0 rfl) ?_
      refine me_getr (ci := 4) (C := RX4) (T := TX4) (N := 8) hx hb hts in_X4_pay_X4 hown hK hP hT.1 rfl 4 (by decide) (hts _ kX4_pay_f9) rfl dX4_pay_21 ?_
      refine lv_iload_n hx hb dX4_pay_24 rfl (lv_at hl 1 rfl) ?_
      obtain ⟨hi, h⟩ := s_ald_inv h
      refine me_ald hx hb hK hP hT.2.1 hi dX4_pay_25 (fun v25 ev => ?_)
      replace h := h v25 ev
      refine lv_iconst (v := (2 : Int32)) hx hb dX4_pay_26 (by decide) ?_
      refine lv_icmp_ne (tgt := 34) hx hb dX4_pay_27 (by decide) (fun q => ?_) (fun q => ?_)
      · rw [if_pos q] at h
        refine lv_aload_n hx hb dX4_pay_34 rfl (lv_at hl 0 rfl) ?_
        refine lv_iload_n hx hb dX4_pay_35 rfl (lv_at hl 1 rfl) ?_
        refine lv_iload_n hx hb dX4_pay_36 rfl (lv_at hl 2 rfl) ?_
        obtain ⟨v37, M37, h1, h⟩ := s_call_inv h
        refine me_callVi (As := [.int x1, .int x2]) (rest := [.int x2, .int x1, .ref (ad t)]) ⟨hx, hb, hml, hown, hts⟩ (c_X4_debt hT h1) (cwV 2 hts gX4_pay_X4_debt rfl rfl rfl hd_X4_debt ⟨(Nat.le_of_ble_eq_true rfl), (Nat.le_of_ble_eq_true rfl)⟩) hK hI hP hS hT.1 rfl rfl hl.1 rfl (Nat.le_of_ble_eq_true rfl) dX4_pay_37 ⟨Nat.zero_le _, Nat.zero_le _⟩ (fun H locs hP hS => ?_)
        refine lv_iconst (v := (1 : Int32)) hx hb dX4_pay_40 (by decide) ?_
        refine lv_isub hx hb dX4_pay_41 ?_
        obtain ⟨u42, M42, h1, h⟩ := s_call_inv h
        refine me_callVv (As := [.int x1, .int x2, .int (v37 - (1 : Int32))]) (rest := []) ⟨hx, hb, hml, hown, hts⟩ (c_X4_setDebt hT h1) (cwV 3 hts gX4_pay_X4_setDebt rfl rfl rfl hd_X4_setDebt ⟨(Nat.le_of_ble_eq_true rfl), (Nat.le_of_ble_eq_true rfl)⟩) hK hI hP hS hT.1 rfl rfl hl.1 rfl (Nat.le_of_ble_eq_true rfl) dX4_pay_42 ⟨Nat.zero_le _, Nat.zero_le _⟩ (fun H locs hP hS => ?_)
        exact me_vret hx hb hr hlk hP hS h dX4_pay_45
      · rw [if_neg (not_not_intro q)] at h
        refine lv_iconst (v := (0 : Int32)) hx hb dX4_pay_30 (by decide) ?_
        refine lv_goto (tgt := 42) hx hb dX4_pay_31 (by decide) ?_
        obtain ⟨u42, M42, h1, h⟩ := s_call_inv h
        refine me_callVv (As := [.int x1, .int x2, .int (0 : Int32)]) (rest := []) ⟨hx, hb, hml, hown, hts⟩ (c_X4_setDebt hT h1) (cwV 3 hts gX4_pay_X4_setDebt rfl rfl rfl hd_X4_setDebt ⟨(Nat.le_of_ble_eq_true rfl), (Nat.le_of_ble_eq_true rfl)⟩) hK hI hP hS hT.1 rfl rfl hl.1 rfl (Nat.le_of_ble_eq_true rfl) dX4_pay_42 ⟨Nat.zero_le _, Nat.zero_le _⟩ (fun H locs hP hS => ?_)
        exact me_vret hx hb hr hlk hP hS h dX4_pay_45
theorem c_X4_pay {l : Launch} {D : va_G} {cI : ClassId} {ad : Nat → Nat} {L : List CDs} {t : Nat} (hT : is_X4 L t) {x1 : Int32} {x2 : Int32} {M M' : Mem} {r : Unit} (h : X4_pay t x1 x2 M = some (r, M')) : me_Met l yX4_pay wsX4_pay rmX4_pay D cI ad L [.ref (ad t), .int x1, .int x2] none M M' :=
  me_ofW (by decide) rfl (Nat.le_of_ble_eq_true rfl) (fun p e s m below meth c C0 => w_X4_pay C0 t hT x1 x2 M h)
abbrev rmX4_bury : Room := { frames := 1, cells := 0, slots := 0, locals := 24 }
theorem kX4_bury_f34 : (Cond.fieldLink RX4 34 "LadderOfBows$Town" "aliveBits" "I") ∈ wsX4_bury := List.mem_of_getElem? (i := 1) rfl
theorem kX4_bury_f24 : (Cond.fieldLink RX4 24 "LadderOfBows$Town" "persons" "I") ∈ wsX4_bury := List.mem_of_getElem? (i := 2) rfl
theorem in_X4_bury_X4 : ∀ w ∈ wsX40, w ∈ wsX4_bury := by decide +kernel
theorem hd_X4_bury : yX4_bury.cls = RX4 ∧ yX4_bury.cls ≠ "java/lang/invoke/MethodHandle" ∧ yX4_bury.cls ≠ "java/lang/invoke/VarHandle" ∧ (parseMethodDescriptor yX4_bury.desc).map (fun d => d.parameters.length) = some 1 := by decide +kernel
set_option maxRecDepth 100000 in
set_option maxHeartbeats 4000000 in
theorem w_X4_bury_16 {p : Program} {l : Launch} {e : Env} {s : State} {m : MethodId} {args : Array Value} {below : List Frame} {meth : Method} {c : Code} {D : va_G} {cI : ClassId} {ad : Nat → Nat} {L : List CDs} {r : Unit} {M' : Mem} (C0 : me_X p s m args meth c cX4_bury 3 none wsX4_bury RX4 D cI ad L) (t : Nat) (hT : is_X4 L t) (x1 : Int32) : ∀ (n : Nat) (x2 : Int32) (M : Mem), X4_bury_16 t x1 n x2 M = some (r, M') → me_W p l e rmX4_bury s m args below meth c D cI ad L none M' 3 16 [(0, .ref (ad t)), (1, .int x1), (2, .int x2)] [] M := by
  obtain ⟨hx, hb, hr, hml, hown, hts, hlk, hK, hI⟩ := id C0
  intro n
  induction n with
  | zero =>
    intro x2 M h
    rw [X4_bury_16] at h
    cases h
  | succ n ih =>
    intro x2 M h
    rw [X4_bury_16] at h
    intro H locs ls hP hS hl
    refine lv_iload_n hx hb dX4_bury_16 rfl (lv_at hl 2 rfl) ?_
    refine lv_aload_n hx hb dX4_bury_17 rfl (lv_at hl 0 rfl) ?_
    refine me_get (ci := 4) (C := RX4) (T := TX4) (N := 8) hx hb hts in_X4_bury_X4 hown hK hP hT.1 rfl 0 (by decide) (hts _ kX4_bury_f24) rfl dX4_bury_18 ?_
    refine lv_icmp_ge (tgt := 44) hx hb dX4_bury_21 (by decide) (fun q => ?_) (fun q => ?_)
    · rw [if_pos q] at h
      exact me_vret hx hb hr hlk hP hS h dX4_bury_44
    · rw [if_neg q] at h
      refine lv_aload_n hx hb dX4_bury_24 rfl (lv_at hl 0 rfl) ?_
      refine lv_iload_n hx hb dX4_bury_25 rfl (lv_at hl 1 rfl) ?_
      refine lv_iload_n hx hb dX4_bury_26 rfl (lv_at hl 2 rfl) ?_
      refine lv_iconst (v := (0 : Int32)) hx hb dX4_bury_27 (by decide) ?_
      obtain ⟨u28, M28, h1, h⟩ := s_call_inv h
      refine me_callVv (As := [.int x1, .int x2, .int (0 : Int32)]) (rest := []) ⟨hx, hb, hml, hown, hts⟩ (c_X4_setDebt hT h1) (cwV 3 hts gX4_bury_X4_setDebt rfl rfl rfl hd_X4_setDebt ⟨(Nat.le_of_ble_eq_true rfl), (Nat.le_of_ble_eq_true rfl)⟩) hK hI hP hS hT.1 rfl rfl hl.1 rfl (Nat.le_of_ble_eq_true rfl) dX4_bury_28 ⟨Nat.zero_le _, Nat.zero_le _⟩ (fun H locs hP hS => ?_)
      refine lv_aload_n hx hb dX4_bury_31 rfl (lv_at hl 0 rfl) ?_
      refine lv_iload_n hx hb dX4_bury_32 rfl (lv_at hl 2 rfl) ?_
      refine lv_iload_n hx hb dX4_bury_33 rfl (lv_at hl 1 rfl) ?_
      refine lv_iconst (v := (0 : Int32)) hx hb dX4_bury_34 (by decide) ?_
      obtain ⟨u35, M35, h1, h⟩ := s_call_inv h
      refine me_callVv (As := [.int x2, .int x1, .int (0 : Int32)]) (rest := []) ⟨hx, hb, hml, hown, hts⟩ (c_X4_setDebt hT h1) (cwV 3 hts gX4_bury_X4_setDebt rfl rfl rfl hd_X4_setDebt ⟨(Nat.le_of_ble_eq_true rfl), (Nat.le_of_ble_eq_true rfl)⟩) hK hI hP hS hT.1 rfl rfl hl.1 rfl (Nat.le_of_ble_eq_true rfl) dX4_bury_35 ⟨Nat.zero_le _, Nat.zero_le _⟩ (fun H locs hP hS => ?_)
      refine lv_iinc (k := 2) (v := (x2 + (1 : Int32))) (lv' := [(2, .int (x2 + (1 : Int32))), (0, .ref (ad t)), (1, .int x1)]) hx hb dX4_bury_38 hl rfl rfl (by decide) rfl (fun ls hl => ?_)
      refine lv_goto (tgt := 16) hx hb dX4_bury_41 (by decide) ?_
      exact ih (x2 + (1 : Int32)) M35 h H locs ls hP hS (lv_sub hl [1, 2, 0] rfl)
set_option maxRecDepth 100000 in
set_option maxHeartbeats 4000000 in
theorem w_X4_bury {p : Program} {l : Launch} {e : Env} {s : State} {m : MethodId} {args : Array Value} {below : List Frame} {meth : Method} {c : Code} {D : va_G} {cI : ClassId} {ad : Nat → Nat} {L : List CDs} {r : Unit} {M' : Mem} (C0 : me_X p s m args meth c cX4_bury 3 none wsX4_bury RX4 D cI ad L) (t : Nat) (hT : is_X4 L t) (x1 : Int32) : ∀  (M : Mem), X4_bury t x1 M = some (r, M') → me_W p l e rmX4_bury s m args below meth c D cI ad L none M' 3 0 [(0, .ref (ad t)), (1, .int x1)] [] M := by
  obtain ⟨hx, hb, hr, hml, hown, hts, hlk, hK, hI⟩ := id C0
  intro M h
  unfold X4_bury at h
  intro H locs ls hP hS hl
  refine lv_aload_n hx hb dX4_bury_0 rfl (lv_at hl 0 rfl) ?_
  refine lv_dup hx hb dX4_bury_1 rfl ?_
  refine me_get (ci := 4) (C := RX4) (T := TX4) (N := 8) hx hb hts in_X4_bury_X4 hown hK hP hT.1 rfl 3 (by decide) (hts _ kX4_bury_f34) rfl dX4_bury_2 ?_
  refine lv_iconst (v := (1 : Int32)) hx hb dX4_bury_5 (by decide) ?_
  refine lv_iload_n hx hb dX4_bury_6 rfl (lv_at hl 1 rfl) ?_
  refine lv_ishl hx hb dX4_bury_7 ?_
  refine lv_iconst (v := (-1 : Int32)) hx hb dX4_bury_8 (by decide) ?_
  refine lv_ixor hx hb dX4_bury_9 ?_
  refine lv_iand hx hb dX4_bury_10 ?_
  refine me_put (ci := 4) (C := RX4) (T := TX4) (N := 8) hx hb hts in_X4_bury_X4 tyX4_ok nmX4 hown hK hI hP hS hT.1 rfl 3 (by decide) (hts _ kX4_bury_f34) rfl rfl rfl dX4_bury_11 (fun H locs M11 eM hP hS => ?_)
  replace h := s_put_inv h M11 eM
  refine lv_iconst (v := (0 : Int32)) hx hb dX4_bury_14 (by decide) ?_
  refine lv_istore_n (lv' := [(2, .int (0 : Int32)), (0, .ref (ad t)), (1, .int x1)]) hx hb dX4_bury_15 rfl hl (by decide) rfl (fun ls hl => ?_)
  exact w_X4_bury_16 C0 t hT x1 FU (0 : Int32) M11 h H locs ls hP hS (lv_sub hl [1, 2, 0] rfl)
theorem c_X4_bury {l : Launch} {D : va_G} {cI : ClassId} {ad : Nat → Nat} {L : List CDs} {t : Nat} (hT : is_X4 L t) {x1 : Int32} {M M' : Mem} {r : Unit} (h : X4_bury t x1 M = some (r, M')) : me_Met l yX4_bury wsX4_bury rmX4_bury D cI ad L [.ref (ad t), .int x1] none M M' :=
  me_ofW (by decide) rfl (Nat.le_of_ble_eq_true rfl) (fun p e s m below meth c C0 => w_X4_bury C0 t hT x1 M h)
abbrev rmX4_passDay : Room := { frames := 2, cells := 0, slots := 0, locals := 46 }
theorem kX4_passDay_f28 : (Cond.fieldLink RX4 28 "LadderOfBows$Town" "day" "I") ∈ wsX4_passDay := List.mem_of_getElem? (i := 1) rfl
theorem kX4_passDay_f24 : (Cond.fieldLink RX4 24 "LadderOfBows$Town" "persons" "I") ∈ wsX4_passDay := List.mem_of_getElem? (i := 2) rfl
theorem kX4_passDay_f9 : (Cond.fieldLink RX4 9 "LadderOfBows$Town" "kinds" "[I") ∈ wsX4_passDay := List.mem_of_getElem? (i := 3) rfl
theorem in_X4_passDay_X4 : ∀ w ∈ wsX40, w ∈ wsX4_passDay := by decide +kernel
theorem hd_X4_passDay : yX4_passDay.cls = RX4 ∧ yX4_passDay.cls ≠ "java/lang/invoke/MethodHandle" ∧ yX4_passDay.cls ≠ "java/lang/invoke/VarHandle" ∧ (parseMethodDescriptor yX4_passDay.desc).map (fun d => d.parameters.length) = some 0 := by decide +kernel
set_option maxRecDepth 100000 in
set_option maxHeartbeats 4000000 in
theorem w_X4_passDay_33 {p : Program} {l : Launch} {e : Env} {s : State} {m : MethodId} {args : Array Value} {below : List Frame} {meth : Method} {c : Code} {D : va_G} {cI : ClassId} {ad : Nat → Nat} {L : List CDs} {r : Unit} {M' : Mem} (C0 : me_X p s m args meth c cX4_passDay 3 none wsX4_passDay RX4 D cI ad L) (t : Nat) (hT : is_X4 L t) (x1 : Int32) (k23 : Int32 → Mem → Option (Unit × Mem)) (hk23 : ∀ (x1 : Int32) (M : Mem), k23 x1 M = some (r, M') → me_W p l e rmX4_passDay s m args below meth c D cI ad L none M' 3 23 [(0, .ref (ad t)), (1, .int x1)] [] M) : ∀ (n : Nat) (x2 : Int32) (M : Mem), X4_passDay_33 t x1 k23 n x2 M = some (r, M') → me_W p l e rmX4_passDay s m args below meth c D cI ad L none M' 3 33 [(0, .ref (ad t)), (1, .int x1), (2, .int x2)] [] M := by
  obtain ⟨hx, hb, hr, hml, hown, hts, hlk, hK, hI⟩ := id C0
  intro n
  induction n with
  | zero =>
    intro x2 M h
    rw [X4_passDay_33] at h
    cases h
  | succ n ih =>
    intro x2 M h
    rw [X4_passDay_33] at h
    intro H locs ls hP hS hl
    refine lv_iload_n hx hb dX4_passDay_33 rfl (lv_at hl 2 rfl) ?_
    refine lv_aload_n hx hb dX4_passDay_34 rfl (lv_at hl 0 rfl) ?_
    refine me_get (ci := 4) (C := RX4) (T := TX4) (N := 8) hx hb hts in_X4_passDay_X4 hown hK hP hT.1 rfl 0 (by decide) (hts _ kX4_passDay_f24) rfl dX4_passDay_35 ?_
    refine lv_icmp_ge (tgt := 84) hx hb dX4_passDay_38 (by decide) (fun q => ?_) (fun q => ?_)
    · rw [if_pos q] at h
      refine lv_iinc (k := 1) (v := (x1 + (1 : Int32))) (lv' := [(1, .int (x1 + (1 : Int32))), (0, .ref (ad t)), (2, .int x2)]) hx hb dX4_passDay_84 hl rfl rfl (by decide) rfl (fun ls hl => ?_)
      refine lv_goto (tgt := 23) hx hb dX4_passDay_87 (by decide) ?_
      exact hk23 (x1 + (1 : Int32)) M h H locs ls hP hS (lv_sub hl [1, 0] rfl)
    · rw [if_neg q] at h
      refine lv_iload_n hx hb dX4_passDay_41 rfl (lv_at hl 1 rfl) ?_
      refine lv_iload_n hx hb dX4_passDay_42 rfl (lv_at hl 2 rfl) ?_
      refine lv_icmp_eq (tgt := 78) hx hb dX4_passDay_43 (by decide) (fun q => ?_) (fun q => ?_)
      · rw [if_pos q] at h
        refine lv_iinc (k := 2) (v := (x2 + (1 : Int32))) (lv' := [(2, .int (x2 + (1 : Int32))), (0, .ref (ad t)), (1, .int x1)]) hx hb dX4_passDay_78 hl rfl rfl (by decide) rfl (fun ls hl => ?_)
        refine lv_goto (tgt := 33) hx hb dX4_passDay_81 (by decide) ?_
        exact ih (x2 + (1 : Int32)) M h H locs ls hP hS (lv_sub hl [1, 2, 0] rfl)
      · rw [if_neg q] at h
        refine lv_aload_n hx hb dX4_passDay_46 rfl (lv_at hl 0 rfl) ?_
        refine me_getr (ci := 4) (C := RX4) (T := TX4) (N := 8) hx hb hts in_X4_passDay_X4 hown hK hP hT.1 rfl 4 (by decide) (hts _ kX4_passDay_f9) rfl dX4_passDay_47 ?_
        refine lv_iload_n hx hb dX4_passDay_50 rfl (lv_at hl 1 rfl) ?_
        obtain ⟨hi, h⟩ := s_ald_inv h
        refine me_ald hx hb hK hP hT.2.1 hi dX4_passDay_51 (fun v51 ev => ?_)
        replace h := h v51 ev
        refine lv_iconst (v := (1 : Int32)) hx hb dX4_passDay_52 (by decide) ?_
        refine lv_icmp_ne (tgt := 78) hx hb dX4_passDay_53 (by decide) (fun q => ?_) (fun q => ?_)
        · rw [if_pos q] at h
          refine lv_iinc (k := 2) (v := (x2 + (1 : Int32))) (lv' := [(2, .int (x2 + (1 : Int32))), (0, .ref (ad t)), (1, .int x1)]) hx hb dX4_passDay_78 hl rfl rfl (by decide) rfl (fun ls hl => ?_)
          refine lv_goto (tgt := 33) hx hb dX4_passDay_81 (by decide) ?_
          exact ih (x2 + (1 : Int32)) M h H locs ls hP hS (lv_sub hl [1, 2, 0] rfl)
        · rw [if_neg (not_not_intro q)] at h
          refine lv_aload_n hx hb dX4_passDay_56 rfl (lv_at hl 0 rfl) ?_
          refine lv_iload_n hx hb dX4_passDay_57 rfl (lv_at hl 1 rfl) ?_
          obtain ⟨v58, M58, h1, h⟩ := s_call_inv h
          refine me_callVi (As := [.int x1]) (rest := []) ⟨hx, hb, hml, hown, hts⟩ (c_X4_isAlive hT h1) (cwV 1 hts gX4_passDay_X4_isAlive rfl rfl rfl hd_X4_isAlive ⟨(Nat.le_of_ble_eq_true rfl), (Nat.le_of_ble_eq_true rfl)⟩) hK hI hP hS hT.1 rfl rfl hl.1 rfl (Nat.le_of_ble_eq_true rfl) dX4_passDay_58 ⟨Nat.zero_le _, Nat.zero_le _⟩ (fun H locs hP hS => ?_)
          refine lv_if_eq (tgt := 78) hx hb dX4_passDay_61 (by decide) (fun q => ?_) (fun q => ?_)
          · rw [if_pos q] at h
            refine lv_iinc (k := 2) (v := (x2 + (1 : Int32))) (lv' := [(2, .int (x2 + (1 : Int32))), (0, .ref (ad t)), (1, .int x1)]) hx hb dX4_passDay_78 hl rfl rfl (by decide) rfl (fun ls hl => ?_)
            refine lv_goto (tgt := 33) hx hb dX4_passDay_81 (by decide) ?_
            exact ih (x2 + (1 : Int32)) M58 h H locs ls hP hS (lv_sub hl [1, 2, 0] rfl)
          · rw [if_neg q] at h
            refine lv_aload_n hx hb dX4_passDay_64 rfl (lv_at hl 0 rfl) ?_
            refine lv_iload_n hx hb dX4_passDay_65 rfl (lv_at hl 2 rfl) ?_
            obtain ⟨v66, M66, h1, h⟩ := s_call_inv h
            refine me_callVi (As := [.int x2]) (rest := []) ⟨hx, hb, hml, hown, hts⟩ (c_X4_isAlive hT h1) (cwV 1 hts gX4_passDay_X4_isAlive rfl rfl rfl hd_X4_isAlive ⟨(Nat.le_of_ble_eq_true rfl), (Nat.le_of_ble_eq_true rfl)⟩) hK hI hP hS hT.1 rfl rfl hl.1 rfl (Nat.le_of_ble_eq_true rfl) dX4_passDay_66 ⟨Nat.zero_le _, Nat.zero_le _⟩ (fun H locs hP hS => ?_)
            refine lv_if_eq (tgt := 78) hx hb dX4_passDay_69 (by decide) (fun q => ?_) (fun q => ?_)
            · rw [if_pos q] at h
              refine lv_iinc (k := 2) (v := (x2 + (1 : Int32))) (lv' := [(2, .int (x2 + (1 : Int32))), (0, .ref (ad t)), (1, .int x1)]) hx hb dX4_passDay_78 hl rfl rfl (by decide) rfl (fun ls hl => ?_)
              refine lv_goto (tgt := 33) hx hb dX4_passDay_81 (by decide) ?_
              exact ih (x2 + (1 : Int32)) M66 h H locs ls hP hS (lv_sub hl [1, 2, 0] rfl)
            · rw [if_neg q] at h
              refine lv_aload_n hx hb dX4_passDay_72 rfl (lv_at hl 0 rfl) ?_
              refine lv_iload_n hx hb dX4_passDay_73 rfl (lv_at hl 1 rfl) ?_
              refine lv_iload_n hx hb dX4_passDay_74 rfl (lv_at hl 2 rfl) ?_
              obtain ⟨u75, M75, h1, h⟩ := s_call_inv h
              refine me_callVv (As := [.int x1, .int x2]) (rest := []) ⟨hx, hb, hml, hown, hts⟩ (c_X4_oweOneMore hT h1) (cwV 2 hts gX4_passDay_X4_oweOneMore rfl rfl rfl hd_X4_oweOneMore ⟨(Nat.le_of_ble_eq_true rfl), (Nat.le_of_ble_eq_true rfl)⟩) hK hI hP hS hT.1 rfl rfl hl.1 rfl (Nat.le_of_ble_eq_true rfl) dX4_passDay_75 ⟨Nat.zero_le _, Nat.zero_le _⟩ (fun H locs hP hS => ?_)
              refine lv_iinc (k := 2) (v := (x2 + (1 : Int32))) (lv' := [(2, .int (x2 + (1 : Int32))), (0, .ref (ad t)), (1, .int x1)]) hx hb dX4_passDay_78 hl rfl rfl (by decide) rfl (fun ls hl => ?_)
              refine lv_goto (tgt := 33) hx hb dX4_passDay_81 (by decide) ?_
              exact ih (x2 + (1 : Int32)) M75 h H locs ls hP hS (lv_sub hl [1, 2, 0] rfl)
set_option maxRecDepth 100000 in
set_option maxHeartbeats 4000000 in
theorem w_X4_passDay_23 {p : Program} {l : Launch} {e : Env} {s : State} {m : MethodId} {args : Array Value} {below : List Frame} {meth : Method} {c : Code} {D : va_G} {cI : ClassId} {ad : Nat → Nat} {L : List CDs} {r : Unit} {M' : Mem} (C0 : me_X p s m args meth c cX4_passDay 3 none wsX4_passDay RX4 D cI ad L) (t : Nat) (hT : is_X4 L t) : ∀ (n : Nat) (x1 : Int32) (M : Mem), X4_passDay_23 t n x1 M = some (r, M') → me_W p l e rmX4_passDay s m args below meth c D cI ad L none M' 3 23 [(0, .ref (ad t)), (1, .int x1)] [] M := by
  obtain ⟨hx, hb, hr, hml, hown, hts, hlk, hK, hI⟩ := id C0
  intro n
  induction n with
  | zero =>
    intro x1 M h
    rw [X4_passDay_23] at h
    cases h
  | succ n ih =>
    intro x1 M h
    rw [X4_passDay_23] at h
    intro H locs ls hP hS hl
    refine lv_iload_n hx hb dX4_passDay_23 rfl (lv_at hl 1 rfl) ?_
    refine lv_aload_n hx hb dX4_passDay_24 rfl (lv_at hl 0 rfl) ?_
    refine me_get (ci := 4) (C := RX4) (T := TX4) (N := 8) hx hb hts in_X4_passDay_X4 hown hK hP hT.1 rfl 0 (by decide) (hts _ kX4_passDay_f24) rfl dX4_passDay_25 ?_
    refine lv_icmp_ge (tgt := 90) hx hb dX4_passDay_28 (by decide) (fun q => ?_) (fun q => ?_)
    · rw [if_pos q] at h
      exact me_vret hx hb hr hlk hP hS h dX4_passDay_90
    · rw [if_neg q] at h
      refine lv_iconst (v := (0 : Int32)) hx hb dX4_passDay_31 (by decide) ?_
      refine lv_istore_n (lv' := [(2, .int (0 : Int32)), (0, .ref (ad t)), (1, .int x1)]) hx hb dX4_passDay_32 rfl hl (by decide) rfl (fun ls hl => ?_)
      exact w_X4_passDay_33 C0 t hT x1 (X4_passDay_23 t n) (fun x1 M h => ih x1 M h) FU (0 : Int32) M h H locs ls hP hS (lv_sub hl [1, 2, 0] rfl)
set_option maxRecDepth 100000 in
set_option maxHeartbeats 4000000 in
theorem w_X4_passDay {p : Program} {l : Launch} {e : Env} {s : State} {m : MethodId} {args : Array Value} {below : List Frame} {meth : Method} {c : Code} {D : va_G} {cI : ClassId} {ad : Nat → Nat} {L : List CDs} {r : Unit} {M' : Mem} (C0 : me_X p s m args meth c cX4_passDay 3 none wsX4_passDay RX4 D cI ad L) (t : Nat) (hT : is_X4 L t) : ∀  (M : Mem), X4_passDay t M = some (r, M') → me_W p l e rmX4_passDay s m args below meth c D cI ad L none M' 3 0 [(0, .ref (ad t))] [] M := by
  obtain ⟨hx, hb, hr, hml, hown, hts, hlk, hK, hI⟩ := id C0
  intro M h
  unfold X4_passDay at h
  intro H locs ls hP hS hl
  refine lv_aload_n hx hb dX4_passDay_0 rfl (lv_at hl 0 rfl) ?_
  refine lv_dup hx hb dX4_passDay_1 rfl ?_
  refine me_get (ci := 4) (C := RX4) (T := TX4) (N := 8) hx hb hts in_X4_passDay_X4 hown hK hP hT.1 rfl 1 (by decide) (hts _ kX4_passDay_f28) rfl dX4_passDay_2 ?_
  refine lv_iconst (v := (1 : Int32)) hx hb dX4_passDay_5 (by decide) ?_
  refine lv_iadd hx hb dX4_passDay_6 ?_
  refine me_put (ci := 4) (C := RX4) (T := TX4) (N := 8) hx hb hts in_X4_passDay_X4 tyX4_ok nmX4 hown hK hI hP hS hT.1 rfl 1 (by decide) (hts _ kX4_passDay_f28) rfl rfl rfl dX4_passDay_7 (fun H locs M7 eM hP hS => ?_)
  replace h := s_put_inv h M7 eM
  refine lv_aload_n hx hb dX4_passDay_10 rfl (lv_at hl 0 rfl) ?_
  refine me_get (ci := 4) (C := RX4) (T := TX4) (N := 8) hx hb hts in_X4_passDay_X4 hown hK hP hT.1 rfl 1 (by decide) (hts _ kX4_passDay_f28) rfl dX4_passDay_11 ?_
  refine lv_bipush (v := (7 : Int32)) hx hb dX4_passDay_14 (by decide) ?_
  obtain ⟨hi, h⟩ := s_rem_inv h
  refine lv_irem hx hb dX4_passDay_16 hi ?_
  refine lv_topi (fun v16 ev => ?_)
  replace h := h v16 ev
  refine lv_if_eq (tgt := 21) hx hb dX4_passDay_17 (by decide) (fun q => ?_) (fun q => ?_)
  · rw [if_pos q] at h
    refine lv_iconst (v := (0 : Int32)) hx hb dX4_passDay_21 (by decide) ?_
    refine lv_istore_n (lv' := [(1, .int (0 : Int32)), (0, .ref (ad t))]) hx hb dX4_passDay_22 rfl hl (by decide) rfl (fun ls hl => ?_)
    exact w_X4_passDay_23 C0 t hT FU (0 : Int32) M7 h H locs ls hP hS (lv_sub hl [1, 0] rfl)
  · rw [if_neg q] at h
    exact me_vret hx hb hr hlk hP hS h dX4_passDay_20
theorem c_X4_passDay {l : Launch} {D : va_G} {cI : ClassId} {ad : Nat → Nat} {L : List CDs} {t : Nat} (hT : is_X4 L t)  {M M' : Mem} {r : Unit} (h : X4_passDay t M = some (r, M')) : me_Met l yX4_passDay wsX4_passDay rmX4_passDay D cI ad L [.ref (ad t)] none M M' :=
  me_ofW (by decide) rfl (Nat.le_of_ble_eq_true rfl) (fun p e s m below meth c C0 => w_X4_passDay C0 t hT M h)
abbrev rmX4_passDays : Room := { frames := 3, cells := 0, slots := 0, locals := 68 }
theorem hd_X4_passDays : yX4_passDays.cls = RX4 ∧ yX4_passDays.cls ≠ "java/lang/invoke/MethodHandle" ∧ yX4_passDays.cls ≠ "java/lang/invoke/VarHandle" ∧ (parseMethodDescriptor yX4_passDays.desc).map (fun d => d.parameters.length) = some 1 := by decide +kernel
set_option maxRecDepth 100000 in
set_option maxHeartbeats 4000000 in
theorem w_X4_passDays_2 {p : Program} {l : Launch} {e : Env} {s : State} {m : MethodId} {args : Array Value} {below : List Frame} {meth : Method} {c : Code} {D : va_G} {cI : ClassId} {ad : Nat → Nat} {L : List CDs} {r : Unit} {M' : Mem} (C0 : me_X p s m args meth c cX4_passDays 3 none wsX4_passDays RX4 D cI ad L) (t : Nat) (hT : is_X4 L t) (x1 : Int32) : ∀ (n : Nat) (x2 : Int32) (M : Mem), X4_passDays_2 t x1 n x2 M = some (r, M') → me_W p l e rmX4_passDays s m args below meth c D cI ad L none M' 3 2 [(0, .ref (ad t)), (1, .int x1), (2, .int x2)] [] M := by
  obtain ⟨hx, hb, hr, hml, hown, hts, hlk, hK, hI⟩ := id C0
  intro n
  induction n with
  | zero =>
    intro x2 M h
    rw [X4_passDays_2] at h
    cases h
  | succ n ih =>
    intro x2 M h
    rw [X4_passDays_2] at h
    intro H locs ls hP hS hl
    refine lv_iload_n hx hb dX4_passDays_2 rfl (lv_at hl 2 rfl) ?_
    refine lv_iload_n hx hb dX4_passDays_3 rfl (lv_at hl 1 rfl) ?_
    refine lv_icmp_ge (tgt := 17) hx hb dX4_passDays_4 (by decide) (fun q => ?_) (fun q => ?_)
    · rw [if_pos q] at h
      exact me_vret hx hb hr hlk hP hS h dX4_passDays_17
    · rw [if_neg q] at h
      refine lv_aload_n hx hb dX4_passDays_7 rfl (lv_at hl 0 rfl) ?_
      obtain ⟨u8, M8, h1, h⟩ := s_call_inv h
      refine me_callVv (As := []) (rest := []) ⟨hx, hb, hml, hown, hts⟩ (c_X4_passDay hT h1) (cwV 0 hts gX4_passDays_X4_passDay rfl rfl rfl hd_X4_passDay ⟨(Nat.le_of_ble_eq_true rfl), (Nat.le_of_ble_eq_true rfl)⟩) hK hI hP hS hT.1 rfl rfl hl.1 rfl (Nat.le_of_ble_eq_true rfl) dX4_passDays_8 ⟨Nat.zero_le _, Nat.zero_le _⟩ (fun H locs hP hS => ?_)
      refine lv_iinc (k := 2) (v := (x2 + (1 : Int32))) (lv' := [(2, .int (x2 + (1 : Int32))), (0, .ref (ad t)), (1, .int x1)]) hx hb dX4_passDays_11 hl rfl rfl (by decide) rfl (fun ls hl => ?_)
      refine lv_goto (tgt := 2) hx hb dX4_passDays_14 (by decide) ?_
      exact ih (x2 + (1 : Int32)) M8 h H locs ls hP hS (lv_sub hl [1, 2, 0] rfl)
set_option maxRecDepth 100000 in
set_option maxHeartbeats 4000000 in
theorem w_X4_passDays {p : Program} {l : Launch} {e : Env} {s : State} {m : MethodId} {args : Array Value} {below : List Frame} {meth : Method} {c : Code} {D : va_G} {cI : ClassId} {ad : Nat → Nat} {L : List CDs} {r : Unit} {M' : Mem} (C0 : me_X p s m args meth c cX4_passDays 3 none wsX4_passDays RX4 D cI ad L) (t : Nat) (hT : is_X4 L t) (x1 : Int32) : ∀  (M : Mem), X4_passDays t x1 M = some (r, M') → me_W p l e rmX4_passDays s m args below meth c D cI ad L none M' 3 0 [(0, .ref (ad t)), (1, .int x1)] [] M := by
  obtain ⟨hx, hb, hr, hml, hown, hts, hlk, hK, hI⟩ := id C0
  intro M h
  unfold X4_passDays at h
  intro H locs ls hP hS hl
  refine lv_iconst (v := (0 : Int32)) hx hb dX4_passDays_0 (by decide) ?_
  refine lv_istore_n (lv' := [(2, .int (0 : Int32)), (0, .ref (ad t)), (1, .int x1)]) hx hb dX4_passDays_1 rfl hl (by decide) rfl (fun ls hl => ?_)
  exact w_X4_passDays_2 C0 t hT x1 FU (0 : Int32) M h H locs ls hP hS (lv_sub hl [1, 2, 0] rfl)
theorem c_X4_passDays {l : Launch} {D : va_G} {cI : ClassId} {ad : Nat → Nat} {L : List CDs} {t : Nat} (hT : is_X4 L t) {x1 : Int32} {M M' : Mem} {r : Unit} (h : X4_passDays t x1 M = some (r, M')) : me_Met l yX4_passDays wsX4_passDays rmX4_passDays D cI ad L [.ref (ad t), .int x1] none M M' :=
  me_ofW (by decide) rfl (Nat.le_of_ble_eq_true rfl) (fun p e s m below meth c C0 => w_X4_passDays C0 t hT x1 M h)
abbrev rmX4_perform : Room := { frames := 4, cells := 0, slots := 0, locals := 90 }
theorem hd_X4_perform : yX4_perform.cls = RX4 ∧ yX4_perform.cls ≠ "java/lang/invoke/MethodHandle" ∧ yX4_perform.cls ≠ "java/lang/invoke/VarHandle" ∧ (parseMethodDescriptor yX4_perform.desc).map (fun d => d.parameters.length) = some 3 := by decide +kernel
set_option maxRecDepth 100000 in
set_option maxHeartbeats 4000000 in
theorem w_X4_perform {p : Program} {l : Launch} {e : Env} {s : State} {m : MethodId} {args : Array Value} {below : List Frame} {meth : Method} {c : Code} {D : va_G} {cI : ClassId} {ad : Nat → Nat} {L : List CDs} {r : Unit} {M' : Mem} (C0 : me_X p s m args meth c cX4_perform 4 none wsX4_perform RX4 D cI ad L) (t : Nat) (hT : is_X4 L t) (x1 : Int32) (x2 : Int32) (x3 : Int32) : ∀  (M : Mem), X4_perform t x1 x2 x3 M = some (r, M') → me_W p l e rmX4_perform s m args below meth c D cI ad L none M' 4 0 [(0, .ref (ad t)), (1, .int x1), (2, .int x2), (3, .int x3)] [] M := by
  obtain ⟨hx, hb, hr, hml, hown, hts, hlk, hK, hI⟩ := id C0
  intro M h
  unfold X4_perform at h
  intro H locs ls hP hS hl
  refine lv_iload_n hx hb dX4_perform_0 rfl (lv_at hl 1 rfl) ?_
  by_cases q0 : x1 = (0 : Int32)
  · rw [if_pos q0] at h
    refine lv_tableIn (tgt := 36) (off := 35) hx hb dX4_perform_1 (by rw [q0]; decide) (by rw [q0]; decide) (by rw [q0]; rfl) (by decide) ?_
    refine lv_aload_n hx hb dX4_perform_36 rfl (lv_at hl 0 rfl) ?_
    refine lv_iload_n hx hb dX4_perform_37 rfl (lv_at hl 2 rfl) ?_
    refine lv_iload_n hx hb dX4_perform_38 rfl (lv_at hl 3 rfl) ?_
    obtain ⟨u39, M39, h1, h⟩ := s_call_inv h
    refine me_callVv (As := [.int x2, .int x3]) (rest := []) ⟨hx, hb, hml, hown, hts⟩ (c_X4_oweOneMore hT h1) (cwV 2 hts gX4_perform_X4_oweOneMore rfl rfl rfl hd_X4_oweOneMore ⟨(Nat.le_of_ble_eq_true rfl), (Nat.le_of_ble_eq_true rfl)⟩) hK hI hP hS hT.1 rfl rfl hl.1 rfl (Nat.le_of_ble_eq_true rfl) dX4_perform_39 ⟨Nat.zero_le _, Nat.zero_le _⟩ (fun H locs hP hS => ?_)
    refine lv_goto (tgt := 82) hx hb dX4_perform_42 (by decide) ?_
    exact me_vret hx hb hr hlk hP hS h dX4_perform_82
  rw [if_neg q0] at h
  by_cases q1 : x1 = (1 : Int32)
  · rw [if_pos q1] at h
    refine lv_tableIn (tgt := 45) (off := 44) hx hb dX4_perform_1 (by rw [q1]; decide) (by rw [q1]; decide) (by rw [q1]; rfl) (by decide) ?_
    refine lv_aload_n hx hb dX4_perform_45 rfl (lv_at hl 0 rfl) ?_
    refine lv_iload_n hx hb dX4_perform_46 rfl (lv_at hl 2 rfl) ?_
    refine lv_iload_n hx hb dX4_perform_47 rfl (lv_at hl 3 rfl) ?_
    obtain ⟨u48, M48, h1, h⟩ := s_call_inv h
    refine me_callVv (As := [.int x2, .int x3]) (rest := []) ⟨hx, hb, hml, hown, hts⟩ (c_X4_pay hT h1) (cwV 2 hts gX4_perform_X4_pay rfl rfl rfl hd_X4_pay ⟨(Nat.le_of_ble_eq_true rfl), (Nat.le_of_ble_eq_true rfl)⟩) hK hI hP hS hT.1 rfl rfl hl.1 rfl (Nat.le_of_ble_eq_true rfl) dX4_perform_48 ⟨Nat.zero_le _, Nat.zero_le _⟩ (fun H locs hP hS => ?_)
    refine lv_goto (tgt := 82) hx hb dX4_perform_51 (by decide) ?_
    exact me_vret hx hb hr hlk hP hS h dX4_perform_82
  rw [if_neg q1] at h
  by_cases q2 : x1 = (2 : Int32)
  · rw [if_pos q2] at h
    refine lv_tableIn (tgt := 36) (off := 35) hx hb dX4_perform_1 (by rw [q2]; decide) (by rw [q2]; decide) (by rw [q2]; rfl) (by decide) ?_
    refine lv_aload_n hx hb dX4_perform_36 rfl (lv_at hl 0 rfl) ?_
    refine lv_iload_n hx hb dX4_perform_37 rfl (lv_at hl 2 rfl) ?_
    refine lv_iload_n hx hb dX4_perform_38 rfl (lv_at hl 3 rfl) ?_
    obtain ⟨u39, M39, h1, h⟩ := s_call_inv h
    refine me_callVv (As := [.int x2, .int x3]) (rest := []) ⟨hx, hb, hml, hown, hts⟩ (c_X4_oweOneMore hT h1) (cwV 2 hts gX4_perform_X4_oweOneMore rfl rfl rfl hd_X4_oweOneMore ⟨(Nat.le_of_ble_eq_true rfl), (Nat.le_of_ble_eq_true rfl)⟩) hK hI hP hS hT.1 rfl rfl hl.1 rfl (Nat.le_of_ble_eq_true rfl) dX4_perform_39 ⟨Nat.zero_le _, Nat.zero_le _⟩ (fun H locs hP hS => ?_)
    refine lv_goto (tgt := 82) hx hb dX4_perform_42 (by decide) ?_
    exact me_vret hx hb hr hlk hP hS h dX4_perform_82
  rw [if_neg q2] at h
  by_cases q3 : x1 = (3 : Int32)
  · rw [if_pos q3] at h
    refine lv_tableIn (tgt := 54) (off := 53) hx hb dX4_perform_1 (by rw [q3]; decide) (by rw [q3]; decide) (by rw [q3]; rfl) (by decide) ?_
    refine lv_aload_n hx hb dX4_perform_54 rfl (lv_at hl 0 rfl) ?_
    refine lv_iload_n hx hb dX4_perform_55 rfl (lv_at hl 2 rfl) ?_
    refine lv_iload_n hx hb dX4_perform_56 rfl (lv_at hl 3 rfl) ?_
    obtain ⟨u57, M57, h1, h⟩ := s_call_inv h
    refine me_callVv (As := [.int x2, .int x3]) (rest := []) ⟨hx, hb, hml, hown, hts⟩ (c_X4_pay hT h1) (cwV 2 hts gX4_perform_X4_pay rfl rfl rfl hd_X4_pay ⟨(Nat.le_of_ble_eq_true rfl), (Nat.le_of_ble_eq_true rfl)⟩) hK hI hP hS hT.1 rfl rfl hl.1 rfl (Nat.le_of_ble_eq_true rfl) dX4_perform_57 ⟨Nat.zero_le _, Nat.zero_le _⟩ (fun H locs hP hS => ?_)
    refine lv_aload_n hx hb dX4_perform_60 rfl (lv_at hl 0 rfl) ?_
    refine lv_iload_n hx hb dX4_perform_61 rfl (lv_at hl 3 rfl) ?_
    refine lv_iload_n hx hb dX4_perform_62 rfl (lv_at hl 2 rfl) ?_
    obtain ⟨u63, M63, h1, h⟩ := s_call_inv h
    refine me_callVv (As := [.int x3, .int x2]) (rest := []) ⟨hx, hb, hml, hown, hts⟩ (c_X4_pay hT h1) (cwV 2 hts gX4_perform_X4_pay rfl rfl rfl hd_X4_pay ⟨(Nat.le_of_ble_eq_true rfl), (Nat.le_of_ble_eq_true rfl)⟩) hK hI hP hS hT.1 rfl rfl hl.1 rfl (Nat.le_of_ble_eq_true rfl) dX4_perform_63 ⟨Nat.zero_le _, Nat.zero_le _⟩ (fun H locs hP hS => ?_)
    refine lv_goto (tgt := 82) hx hb dX4_perform_66 (by decide) ?_
    exact me_vret hx hb hr hlk hP hS h dX4_perform_82
  rw [if_neg q3] at h
  by_cases q4 : x1 = (4 : Int32)
  · rw [if_pos q4] at h
    refine lv_tableIn (tgt := 69) (off := 68) hx hb dX4_perform_1 (by rw [q4]; decide) (by rw [q4]; decide) (by rw [q4]; rfl) (by decide) ?_
    refine lv_aload_n hx hb dX4_perform_69 rfl (lv_at hl 0 rfl) ?_
    refine lv_iload_n hx hb dX4_perform_70 rfl (lv_at hl 2 rfl) ?_
    obtain ⟨u71, M71, h1, h⟩ := s_call_inv h
    refine me_callVv (As := [.int x2]) (rest := []) ⟨hx, hb, hml, hown, hts⟩ (c_X4_bury hT h1) (cwV 1 hts gX4_perform_X4_bury rfl rfl rfl hd_X4_bury ⟨(Nat.le_of_ble_eq_true rfl), (Nat.le_of_ble_eq_true rfl)⟩) hK hI hP hS hT.1 rfl rfl hl.1 rfl (Nat.le_of_ble_eq_true rfl) dX4_perform_71 ⟨Nat.zero_le _, Nat.zero_le _⟩ (fun H locs hP hS => ?_)
    refine lv_goto (tgt := 82) hx hb dX4_perform_74 (by decide) ?_
    exact me_vret hx hb hr hlk hP hS h dX4_perform_82
  rw [if_neg q4] at h
  have e0 := lv_neT (a := 0) q0 (by decide)
  have e1 := lv_neT (a := 1) q1 (by decide)
  have e2 := lv_neT (a := 2) q2 (by decide)
  have e3 := lv_neT (a := 3) q3 (by decide)
  have e4 := lv_neT (a := 4) q4 (by decide)
  refine lv_tableOut (tgt := 77) hx hb dX4_perform_1 (by omega) (by decide) ?_
  refine lv_aload_n hx hb dX4_perform_77 rfl (lv_at hl 0 rfl) ?_
  refine lv_iload_n hx hb dX4_perform_78 rfl (lv_at hl 2 rfl) ?_
  obtain ⟨u79, M79, h1, h⟩ := s_call_inv h
  refine me_callVv (As := [.int x2]) (rest := []) ⟨hx, hb, hml, hown, hts⟩ (c_X4_passDays hT h1) (cwV 1 hts gX4_perform_X4_passDays rfl rfl rfl hd_X4_passDays ⟨(Nat.le_of_ble_eq_true rfl), (Nat.le_of_ble_eq_true rfl)⟩) hK hI hP hS hT.1 rfl rfl hl.1 rfl (Nat.le_of_ble_eq_true rfl) dX4_perform_79 ⟨Nat.zero_le _, Nat.zero_le _⟩ (fun H locs hP hS => ?_)
  exact me_vret hx hb hr hlk hP hS h dX4_perform_82
theorem c_X4_perform {l : Launch} {D : va_G} {cI : ClassId} {ad : Nat → Nat} {L : List CDs} {t : Nat} (hT : is_X4 L t) {x1 : Int32} {x2 : Int32} {x3 : Int32} {M M' : Mem} {r : Unit} (h : X4_perform t x1 x2 x3 M = some (r, M')) : me_Met l yX4_perform wsX4_perform rmX4_perform D cI ad L [.ref (ad t), .int x1, .int x2, .int x3] none M M' :=
  me_ofW (by decide) rfl (Nat.le_of_ble_eq_true rfl) (fun p e s m below meth c C0 => w_X4_perform C0 t hT x1 x2 x3 M h)
abbrev rmX4_bowAllThatCanBe : Room := { frames := 2, cells := 0, slots := 0, locals := 44 }
theorem kX4_bowAllThatCanBe_f24 : (Cond.fieldLink RX4 24 "LadderOfBows$Town" "persons" "I") ∈ wsX4_bowAllThatCanBe := List.mem_of_getElem? (i := 1) rfl
theorem kX4_bowAllThatCanBe_f21 : (Cond.fieldLink RX4 21 "LadderOfBows$Town" "owing" "[I") ∈ wsX4_bowAllThatCanBe := List.mem_of_getElem? (i := 2) rfl
theorem kX4_bowAllThatCanBe_f9 : (Cond.fieldLink RX4 9 "LadderOfBows$Town" "kinds" "[I") ∈ wsX4_bowAllThatCanBe := List.mem_of_getElem? (i := 3) rfl
theorem in_X4_bowAllThatCanBe_X4 : ∀ w ∈ wsX40, w ∈ wsX4_bowAllThatCanBe := by decide +kernel
theorem hd_X4_bowAllThatCanBe : yX4_bowAllThatCanBe.cls = RX4 ∧ yX4_bowAllThatCanBe.cls ≠ "java/lang/invoke/MethodHandle" ∧ yX4_bowAllThatCanBe.cls ≠ "java/lang/invoke/VarHandle" ∧ (parseMethodDescriptor yX4_bowAllThatCanBe.desc).map (fun d => d.parameters.length) = some 0 := by decide +kernel
set_option maxRecDepth 100000 in
set_option maxHeartbeats 4000000 in
theorem w_X4_bowAllThatCanBe_35 {p : Program} {l : Launch} {e : Env} {s : State} {m : MethodId} {args : Array Value} {below : List Frame} {meth : Method} {c : Code} {D : va_G} {cI : ClassId} {ad : Nat → Nat} {L : List CDs} {r : Int32} {M' : Mem} (C0 : me_X p s m args meth c cX4_bowAllThatCanBe 6 (some .int) wsX4_bowAllThatCanBe RX4 D cI ad L) (t : Nat) (hT : is_X4 L t) (x2 : Int32) (x3 : Int32) (x4 : Int32) (k6 : Int32 → Int32 → Int32 → Mem → Option (Int32 × Mem)) (hk6 : ∀ (x1 : Int32) (x2 : Int32) (x3 : Int32) (M : Mem), k6 x1 x2 x3 M = some (r, M') → me_W p l e rmX4_bowAllThatCanBe s m args below meth c D cI ad L (some (.int r)) M' 6 6 [(0, .ref (ad t)), (1, .int x1), (2, .int x2), (3, .int x3)] [] M) (k23 : Int32 → Int32 → Mem → Option (Int32 × Mem)) (hk23 : ∀ (x1 : Int32) (x4 : Int32) (M : Mem), k23 x1 x4 M = some (r, M') → me_W p l e rmX4_bowAllThatCanBe s m args below meth c D cI ad L (some (.int r)) M' 6 23 [(0, .ref (ad t)), (1, .int x1), (2, .int x2), (3, .int x3), (4, .int x4)] [] M) : ∀ (n : Nat) (x1 : Int32) (x5 : Int32) (M : Mem), X4_bowAllThatCanBe_35 t x2 x3 x4 k6 k23 n x1 x5 M = some (r, M') → me_W p l e rmX4_bowAllThatCanBe s m args below meth c D cI ad L (some (.int r)) M' 6 35 [(0, .ref (ad t)), (1, .int x1), (2, .int x2), (3, .int x3), (4, .int x4), (5, .int x5)] [] M := by
  obtain ⟨hx, hb, hr, hml, hown, hts, hlk, hK, hI⟩ := id C0
  intro n
  induction n with
  | zero =>
    intro x1 x5 M h
    rw [X4_bowAllThatCanBe_35] at h
    cases h
  | succ n ih =>
    intro x1 x5 M h
    rw [X4_bowAllThatCanBe_35] at h
    intro H locs ls hP hS hl
    refine lv_iload hx hb dX4_bowAllThatCanBe_35 (lv_at hl 5 rfl) ?_
    refine lv_aload_n hx hb dX4_bowAllThatCanBe_37 rfl (lv_at hl 0 rfl) ?_
    refine me_get (ci := 4) (C := RX4) (T := TX4) (N := 8) hx hb hts in_X4_bowAllThatCanBe_X4 hown hK hP hT.1 rfl 0 (by decide) (hts _ kX4_bowAllThatCanBe_f24) rfl dX4_bowAllThatCanBe_38 ?_
    refine lv_icmp_ge (tgt := 115) hx hb dX4_bowAllThatCanBe_41 (by decide) (fun q => ?_) (fun q => ?_)
    · rw [if_pos q] at h
      refine lv_iinc (k := 4) (v := (x4 + (1 : Int32))) (lv' := [(4, .int (x4 + (1 : Int32))), (0, .ref (ad t)), (1, .int x1), (2, .int x2), (3, .int x3), (5, .int x5)]) hx hb dX4_bowAllThatCanBe_115 hl rfl rfl (by decide) rfl (fun ls hl => ?_)
      refine lv_goto (tgt := 23) hx hb dX4_bowAllThatCanBe_118 (by decide) ?_
      exact hk23 x1 (x4 + (1 : Int32)) M h H locs ls hP hS (lv_sub hl [1, 2, 3, 4, 0] rfl)
    · rw [if_neg q] at h
      refine lv_aload_n hx hb dX4_bowAllThatCanBe_44 rfl (lv_at hl 0 rfl) ?_
      refine me_getr (ci := 4) (C := RX4) (T := TX4) (N := 8) hx hb hts in_X4_bowAllThatCanBe_X4 hown hK hP hT.1 rfl 7 (by decide) (hts _ kX4_bowAllThatCanBe_f21) rfl dX4_bowAllThatCanBe_45 ?_
      refine lv_iload hx hb dX4_bowAllThatCanBe_48 (lv_at hl 4 rfl) ?_
      obtain ⟨hi, h⟩ := s_ald_inv h
      refine me_ald hx hb hK hP hT.2.2.2.2 hi dX4_bowAllThatCanBe_50 (fun v50 ev => ?_)
      replace h := h v50 ev
      refine lv_if_le (tgt := 115) hx hb dX4_bowAllThatCanBe_51 (by decide) (fun q => ?_) (fun q => ?_)
      · rw [if_pos q] at h
        refine lv_iinc (k := 4) (v := (x4 + (1 : Int32))) (lv' := [(4, .int (x4 + (1 : Int32))), (0, .ref (ad t)), (1, .int x1), (2, .int x2), (3, .int x3), (5, .int x5)]) hx hb dX4_bowAllThatCanBe_115 hl rfl rfl (by decide) rfl (fun ls hl => ?_)
        refine lv_goto (tgt := 23) hx hb dX4_bowAllThatCanBe_118 (by decide) ?_
        exact hk23 x1 (x4 + (1 : Int32)) M h H locs ls hP hS (lv_sub hl [1, 2, 3, 4, 0] rfl)
      · rw [if_neg q] at h
        refine lv_aload_n hx hb dX4_bowAllThatCanBe_54 rfl (lv_at hl 0 rfl) ?_
        refine lv_iload hx hb dX4_bowAllThatCanBe_55 (lv_at hl 4 rfl) ?_
        refine lv_iload hx hb dX4_bowAllThatCanBe_57 (lv_at hl 5 rfl) ?_
        obtain ⟨v59, M59, h1, h⟩ := s_call_inv h
        refine me_callVi (As := [.int x4, .int x5]) (rest := []) ⟨hx, hb, hml, hown, hts⟩ (c_X4_canBow hT h1) (cwV 2 hts gX4_bowAllThatCanBe_X4_canBow rfl rfl rfl hd_X4_canBow ⟨(Nat.le_of_ble_eq_true rfl), (Nat.le_of_ble_eq_true rfl)⟩) hK hI hP hS hT.1 rfl rfl hl.1 rfl (Nat.le_of_ble_eq_true rfl) dX4_bowAllThatCanBe_59 ⟨Nat.zero_le _, Nat.zero_le _⟩ (fun H locs hP hS => ?_)
        refine lv_if_eq (tgt := 109) hx hb dX4_bowAllThatCanBe_62 (by decide) (fun q => ?_) (fun q => ?_)
        · rw [if_pos q] at h
          refine lv_iinc (k := 5) (v := (x5 + (1 : Int32))) (lv' := [(5, .int (x5 + (1 : Int32))), (0, .ref (ad t)), (1, .int x1), (2, .int x2), (3, .int x3), (4, .int x4)]) hx hb dX4_bowAllThatCanBe_109 hl rfl rfl (by decide) rfl (fun ls hl => ?_)
          refine lv_goto (tgt := 35) hx hb dX4_bowAllThatCanBe_112 (by decide) ?_
          exact ih x1 (x5 + (1 : Int32)) M59 h H locs ls hP hS (lv_sub hl [1, 2, 3, 4, 5, 0] rfl)
        · rw [if_neg q] at h
          refine lv_aload_n hx hb dX4_bowAllThatCanBe_65 rfl (lv_at hl 0 rfl) ?_
          refine lv_iload hx hb dX4_bowAllThatCanBe_66 (lv_at hl 4 rfl) ?_
          obtain ⟨v68, M68, h1, h⟩ := s_call_inv h
          refine me_callVi (As := [.int x4]) (rest := []) ⟨hx, hb, hml, hown, hts⟩ (c_X4_paysToday hT h1) (cwV 1 hts gX4_bowAllThatCanBe_X4_paysToday rfl rfl rfl hd_X4_paysToday ⟨(Nat.le_of_ble_eq_true rfl), (Nat.le_of_ble_eq_true rfl)⟩) hK hI hP hS hT.1 rfl rfl hl.1 rfl (Nat.le_of_ble_eq_true rfl) dX4_bowAllThatCanBe_68 ⟨Nat.zero_le _, Nat.zero_le _⟩ (fun H locs hP hS => ?_)
          refine lv_if_eq (tgt := 109) hx hb dX4_bowAllThatCanBe_71 (by decide) (fun q => ?_) (fun q => ?_)
          · rw [if_pos q] at h
            refine lv_iinc (k := 5) (v := (x5 + (1 : Int32))) (lv' := [(5, .int (x5 + (1 : Int32))), (0, .ref (ad t)), (1, .int x1), (2, .int x2), (3, .int x3), (4, .int x4)]) hx hb dX4_bowAllThatCanBe_109 hl rfl rfl (by decide) rfl (fun ls hl => ?_)
            refine lv_goto (tgt := 35) hx hb dX4_bowAllThatCanBe_112 (by decide) ?_
            exact ih x1 (x5 + (1 : Int32)) M68 h H locs ls hP hS (lv_sub hl [1, 2, 3, 4, 5, 0] rfl)
          · rw [if_neg q] at h
            refine lv_iload_n hx hb dX4_bowAllThatCanBe_74 rfl (lv_at hl 1 rfl) ?_
            refine lv_aload_n hx hb dX4_bowAllThatCanBe_75 rfl (lv_at hl 0 rfl) ?_
            refine me_getr (ci := 4) (C := RX4) (T := TX4) (N := 8) hx hb hts in_X4_bowAllThatCanBe_X4 hown hK hP hT.1 rfl 4 (by decide) (hts _ kX4_bowAllThatCanBe_f9) rfl dX4_bowAllThatCanBe_76 ?_
            refine lv_iload hx hb dX4_bowAllThatCanBe_79 (lv_at hl 4 rfl) ?_
            obtain ⟨hi, h⟩ := s_ald_inv h
            refine me_ald hx hb hK hP hT.2.1 hi dX4_bowAllThatCanBe_81 (fun v81 ev => ?_)
            replace h := h v81 ev
            refine lv_iconst (v := (2 : Int32)) hx hb dX4_bowAllThatCanBe_82 (by decide) ?_
            refine lv_icmp_ne (tgt := 90) hx hb dX4_bowAllThatCanBe_83 (by decide) (fun q => ?_) (fun q => ?_)
            · rw [if_pos q] at h
              refine lv_aload_n hx hb dX4_bowAllThatCanBe_90 rfl (lv_at hl 0 rfl) ?_
              refine lv_iload hx hb dX4_bowAllThatCanBe_91 (lv_at hl 4 rfl) ?_
              refine lv_iload hx hb dX4_bowAllThatCanBe_93 (lv_at hl 5 rfl) ?_
              obtain ⟨v95, M95, h1, h⟩ := s_call_inv h
              refine me_callVi (As := [.int x4, .int x5]) (rest := [.int x1]) ⟨hx, hb, hml, hown, hts⟩ (c_X4_debt hT h1) (cwV 2 hts gX4_bowAllThatCanBe_X4_debt rfl rfl rfl hd_X4_debt ⟨(Nat.le_of_ble_eq_true rfl), (Nat.le_of_ble_eq_true rfl)⟩) hK hI hP hS hT.1 rfl rfl hl.1 rfl (Nat.le_of_ble_eq_true rfl) dX4_bowAllThatCanBe_95 ⟨Nat.zero_le _, Nat.zero_le _⟩ (fun H locs hP hS => ?_)
              refine lv_iadd hx hb dX4_bowAllThatCanBe_98 ?_
              refine lv_topi (fun x1_99 ev => ?_)
              replace h := s_let_inv h x1_99 ev
              refine lv_istore_n (lv' := [(1, .int x1_99), (0, .ref (ad t)), (2, .int x2), (3, .int x3), (4, .int x4), (5, .int x5)]) hx hb dX4_bowAllThatCanBe_99 rfl hl (by decide) rfl (fun ls hl => ?_)
              refine lv_aload_n hx hb dX4_bowAllThatCanBe_100 rfl (lv_at hl 1 rfl) ?_
              refine lv_iload hx hb dX4_bowAllThatCanBe_101 (lv_at hl 4 rfl) ?_
              refine lv_iload hx hb dX4_bowAllThatCanBe_103 (lv_at hl 5 rfl) ?_
              refine lv_iconst (v := (0 : Int32)) hx hb dX4_bowAllThatCanBe_105 (by decide) ?_
              obtain ⟨u106, M106, h1, h⟩ := s_call_inv h
              refine me_callVv (As := [.int x4, .int x5, .int (0 : Int32)]) (rest := []) ⟨hx, hb, hml, hown, hts⟩ (c_X4_setDebt hT h1) (cwV 3 hts gX4_bowAllThatCanBe_X4_setDebt rfl rfl rfl hd_X4_setDebt ⟨(Nat.le_of_ble_eq_true rfl), (Nat.le_of_ble_eq_true rfl)⟩) hK hI hP hS hT.1 rfl rfl hl.1 rfl (Nat.le_of_ble_eq_true rfl) dX4_bowAllThatCanBe_106 ⟨Nat.zero_le _, Nat.zero_le _⟩ (fun H locs hP hS => ?_)
              refine lv_iinc (k := 5) (v := (x5 + (1 : Int32))) (lv' := [(5, .int (x5 + (1 : Int32))), (1, .int x1_99), (0, .ref (ad t)), (2, .int x2), (3, .int x3), (4, .int x4)]) hx hb dX4_bowAllThatCanBe_109 hl rfl rfl (by decide) rfl (fun ls hl => ?_)
              refine lv_goto (tgt := 35) hx hb dX4_bowAllThatCanBe_112 (by decide) ?_
              exact ih x1_99 (x5 + (1 : Int32)) M106 h H locs ls hP hS (lv_sub hl [2, 1, 3, 4, 5, 0] rfl)
            · rw [if_neg (not_not_intro q)] at h
              refine lv_iconst (v := (1 : Int32)) hx hb dX4_bowAllThatCanBe_86 (by decide) ?_
              refine lv_goto (tgt := 98) hx hb dX4_bowAllThatCanBe_87 (by decide) ?_
              refine lv_iadd hx hb dX4_bowAllThatCanBe_98 ?_
              refine lv_topi (fun x1_99 ev => ?_)
              replace h := s_let_inv h x1_99 ev
              refine lv_istore_n (lv' := [(1, .int x1_99), (0, .ref (ad t)), (2, .int x2), (3, .int x3), (4, .int x4), (5, .int x5)]) hx hb dX4_bowAllThatCanBe_99 rfl hl (by decide) rfl (fun ls hl => ?_)
              refine lv_aload_n hx hb dX4_bowAllThatCanBe_100 rfl (lv_at hl 1 rfl) ?_
              refine lv_iload hx hb dX4_bowAllThatCanBe_101 (lv_at hl 4 rfl) ?_
              refine lv_iload hx hb dX4_bowAllThatCanBe_103 (lv_at hl 5 rfl) ?_
              refine lv_iconst (v := (0 : Int32)) hx hb dX4_bowAllThatCanBe_105 (by decide) ?_
              obtain ⟨u106, M106, h1, h⟩ := s_call_inv h
              refine me_callVv (As := [.int x4, .int x5, .int (0 : Int32)]) (rest := []) ⟨hx, hb, hml, hown, hts⟩ (c_X4_setDebt hT h1) (cwV 3 hts gX4_bowAllThatCanBe_X4_setDebt rfl rfl rfl hd_X4_setDebt ⟨(Nat.le_of_ble_eq_true rfl), (Nat.le_of_ble_eq_true rfl)⟩) hK hI hP hS hT.1 rfl rfl hl.1 rfl (Nat.le_of_ble_eq_true rfl) dX4_bowAllThatCanBe_106 ⟨Nat.zero_le _, Nat.zero_le _⟩ (fun H locs hP hS => ?_)
              refine lv_iinc (k := 5) (v := (x5 + (1 : Int32))) (lv' := [(5, .int (x5 + (1 : Int32))), (1, .int x1_99), (0, .ref (ad t)), (2, .int x2), (3, .int x3), (4, .int x4)]) hx hb dX4_bowAllThatCanBe_109 hl rfl rfl (by decide) rfl (fun ls hl => ?_)
              refine lv_goto (tgt := 35) hx hb dX4_bowAllThatCanBe_112 (by decide) ?_
              exact ih x1_99 (x5 + (1 : Int32)) M106 h H locs ls hP hS (lv_sub hl [2, 1, 3, 4, 5, 0] rfl)
set_option maxRecDepth 100000 in
set_option maxHeartbeats 4000000 in
theorem w_X4_bowAllThatCanBe_23 {p : Program} {l : Launch} {e : Env} {s : State} {m : MethodId} {args : Array Value} {below : List Frame} {meth : Method} {c : Code} {D : va_G} {cI : ClassId} {ad : Nat → Nat} {L : List CDs} {r : Int32} {M' : Mem} (C0 : me_X p s m args meth c cX4_bowAllThatCanBe 6 (some .int) wsX4_bowAllThatCanBe RX4 D cI ad L) (t : Nat) (hT : is_X4 L t) (x2 : Int32) (x3 : Int32) (k6 : Int32 → Int32 → Int32 → Mem → Option (Int32 × Mem)) (hk6 : ∀ (x1 : Int32) (x2 : Int32) (x3 : Int32) (M : Mem), k6 x1 x2 x3 M = some (r, M') → me_W p l e rmX4_bowAllThatCanBe s m args below meth c D cI ad L (some (.int r)) M' 6 6 [(0, .ref (ad t)), (1, .int x1), (2, .int x2), (3, .int x3)] [] M) : ∀ (n : Nat) (x1 : Int32) (x4 : Int32) (M : Mem), X4_bowAllThatCanBe_23 t x2 x3 k6 n x1 x4 M = some (r, M') → me_W p l e rmX4_bowAllThatCanBe s m args below meth c D cI ad L (some (.int r)) M' 6 23 [(0, .ref (ad t)), (1, .int x1), (2, .int x2), (3, .int x3), (4, .int x4)] [] M := by
  obtain ⟨hx, hb, hr, hml, hown, hts, hlk, hK, hI⟩ := id C0
  intro n
  induction n with
  | zero =>
    intro x1 x4 M h
    rw [X4_bowAllThatCanBe_23] at h
    cases h
  | succ n ih =>
    intro x1 x4 M h
    rw [X4_bowAllThatCanBe_23] at h
    intro H locs ls hP hS hl
    refine lv_iload hx hb dX4_bowAllThatCanBe_23 (lv_at hl 4 rfl) ?_
    refine lv_aload_n hx hb dX4_bowAllThatCanBe_25 rfl (lv_at hl 0 rfl) ?_
    refine me_get (ci := 4) (C := RX4) (T := TX4) (N := 8) hx hb hts in_X4_bowAllThatCanBe_X4 hown hK hP hT.1 rfl 0 (by decide) (hts _ kX4_bowAllThatCanBe_f24) rfl dX4_bowAllThatCanBe_26 ?_
    refine lv_icmp_ge (tgt := 121) hx hb dX4_bowAllThatCanBe_29 (by decide) (fun q => ?_) (fun q => ?_)
    · rw [if_pos q] at h
      refine lv_iinc (k := 3) (v := (x3 + (1 : Int32))) (lv' := [(3, .int (x3 + (1 : Int32))), (0, .ref (ad t)), (1, .int x1), (2, .int x2), (4, .int x4)]) hx hb dX4_bowAllThatCanBe_121 hl rfl rfl (by decide) rfl (fun ls hl => ?_)
      refine lv_goto (tgt := 6) hx hb dX4_bowAllThatCanBe_124 (by decide) ?_
      exact hk6 x1 x2 (x3 + (1 : Int32)) M h H locs ls hP hS (lv_sub hl [1, 2, 3, 0] rfl)
    · rw [if_neg q] at h
      refine lv_iconst (v := (0 : Int32)) hx hb dX4_bowAllThatCanBe_32 (by decide) ?_
      refine lv_istore (lv' := [(5, .int (0 : Int32)), (0, .ref (ad t)), (1, .int x1), (2, .int x2), (3, .int x3), (4, .int x4)]) hx hb dX4_bowAllThatCanBe_33 hl (by decide) rfl (fun ls hl => ?_)
      exact w_X4_bowAllThatCanBe_35 C0 t hT x2 x3 x4 k6 hk6 (X4_bowAllThatCanBe_23 t x2 x3 k6 n) (fun x1 x4 M h => ih x1 x4 M h) FU x1 (0 : Int32) M h H locs ls hP hS (lv_sub hl [1, 2, 3, 4, 5, 0] rfl)
set_option maxRecDepth 100000 in
set_option maxHeartbeats 4000000 in
theorem w_X4_bowAllThatCanBe_6 {p : Program} {l : Launch} {e : Env} {s : State} {m : MethodId} {args : Array Value} {below : List Frame} {meth : Method} {c : Code} {D : va_G} {cI : ClassId} {ad : Nat → Nat} {L : List CDs} {r : Int32} {M' : Mem} (C0 : me_X p s m args meth c cX4_bowAllThatCanBe 6 (some .int) wsX4_bowAllThatCanBe RX4 D cI ad L) (t : Nat) (hT : is_X4 L t) : ∀ (n : Nat) (x1 : Int32) (x2 : Int32) (x3 : Int32) (M : Mem), X4_bowAllThatCanBe_6 t n x1 x2 x3 M = some (r, M') → me_W p l e rmX4_bowAllThatCanBe s m args below meth c D cI ad L (some (.int r)) M' 6 6 [(0, .ref (ad t)), (1, .int x1), (2, .int x2), (3, .int x3)] [] M := by
  obtain ⟨hx, hb, hr, hml, hown, hts, hlk, hK, hI⟩ := id C0
  intro n
  induction n with
  | zero =>
    intro x1 x2 x3 M h
    rw [X4_bowAllThatCanBe_6] at h
    cases h
  | succ n ih =>
    intro x1 x2 x3 M h
    rw [X4_bowAllThatCanBe_6] at h
    intro H locs ls hP hS hl
    refine lv_iload_n hx hb dX4_bowAllThatCanBe_6 rfl (lv_at hl 3 rfl) ?_
    refine lv_sipush (v := (504 : Int32)) hx hb dX4_bowAllThatCanBe_7 (by decide) ?_
    refine lv_icmp_ge (tgt := 127) hx hb dX4_bowAllThatCanBe_10 (by decide) (fun q => ?_) (fun q => ?_)
    · rw [if_pos q] at h
      refine lv_iload_n hx hb dX4_bowAllThatCanBe_127 rfl (lv_at hl 1 rfl) ?_
      exact me_iret hx hb hr hlk hP hS h dX4_bowAllThatCanBe_128
    · rw [if_neg q] at h
      refine lv_iload_n hx hb dX4_bowAllThatCanBe_13 rfl (lv_at hl 1 rfl) ?_
      refine lv_iload_n hx hb dX4_bowAllThatCanBe_14 rfl (lv_at hl 2 rfl) ?_
      refine lv_icmp_eq (tgt := 127) hx hb dX4_bowAllThatCanBe_15 (by decide) (fun q => ?_) (fun q => ?_)
      · rw [if_pos q] at h
        refine lv_iload_n hx hb dX4_bowAllThatCanBe_127 rfl (lv_at hl 1 rfl) ?_
        exact me_iret hx hb hr hlk hP hS h dX4_bowAllThatCanBe_128
      · rw [if_neg q] at h
        refine lv_iload_n hx hb dX4_bowAllThatCanBe_18 rfl (lv_at hl 1 rfl) ?_
        refine lv_istore_n (lv' := [(2, .int x1), (0, .ref (ad t)), (1, .int x1), (3, .int x3)]) hx hb dX4_bowAllThatCanBe_19 rfl hl (by decide) rfl (fun ls hl => ?_)
        refine lv_iconst (v := (0 : Int32)) hx hb dX4_bowAllThatCanBe_20 (by decide) ?_
        refine lv_istore (lv' := [(4, .int (0 : Int32)), (2, .int x1), (0, .ref (ad t)), (1, .int x1), (3, .int x3)]) hx hb dX4_bowAllThatCanBe_21 hl (by decide) rfl (fun ls hl => ?_)
        exact w_X4_bowAllThatCanBe_23 C0 t hT x1 x3 (X4_bowAllThatCanBe_6 t n) (fun x1 x2 x3 M h => ih x1 x2 x3 M h) FU x1 (0 : Int32) M h H locs ls hP hS (lv_sub hl [2, 3, 1, 4, 0] rfl)
set_option maxRecDepth 100000 in
set_option maxHeartbeats 4000000 in
theorem w_X4_bowAllThatCanBe {p : Program} {l : Launch} {e : Env} {s : State} {m : MethodId} {args : Array Value} {below : List Frame} {meth : Method} {c : Code} {D : va_G} {cI : ClassId} {ad : Nat → Nat} {L : List CDs} {r : Int32} {M' : Mem} (C0 : me_X p s m args meth c cX4_bowAllThatCanBe 6 (some .int) wsX4_bowAllThatCanBe RX4 D cI ad L) (t : Nat) (hT : is_X4 L t) : ∀  (M : Mem), X4_bowAllThatCanBe t M = some (r, M') → me_W p l e rmX4_bowAllThatCanBe s m args below meth c D cI ad L (some (.int r)) M' 6 0 [(0, .ref (ad t))] [] M := by
  obtain ⟨hx, hb, hr, hml, hown, hts, hlk, hK, hI⟩ := id C0
  intro M h
  unfold X4_bowAllThatCanBe at h
  intro H locs ls hP hS hl
  refine lv_iconst (v := (0 : Int32)) hx hb dX4_bowAllThatCanBe_0 (by decide) ?_
  refine lv_istore_n (lv' := [(1, .int (0 : Int32)), (0, .ref (ad t))]) hx hb dX4_bowAllThatCanBe_1 rfl hl (by decide) rfl (fun ls hl => ?_)
  refine lv_iconst (v := (-1 : Int32)) hx hb dX4_bowAllThatCanBe_2 (by decide) ?_
  refine lv_istore_n (lv' := [(2, .int (-1 : Int32)), (1, .int (0 : Int32)), (0, .ref (ad t))]) hx hb dX4_bowAllThatCanBe_3 rfl hl (by decide) rfl (fun ls hl => ?_)
  refine lv_iconst (v := (0 : Int32)) hx hb dX4_bowAllThatCanBe_4 (by decide) ?_
  refine lv_istore_n (lv' := [(3, .int (0 : Int32)), (2, .int (-1 : Int32)), (1, .int (0 : Int32)), (0, .ref (ad t))]) hx hb dX4_bowAllThatCanBe_5 rfl hl (by decide) rfl (fun ls hl => ?_)
  exact w_X4_bowAllThatCanBe_6 C0 t hT FU (0 : Int32) (-1 : Int32) (0 : Int32) M h H locs ls hP hS (lv_sub hl [3, 2, 1, 0] rfl)
theorem c_X4_bowAllThatCanBe {l : Launch} {D : va_G} {cI : ClassId} {ad : Nat → Nat} {L : List CDs} {t : Nat} (hT : is_X4 L t)  {M M' : Mem} {r : Int32} (h : X4_bowAllThatCanBe t M = some (r, M')) : me_Met l yX4_bowAllThatCanBe wsX4_bowAllThatCanBe rmX4_bowAllThatCanBe D cI ad L [.ref (ad t)] (some (.int r)) M M' :=
  me_ofW (by decide) rfl (Nat.le_of_ble_eq_true rfl) (fun p e s m below meth c C0 => w_X4_bowAllThatCanBe C0 t hT M h)
abbrev rmX4_firstTwoBowAtOnce : Room := { frames := 2, cells := 0, slots := 0, locals := 46 }
theorem kX4_firstTwoBowAtOnce_f24 : (Cond.fieldLink RX4 24 "LadderOfBows$Town" "persons" "I") ∈ wsX4_firstTwoBowAtOnce := List.mem_of_getElem? (i := 1) rfl
theorem in_X4_firstTwoBowAtOnce_X4 : ∀ w ∈ wsX40, w ∈ wsX4_firstTwoBowAtOnce := by decide +kernel
theorem hd_X4_firstTwoBowAtOnce : yX4_firstTwoBowAtOnce.cls = RX4 ∧ yX4_firstTwoBowAtOnce.cls ≠ "java/lang/invoke/MethodHandle" ∧ yX4_firstTwoBowAtOnce.cls ≠ "java/lang/invoke/VarHandle" ∧ (parseMethodDescriptor yX4_firstTwoBowAtOnce.desc).map (fun d => d.parameters.length) = some 0 := by decide +kernel
set_option maxRecDepth 100000 in
set_option maxHeartbeats 4000000 in
theorem w_X4_firstTwoBowAtOnce_14 {p : Program} {l : Launch} {e : Env} {s : State} {m : MethodId} {args : Array Value} {below : List Frame} {meth : Method} {c : Code} {D : va_G} {cI : ClassId} {ad : Nat → Nat} {L : List CDs} {r : Int32} {M' : Mem} (C0 : me_X p s m args meth c cX4_firstTwoBowAtOnce 3 (some .boolean) wsX4_firstTwoBowAtOnce RX4 D cI ad L) (t : Nat) (hT : is_X4 L t) (x1 : Int32) (k2 : Int32 → Mem → Option (Int32 × Mem)) (hk2 : ∀ (x1 : Int32) (M : Mem), k2 x1 M = some (r, M') → me_W p l e rmX4_firstTwoBowAtOnce s m args below meth c D cI ad L (some (.int r)) M' 3 2 [(0, .ref (ad t)), (1, .int x1)] [] M) : ∀ (n : Nat) (x2 : Int32) (M : Mem), X4_firstTwoBowAtOnce_14 t x1 k2 n x2 M = some (r, M') → me_W p l e rmX4_firstTwoBowAtOnce s m args below meth c D cI ad L (some (.int r)) M' 3 14 [(0, .ref (ad t)), (1, .int x1), (2, .int x2)] [] M := by
  obtain ⟨hx, hb, hr, hml, hown, hts, hlk, hK, hI⟩ := id C0
  intro n
  induction n with
  | zero =>
    intro x2 M h
    rw [X4_firstTwoBowAtOnce_14] at h
    cases h
  | succ n ih =>
    intro x2 M h
    rw [X4_firstTwoBowAtOnce_14] at h
    intro H locs ls hP hS hl
    refine lv_iload_n hx hb dX4_firstTwoBowAtOnce_14 rfl (lv_at hl 2 rfl) ?_
    refine lv_aload_n hx hb dX4_firstTwoBowAtOnce_15 rfl (lv_at hl 0 rfl) ?_
    refine me_get (ci := 4) (C := RX4) (T := TX4) (N := 8) hx hb hts in_X4_firstTwoBowAtOnce_X4 hown hK hP hT.1 rfl 0 (by decide) (hts _ kX4_firstTwoBowAtOnce_f24) rfl dX4_firstTwoBowAtOnce_16 ?_
    refine lv_icmp_ge (tgt := 67) hx hb dX4_firstTwoBowAtOnce_19 (by decide) (fun q => ?_) (fun q => ?_)
    · rw [if_pos q] at h
      refine lv_iinc (k := 1) (v := (x1 + (1 : Int32))) (lv' := [(1, .int (x1 + (1 : Int32))), (0, .ref (ad t)), (2, .int x2)]) hx hb dX4_firstTwoBowAtOnce_67 hl rfl rfl (by decide) rfl (fun ls hl => ?_)
      refine lv_goto (tgt := 2) hx hb dX4_firstTwoBowAtOnce_70 (by decide) ?_
      exact hk2 (x1 + (1 : Int32)) M h H locs ls hP hS (lv_sub hl [1, 0] rfl)
    · rw [if_neg q] at h
      refine lv_aload_n hx hb dX4_firstTwoBowAtOnce_22 rfl (lv_at hl 0 rfl) ?_
      refine lv_iload_n hx hb dX4_firstTwoBowAtOnce_23 rfl (lv_at hl 1 rfl) ?_
      refine lv_iload_n hx hb dX4_firstTwoBowAtOnce_24 rfl (lv_at hl 2 rfl) ?_
      obtain ⟨v25, M25, h1, h⟩ := s_call_inv h
      refine me_callVi (As := [.int x1, .int x2]) (rest := []) ⟨hx, hb, hml, hown, hts⟩ (c_X4_canBowAtOnce hT h1) (cwV 2 hts gX4_firstTwoBowAtOnce_X4_canBowAtOnce rfl rfl rfl hd_X4_canBowAtOnce ⟨(Nat.le_of_ble_eq_true rfl), (Nat.le_of_ble_eq_true rfl)⟩) hK hI hP hS hT.1 rfl rfl hl.1 rfl (Nat.le_of_ble_eq_true rfl) dX4_firstTwoBowAtOnce_25 ⟨Nat.zero_le _, Nat.zero_le _⟩ (fun H locs hP hS => ?_)
      refine lv_if_eq (tgt := 61) hx hb dX4_firstTwoBowAtOnce_28 (by decide) (fun q => ?_) (fun q => ?_)
      · rw [if_pos q] at h
        refine lv_iinc (k := 2) (v := (x2 + (1 : Int32))) (lv' := [(2, .int (x2 + (1 : Int32))), (0, .ref (ad t)), (1, .int x1)]) hx hb dX4_firstTwoBowAtOnce_61 hl rfl rfl (by decide) rfl (fun ls hl => ?_)
        refine lv_goto (tgt := 14) hx hb dX4_firstTwoBowAtOnce_64 (by decide) ?_
        exact ih (x2 + (1 : Int32)) M25 h H locs ls hP hS (lv_sub hl [1, 2, 0] rfl)
      · rw [if_neg q] at h
        refine lv_aload_n hx hb dX4_firstTwoBowAtOnce_31 rfl (lv_at hl 0 rfl) ?_
        refine lv_iload_n hx hb dX4_firstTwoBowAtOnce_32 rfl (lv_at hl 1 rfl) ?_
        obtain ⟨v33, M33, h1, h⟩ := s_call_inv h
        refine me_callVi (As := [.int x1]) (rest := []) ⟨hx, hb, hml, hown, hts⟩ (c_X4_paysToday hT h1) (cwV 1 hts gX4_firstTwoBowAtOnce_X4_paysToday rfl rfl rfl hd_X4_paysToday ⟨(Nat.le_of_ble_eq_true rfl), (Nat.le_of_ble_eq_true rfl)⟩) hK hI hP hS hT.1 rfl rfl hl.1 rfl (Nat.le_of_ble_eq_true rfl) dX4_firstTwoBowAtOnce_33 ⟨Nat.zero_le _, Nat.zero_le _⟩ (fun H locs hP hS => ?_)
        refine lv_if_ne (tgt := 47) hx hb dX4_firstTwoBowAtOnce_36 (by decide) (fun q => ?_) (fun q => ?_)
        · rw [if_pos q] at h
          refine lv_aload_n hx hb dX4_firstTwoBowAtOnce_47 rfl (lv_at hl 0 rfl) ?_
          refine lv_iload_n hx hb dX4_firstTwoBowAtOnce_48 rfl (lv_at hl 1 rfl) ?_
          refine lv_iload_n hx hb dX4_firstTwoBowAtOnce_49 rfl (lv_at hl 2 rfl) ?_
          obtain ⟨u50, M50, h1, h⟩ := s_call_inv h
          refine me_callVv (As := [.int x1, .int x2]) (rest := []) ⟨hx, hb, hml, hown, hts⟩ (c_X4_pay hT h1) (cwV 2 hts gX4_firstTwoBowAtOnce_X4_pay rfl rfl rfl hd_X4_pay ⟨(Nat.le_of_ble_eq_true rfl), (Nat.le_of_ble_eq_true rfl)⟩) hK hI hP hS hT.1 rfl rfl hl.1 rfl (Nat.le_of_ble_eq_true rfl) dX4_firstTwoBowAtOnce_50 ⟨Nat.zero_le _, Nat.zero_le _⟩ (fun H locs hP hS => ?_)
          refine lv_aload_n hx hb dX4_firstTwoBowAtOnce_53 rfl (lv_at hl 0 rfl) ?_
          refine lv_iload_n hx hb dX4_firstTwoBowAtOnce_54 rfl (lv_at hl 2 rfl) ?_
          refine lv_iload_n hx hb dX4_firstTwoBowAtOnce_55 rfl (lv_at hl 1 rfl) ?_
          obtain ⟨u56, M56, h1, h⟩ := s_call_inv h
          refine me_callVv (As := [.int x2, .int x1]) (rest := []) ⟨hx, hb, hml, hown, hts⟩ (c_X4_pay hT h1) (cwV 2 hts gX4_firstTwoBowAtOnce_X4_pay rfl rfl rfl hd_X4_pay ⟨(Nat.le_of_ble_eq_true rfl), (Nat.le_of_ble_eq_true rfl)⟩) hK hI hP hS hT.1 rfl rfl hl.1 rfl (Nat.le_of_ble_eq_true rfl) dX4_firstTwoBowAtOnce_56 ⟨Nat.zero_le _, Nat.zero_le _⟩ (fun H locs hP hS => ?_)
          refine lv_iconst (v := (1 : Int32)) hx hb dX4_firstTwoBowAtOnce_59 (by decide) ?_
          exact me_zret hx hb hr hlk hP hS h dX4_firstTwoBowAtOnce_60
        · rw [if_neg (not_not_intro q)] at h
          refine lv_aload_n hx hb dX4_firstTwoBowAtOnce_39 rfl (lv_at hl 0 rfl) ?_
          refine lv_iload_n hx hb dX4_firstTwoBowAtOnce_40 rfl (lv_at hl 2 rfl) ?_
          obtain ⟨v41, M41, h1, h⟩ := s_call_inv h
          refine me_callVi (As := [.int x2]) (rest := []) ⟨hx, hb, hml, hown, hts⟩ (c_X4_paysToday hT h1) (cwV 1 hts gX4_firstTwoBowAtOnce_X4_paysToday rfl rfl rfl hd_X4_paysToday ⟨(Nat.le_of_ble_eq_true rfl), (Nat.le_of_ble_eq_true rfl)⟩) hK hI hP hS hT.1 rfl rfl hl.1 rfl (Nat.le_of_ble_eq_true rfl) dX4_firstTwoBowAtOnce_41 ⟨Nat.zero_le _, Nat.zero_le _⟩ (fun H locs hP hS => ?_)
          refine lv_if_eq (tgt := 61) hx hb dX4_firstTwoBowAtOnce_44 (by decide) (fun q => ?_) (fun q => ?_)
          · rw [if_pos q] at h
            refine lv_iinc (k := 2) (v := (x2 + (1 : Int32))) (lv' := [(2, .int (x2 + (1 : Int32))), (0, .ref (ad t)), (1, .int x1)]) hx hb dX4_firstTwoBowAtOnce_61 hl rfl rfl (by decide) rfl (fun ls hl => ?_)
            refine lv_goto (tgt := 14) hx hb dX4_firstTwoBowAtOnce_64 (by decide) ?_
            exact ih (x2 + (1 : Int32)) M41 h H locs ls hP hS (lv_sub hl [1, 2, 0] rfl)
          · rw [if_neg q] at h
            refine lv_aload_n hx hb dX4_firstTwoBowAtOnce_47 rfl (lv_at hl 0 rfl) ?_
            refine lv_iload_n hx hb dX4_firstTwoBowAtOnce_48 rfl (lv_at hl 1 rfl) ?_
            refine lv_iload_n hx hb dX4_firstTwoBowAtOnce_49 rfl (lv_at hl 2 rfl) ?_
            obtain ⟨u50, M50, h1, h⟩ := s_call_inv h
            refine me_callVv (As := [.int x1, .int x2]) (rest := []) ⟨hx, hb, hml, hown, hts⟩ (c_X4_pay hT h1) (cwV 2 hts gX4_firstTwoBowAtOnce_X4_pay rfl rfl rfl hd_X4_pay ⟨(Nat.le_of_ble_eq_true rfl), (Nat.le_of_ble_eq_true rfl)⟩) hK hI hP hS hT.1 rfl rfl hl.1 rfl (Nat.le_of_ble_eq_true rfl) dX4_firstTwoBowAtOnce_50 ⟨Nat.zero_le _, Nat.zero_le _⟩ (fun H locs hP hS => ?_)
            refine lv_aload_n hx hb dX4_firstTwoBowAtOnce_53 rfl (lv_at hl 0 rfl) ?_
            refine lv_iload_n hx hb dX4_firstTwoBowAtOnce_54 rfl (lv_at hl 2 rfl) ?_
            refine lv_iload_n hx hb dX4_firstTwoBowAtOnce_55 rfl (lv_at hl 1 rfl) ?_
            obtain ⟨u56, M56, h1, h⟩ := s_call_inv h
            refine me_callVv (As := [.int x2, .int x1]) (rest := []) ⟨hx, hb, hml, hown, hts⟩ (c_X4_pay hT h1) (cwV 2 hts gX4_firstTwoBowAtOnce_X4_pay rfl rfl rfl hd_X4_pay ⟨(Nat.le_of_ble_eq_true rfl), (Nat.le_of_ble_eq_true rfl)⟩) hK hI hP hS hT.1 rfl rfl hl.1 rfl (Nat.le_of_ble_eq_true rfl) dX4_firstTwoBowAtOnce_56 ⟨Nat.zero_le _, Nat.zero_le _⟩ (fun H locs hP hS => ?_)
            refine lv_iconst (v := (1 : Int32)) hx hb dX4_firstTwoBowAtOnce_59 (by decide) ?_
            exact me_zret hx hb hr hlk hP hS h dX4_firstTwoBowAtOnce_60
set_option maxRecDepth 100000 in
set_option maxHeartbeats 4000000 in
theorem w_X4_firstTwoBowAtOnce_2 {p : Program} {l : Launch} {e : Env} {s : State} {m : MethodId} {args : Array Value} {below : List Frame} {meth : Method} {c : Code} {D : va_G} {cI : ClassId} {ad : Nat → Nat} {L : List CDs} {r : Int32} {M' : Mem} (C0 : me_X p s m args meth c cX4_firstTwoBowAtOnce 3 (some .boolean) wsX4_firstTwoBowAtOnce RX4 D cI ad L) (t : Nat) (hT : is_X4 L t) : ∀ (n : Nat) (x1 : Int32) (M : Mem), X4_firstTwoBowAtOnce_2 t n x1 M = some (r, M') → me_W p l e rmX4_firstTwoBowAtOnce s m args below meth c D cI ad L (some (.int r)) M' 3 2 [(0, .ref (ad t)), (1, .int x1)] [] M := by
  obtain ⟨hx, hb, hr, hml, hown, hts, hlk, hK, hI⟩ := id C0
  intro n
  induction n with
  | zero =>
    intro x1 M h
    rw [X4_firstTwoBowAtOnce_2] at h
    cases h
  | succ n ih =>
    intro x1 M h
    rw [X4_firstTwoBowAtOnce_2] at h
    intro H locs ls hP hS hl
    refine lv_iload_n hx hb dX4_firstTwoBowAtOnce_2 rfl (lv_at hl 1 rfl) ?_
    refine lv_aload_n hx hb dX4_firstTwoBowAtOnce_3 rfl (lv_at hl 0 rfl) ?_
    refine me_get (ci := 4) (C := RX4) (T := TX4) (N := 8) hx hb hts in_X4_firstTwoBowAtOnce_X4 hown hK hP hT.1 rfl 0 (by decide) (hts _ kX4_firstTwoBowAtOnce_f24) rfl dX4_firstTwoBowAtOnce_4 ?_
    refine lv_icmp_ge (tgt := 73) hx hb dX4_firstTwoBowAtOnce_7 (by decide) (fun q => ?_) (fun q => ?_)
    · rw [if_pos q] at h
      refine lv_iconst (v := (0 : Int32)) hx hb dX4_firstTwoBowAtOnce_73 (by decide) ?_
      exact me_zret hx hb hr hlk hP hS h dX4_firstTwoBowAtOnce_74
    · rw [if_neg q] at h
      refine lv_iload_n hx hb dX4_firstTwoBowAtOnce_10 rfl (lv_at hl 1 rfl) ?_
      refine lv_iconst (v := (1 : Int32)) hx hb dX4_firstTwoBowAtOnce_11 (by decide) ?_
      refine lv_iadd hx hb dX4_firstTwoBowAtOnce_12 ?_
      refine lv_topi (fun x2_13 ev => ?_)
      replace h := s_let_inv h x2_13 ev
      refine lv_istore_n (lv' := [(2, .int x2_13), (0, .ref (ad t)), (1, .int x1)]) hx hb dX4_firstTwoBowAtOnce_13 rfl hl (by decide) rfl (fun ls hl => ?_)
      exact w_X4_firstTwoBowAtOnce_14 C0 t hT x1 (X4_firstTwoBowAtOnce_2 t n) (fun x1 M h => ih x1 M h) FU x2_13 M h H locs ls hP hS (lv_sub hl [1, 2, 0] rfl)
set_option maxRecDepth 100000 in
set_option maxHeartbeats 4000000 in
theorem w_X4_firstTwoBowAtOnce {p : Program} {l : Launch} {e : Env} {s : State} {m : MethodId} {args : Array Value} {below : List Frame} {meth : Method} {c : Code} {D : va_G} {cI : ClassId} {ad : Nat → Nat} {L : List CDs} {r : Int32} {M' : Mem} (C0 : me_X p s m args meth c cX4_firstTwoBowAtOnce 3 (some .boolean) wsX4_firstTwoBowAtOnce RX4 D cI ad L) (t : Nat) (hT : is_X4 L t) : ∀  (M : Mem), X4_firstTwoBowAtOnce t M = some (r, M') → me_W p l e rmX4_firstTwoBowAtOnce s m args below meth c D cI ad L (some (.int r)) M' 3 0 [(0, .ref (ad t))] [] M := by
  obtain ⟨hx, hb, hr, hml, hown, hts, hlk, hK, hI⟩ := id C0
  intro M h
  unfold X4_firstTwoBowAtOnce at h
  intro H locs ls hP hS hl
  refine lv_iconst (v := (0 : Int32)) hx hb dX4_firstTwoBowAtOnce_0 (by decide) ?_
  refine lv_istore_n (lv' := [(1, .int (0 : Int32)), (0, .ref (ad t))]) hx hb dX4_firstTwoBowAtOnce_1 rfl hl (by decide) rfl (fun ls hl => ?_)
  exact w_X4_firstTwoBowAtOnce_2 C0 t hT FU (0 : Int32) M h H locs ls hP hS (lv_sub hl [1, 0] rfl)
theorem c_X4_firstTwoBowAtOnce {l : Launch} {D : va_G} {cI : ClassId} {ad : Nat → Nat} {L : List CDs} {t : Nat} (hT : is_X4 L t)  {M M' : Mem} {r : Int32} (h : X4_firstTwoBowAtOnce t M = some (r, M')) : me_Met l yX4_firstTwoBowAtOnce wsX4_firstTwoBowAtOnce rmX4_firstTwoBowAtOnce D cI ad L [.ref (ad t)] (some (.int r)) M M' :=
  me_ofW (by decide) rfl (Nat.le_of_ble_eq_true rfl) (fun p e s m below meth c C0 => w_X4_firstTwoBowAtOnce C0 t hT M h)
abbrev rmX4_makePeace : Room := { frames := 3, cells := 0, slots := 0, locals := 69 }
theorem hd_X4_makePeace : yX4_makePeace.cls = RX4 ∧ yX4_makePeace.cls ≠ "java/lang/invoke/MethodHandle" ∧ yX4_makePeace.cls ≠ "java/lang/invoke/VarHandle" ∧ (parseMethodDescriptor yX4_makePeace.desc).map (fun d => d.parameters.length) = some 0 := by decide +kernel
set_option maxRecDepth 100000 in
set_option maxHeartbeats 4000000 in
theorem w_X4_makePeace_7 {p : Program} {l : Launch} {e : Env} {s : State} {m : MethodId} {args : Array Value} {below : List Frame} {meth : Method} {c : Code} {D : va_G} {cI : ClassId} {ad : Nat → Nat} {L : List CDs} {r : Int32} {M' : Mem} (C0 : me_X p s m args meth c cX4_makePeace 3 (some .int) wsX4_makePeace RX4 D cI ad L) (t : Nat) (hT : is_X4 L t) : ∀ (n : Nat) (x1 : Int32) (x2 : Int32) (M : Mem), X4_makePeace_7 t n x1 x2 M = some (r, M') → me_W p l e rmX4_makePeace s m args below meth c D cI ad L (some (.int r)) M' 3 7 [(0, .ref (ad t)), (1, .int x1), (2, .int x2)] [] M := by
  obtain ⟨hx, hb, hr, hml, hown, hts, hlk, hK, hI⟩ := id C0
  intro n
  induction n with
  | zero =>
    intro x1 x2 M h
    rw [X4_makePeace_7] at h
    cases h
  | succ n ih =>
    intro x1 x2 M h
    rw [X4_makePeace_7] at h
    intro H locs ls hP hS hl
    refine lv_iload_n hx hb dX4_makePeace_7 rfl (lv_at hl 2 rfl) ?_
    refine lv_sipush (v := (504 : Int32)) hx hb dX4_makePeace_8 (by decide) ?_
    refine lv_icmp_ge (tgt := 39) hx hb dX4_makePeace_11 (by decide) (fun q => ?_) (fun q => ?_)
    · rw [if_pos q] at h
      refine lv_iload_n hx hb dX4_makePeace_39 rfl (lv_at hl 1 rfl) ?_
      exact me_iret hx hb hr hlk hP hS h dX4_makePeace_40
    · rw [if_neg q] at h
      refine lv_aload_n hx hb dX4_makePeace_14 rfl (lv_at hl 0 rfl) ?_
      obtain ⟨v15, M15, h1, h⟩ := s_call_inv h
      refine me_callVi (As := []) (rest := []) ⟨hx, hb, hml, hown, hts⟩ (c_X4_firstTwoBowAtOnce hT h1) (cwV 0 hts gX4_makePeace_X4_firstTwoBowAtOnce rfl rfl rfl hd_X4_firstTwoBowAtOnce ⟨(Nat.le_of_ble_eq_true rfl), (Nat.le_of_ble_eq_true rfl)⟩) hK hI hP hS hT.1 rfl rfl hl.1 rfl (Nat.le_of_ble_eq_true rfl) dX4_makePeace_15 ⟨Nat.zero_le _, Nat.zero_le _⟩ (fun H locs hP hS => ?_)
      refine lv_if_ne (tgt := 24) hx hb dX4_makePeace_18 (by decide) (fun q => ?_) (fun q => ?_)
      · rw [if_pos q] at h
        refine lv_iload_n hx hb dX4_makePeace_24 rfl (lv_at hl 1 rfl) ?_
        refine lv_iconst (v := (1 : Int32)) hx hb dX4_makePeace_25 (by decide) ?_
        refine lv_aload_n hx hb dX4_makePeace_26 rfl (lv_at hl 0 rfl) ?_
        obtain ⟨v27, M27, h1, h⟩ := s_call_inv h
        refine me_callVi (As := []) (rest := [.int (1 : Int32), .int x1]) ⟨hx, hb, hml, hown, hts⟩ (c_X4_bowAllThatCanBe hT h1) (cwV 0 hts gX4_makePeace_X4_bowAllThatCanBe rfl rfl rfl hd_X4_bowAllThatCanBe ⟨(Nat.le_of_ble_eq_true rfl), (Nat.le_of_ble_eq_true rfl)⟩) hK hI hP hS hT.1 rfl rfl hl.1 rfl (Nat.le_of_ble_eq_true rfl) dX4_makePeace_27 ⟨Nat.zero_le _, Nat.zero_le _⟩ (fun H locs hP hS => ?_)
        refine lv_iadd hx hb dX4_makePeace_30 ?_
        refine lv_iadd hx hb dX4_makePeace_31 ?_
        refine lv_topi (fun x1_32 ev => ?_)
        replace h := s_let_inv h x1_32 ev
        refine lv_istore_n (lv' := [(1, .int x1_32), (0, .ref (ad t)), (2, .int x2)]) hx hb dX4_makePeace_32 rfl hl (by decide) rfl (fun ls hl => ?_)
        refine lv_iinc (k := 2) (v := (x2 + (1 : Int32))) (lv' := [(2, .int (x2 + (1 : Int32))), (1, .int x1_32), (0, .ref (ad t))]) hx hb dX4_makePeace_33 hl rfl rfl (by decide) rfl (fun ls hl => ?_)
        refine lv_goto (tgt := 7) hx hb dX4_makePeace_36 (by decide) ?_
        exact ih x1_32 (x2 + (1 : Int32)) M27 h H locs ls hP hS (lv_sub hl [2, 1, 0] rfl)
      · rw [if_neg (not_not_intro q)] at h
        refine lv_goto (tgt := 39) hx hb dX4_makePeace_21 (by decide) ?_
        refine lv_iload_n hx hb dX4_makePeace_39 rfl (lv_at hl 1 rfl) ?_
        exact me_iret hx hb hr hlk hP hS h dX4_makePeace_40
set_option maxRecDepth 100000 in
set_option maxHeartbeats 4000000 in
theorem w_X4_makePeace {p : Program} {l : Launch} {e : Env} {s : State} {m : MethodId} {args : Array Value} {below : List Frame} {meth : Method} {c : Code} {D : va_G} {cI : ClassId} {ad : Nat → Nat} {L : List CDs} {r : Int32} {M' : Mem} (C0 : me_X p s m args meth c cX4_makePeace 3 (some .int) wsX4_makePeace RX4 D cI ad L) (t : Nat) (hT : is_X4 L t) : ∀  (M : Mem), X4_makePeace t M = some (r, M') → me_W p l e rmX4_makePeace s m args below meth c D cI ad L (some (.int r)) M' 3 0 [(0, .ref (ad t))] [] M := by
  obtain ⟨hx, hb, hr, hml, hown, hts, hlk, hK, hI⟩ := id C0
  intro M h
  unfold X4_makePeace at h
  intro H locs ls hP hS hl
  refine lv_aload_n hx hb dX4_makePeace_0 rfl (lv_at hl 0 rfl) ?_
  obtain ⟨v1, M1, h1, h⟩ := s_call_inv h
  refine me_callVi (As := []) (rest := []) ⟨hx, hb, hml, hown, hts⟩ (c_X4_bowAllThatCanBe hT h1) (cwV 0 hts gX4_makePeace_X4_bowAllThatCanBe rfl rfl rfl hd_X4_bowAllThatCanBe ⟨(Nat.le_of_ble_eq_true rfl), (Nat.le_of_ble_eq_true rfl)⟩) hK hI hP hS hT.1 rfl rfl hl.1 rfl (Nat.le_of_ble_eq_true rfl) dX4_makePeace_1 ⟨Nat.zero_le _, Nat.zero_le _⟩ (fun H locs hP hS => ?_)
  refine lv_istore_n (lv' := [(1, .int v1), (0, .ref (ad t))]) hx hb dX4_makePeace_4 rfl hl (by decide) rfl (fun ls hl => ?_)
  refine lv_iconst (v := (0 : Int32)) hx hb dX4_makePeace_5 (by decide) ?_
  refine lv_istore_n (lv' := [(2, .int (0 : Int32)), (1, .int v1), (0, .ref (ad t))]) hx hb dX4_makePeace_6 rfl hl (by decide) rfl (fun ls hl => ?_)
  exact w_X4_makePeace_7 C0 t hT FU v1 (0 : Int32) M1 h H locs ls hP hS (lv_sub hl [2, 1, 0] rfl)
theorem c_X4_makePeace {l : Launch} {D : va_G} {cI : ClassId} {ad : Nat → Nat} {L : List CDs} {t : Nat} (hT : is_X4 L t)  {M M' : Mem} {r : Int32} (h : X4_makePeace t M = some (r, M')) : me_Met l yX4_makePeace wsX4_makePeace rmX4_makePeace D cI ad L [.ref (ad t)] (some (.int r)) M M' :=
  me_ofW (by decide) rfl (Nat.le_of_ble_eq_true rfl) (fun p e s m below meth c C0 => w_X4_makePeace C0 t hT M h)
abbrev rmX5_write : Room := { frames := 1, cells := 0, slots := 0, locals := 21 }
theorem kX5_write_f12 : (Cond.fieldLink RX5 12 "LadderOfBows" "text" "LLadderOfBows$Letters;") ∈ wsX5_write := List.mem_of_getElem? (i := 1) rfl
theorem in_X5_write_X5 : ∀ w ∈ wsX50, w ∈ wsX5_write := by decide +kernel
theorem hd_X5_write : yX5_write.cls = RX5 ∧ yX5_write.cls ≠ "java/lang/invoke/MethodHandle" ∧ yX5_write.cls ≠ "java/lang/invoke/VarHandle" ∧ (parseMethodDescriptor yX5_write.desc).map (fun d => d.parameters.length) = some 1 := by decide +kernel
set_option maxRecDepth 100000 in
set_option maxHeartbeats 4000000 in
theorem w_X5_write {p : Program} {l : Launch} {e : Env} {s : State} {m : MethodId} {args : Array Value} {below : List Frame} {meth : Method} {c : Code} {D : va_G} {cI : ClassId} {ad : Nat → Nat} {L : List CDs} {r : Int32} {M' : Mem} (C0 : me_X p s m args meth c cX5_write 2 (some .int) wsX5_write RX5 D cI ad L) (t : Nat) (hT : is_X5 L t) (x1 : Int32) : ∀  (M : Mem), X5_write t x1 M = some (r, M') → me_W p l e rmX5_write s m args below meth c D cI ad L (some (.int r)) M' 2 0 [(0, .ref (ad t)), (1, .int x1)] [] M := by
  obtain ⟨hx, hb, hr, hml, hown, hts, hlk, hK, hI⟩ := id C0
  intro M h
  unfold X5_write at h
  intro H locs ls hP hS hl
  refine lv_iload_n hx hb dX5_write_0 rfl (lv_at hl 1 rfl) ?_
  refine lv_bipush (v := (32 : Int32)) hx hb dX5_write_1 (by decide) ?_
  refine lv_icmp_lt (tgt := 12) hx hb dX5_write_3 (by decide) (fun q => ?_) (fun q => ?_)
  · rw [if_pos q] at h
    refine lv_iconst (v := (-1 : Int32)) hx hb dX5_write_12 (by decide) ?_
    exact me_iret hx hb hr hlk hP hS h dX5_write_13
  · rw [if_neg q] at h
    refine lv_iload_n hx hb dX5_write_6 rfl (lv_at hl 1 rfl) ?_
    refine lv_bipush (v := (126 : Int32)) hx hb dX5_write_7 (by decide) ?_
    refine lv_icmp_le (tgt := 14) hx hb dX5_write_9 (by decide) (fun q => ?_) (fun q => ?_)
    · rw [if_pos q] at h
      refine lv_aload_n hx hb dX5_write_14 rfl (lv_at hl 0 rfl) ?_
      refine me_getr (ci := 5) (C := RX5) (T := TX5) (N := 13) hx hb hts in_X5_write_X5 hown hK hP hT.1 rfl 0 (by decide) (hts _ kX5_write_f12) rfl dX5_write_15 ?_
      obtain ⟨v18, M18, h1, h⟩ := s_call_inv h
      refine me_callVi (As := []) (rest := []) ⟨hx, hb, hml, hown, hts⟩ (c_X1_length hT.2.1 h1) (cwV 0 hts gX5_write_X1_length rfl rfl rfl hd_X1_length ⟨(Nat.le_of_ble_eq_true rfl), (Nat.le_of_ble_eq_true rfl)⟩) hK hI hP hS hT.2.1.1 rfl rfl hl.1 rfl (Nat.le_of_ble_eq_true rfl) dX5_write_18 ⟨Nat.zero_le _, Nat.zero_le _⟩ (fun H locs hP hS => ?_)
      refine lv_sipush (v := (200 : Int32)) hx hb dX5_write_21 (by decide) ?_
      refine lv_icmp_lt (tgt := 30) hx hb dX5_write_24 (by decide) (fun q => ?_) (fun q => ?_)
      · rw [if_pos q] at h
        refine lv_aload_n hx hb dX5_write_30 rfl (lv_at hl 0 rfl) ?_
        refine me_getr (ci := 5) (C := RX5) (T := TX5) (N := 13) hx hb hts in_X5_write_X5 hown hK hP hT.1 rfl 0 (by decide) (hts _ kX5_write_f12) rfl dX5_write_31 ?_
        refine lv_iload_n hx hb dX5_write_34 rfl (lv_at hl 1 rfl) ?_
        obtain ⟨u35, M35, h1, h⟩ := s_call_inv h
        refine me_callVv (As := [.int x1]) (rest := []) ⟨hx, hb, hml, hown, hts⟩ (c_X1_add hT.2.1 h1) (cwV 1 hts gX5_write_X1_add rfl rfl rfl hd_X1_add ⟨(Nat.le_of_ble_eq_true rfl), (Nat.le_of_ble_eq_true rfl)⟩) hK hI hP hS hT.2.1.1 rfl rfl hl.1 rfl (Nat.le_of_ble_eq_true rfl) dX5_write_35 ⟨Nat.zero_le _, Nat.zero_le _⟩ (fun H locs hP hS => ?_)
        refine lv_aload_n hx hb dX5_write_38 rfl (lv_at hl 0 rfl) ?_
        refine me_getr (ci := 5) (C := RX5) (T := TX5) (N := 13) hx hb hts in_X5_write_X5 hown hK hP hT.1 rfl 0 (by decide) (hts _ kX5_write_f12) rfl dX5_write_39 ?_
        obtain ⟨v42, M42, h1, h⟩ := s_call_inv h
        refine me_callVi (As := []) (rest := []) ⟨hx, hb, hml, hown, hts⟩ (c_X1_length hT.2.1 h1) (cwV 0 hts gX5_write_X1_length rfl rfl rfl hd_X1_length ⟨(Nat.le_of_ble_eq_true rfl), (Nat.le_of_ble_eq_true rfl)⟩) hK hI hP hS hT.2.1.1 rfl rfl hl.1 rfl (Nat.le_of_ble_eq_true rfl) dX5_write_42 ⟨Nat.zero_le _, Nat.zero_le _⟩ (fun H locs hP hS => ?_)
        exact me_iret hx hb hr hlk hP hS h dX5_write_45
      · rw [if_neg q] at h
        refine lv_bipush (v := (-3 : Int32)) hx hb dX5_write_27 (by decide) ?_
        exact me_iret hx hb hr hlk hP hS h dX5_write_29
    · rw [if_neg q] at h
      refine lv_iconst (v := (-1 : Int32)) hx hb dX5_write_12 (by decide) ?_
      exact me_iret hx hb hr hlk hP hS h dX5_write_13
theorem c_X5_write {l : Launch} {D : va_G} {cI : ClassId} {ad : Nat → Nat} {L : List CDs} {t : Nat} (hT : is_X5 L t) {x1 : Int32} {M M' : Mem} {r : Int32} (h : X5_write t x1 M = some (r, M')) : me_Met l yX5_write wsX5_write rmX5_write D cI ad L [.ref (ad t), .int x1] (some (.int r)) M M' :=
  me_ofW (by decide) rfl (Nat.le_of_ble_eq_true rfl) (fun p e s m below meth c C0 => w_X5_write C0 t hT x1 M h)
abbrev rmX5_wipe : Room := { frames := 1, cells := 0, slots := 0, locals := 20 }
theorem kX5_wipe_f12 : (Cond.fieldLink RX5 12 "LadderOfBows" "text" "LLadderOfBows$Letters;") ∈ wsX5_wipe := List.mem_of_getElem? (i := 1) rfl
theorem in_X5_wipe_X5 : ∀ w ∈ wsX50, w ∈ wsX5_wipe := by decide +kernel
theorem hd_X5_wipe : yX5_wipe.cls = RX5 ∧ yX5_wipe.cls ≠ "java/lang/invoke/MethodHandle" ∧ yX5_wipe.cls ≠ "java/lang/invoke/VarHandle" ∧ (parseMethodDescriptor yX5_wipe.desc).map (fun d => d.parameters.length) = some 0 := by decide +kernel
set_option maxRecDepth 100000 in
set_option maxHeartbeats 4000000 in
theorem w_X5_wipe {p : Program} {l : Launch} {e : Env} {s : State} {m : MethodId} {args : Array Value} {below : List Frame} {meth : Method} {c : Code} {D : va_G} {cI : ClassId} {ad : Nat → Nat} {L : List CDs} {r : Int32} {M' : Mem} (C0 : me_X p s m args meth c cX5_wipe 2 (some .int) wsX5_wipe RX5 D cI ad L) (t : Nat) (hT : is_X5 L t) : ∀  (M : Mem), X5_wipe t M = some (r, M') → me_W p l e rmX5_wipe s m args below meth c D cI ad L (some (.int r)) M' 2 0 [(0, .ref (ad t))] [] M := by
  obtain ⟨hx, hb, hr, hml, hown, hts, hlk, hK, hI⟩ := id C0
  intro M h
  unfold X5_wipe at h
  intro H locs ls hP hS hl
  refine lv_aload_n hx hb dX5_wipe_0 rfl (lv_at hl 0 rfl) ?_
  refine me_getr (ci := 5) (C := RX5) (T := TX5) (N := 13) hx hb hts in_X5_wipe_X5 hown hK hP hT.1 rfl 0 (by decide) (hts _ kX5_wipe_f12) rfl dX5_wipe_1 ?_
  obtain ⟨v4, M4, h1, h⟩ := s_call_inv h
  refine me_callVi (As := []) (rest := []) ⟨hx, hb, hml, hown, hts⟩ (c_X1_length hT.2.1 h1) (cwV 0 hts gX5_wipe_X1_length rfl rfl rfl hd_X1_length ⟨(Nat.le_of_ble_eq_true rfl), (Nat.le_of_ble_eq_true rfl)⟩) hK hI hP hS hT.2.1.1 rfl rfl hl.1 rfl (Nat.le_of_ble_eq_true rfl) dX5_wipe_4 ⟨Nat.zero_le _, Nat.zero_le _⟩ (fun H locs hP hS => ?_)
  refine lv_istore_n (lv' := [(1, .int v4), (0, .ref (ad t))]) hx hb dX5_wipe_7 rfl hl (by decide) rfl (fun ls hl => ?_)
  refine lv_aload_n hx hb dX5_wipe_8 rfl (lv_at hl 1 rfl) ?_
  refine me_getr (ci := 5) (C := RX5) (T := TX5) (N := 13) hx hb hts in_X5_wipe_X5 hown hK hP hT.1 rfl 0 (by decide) (hts _ kX5_wipe_f12) rfl dX5_wipe_9 ?_
  obtain ⟨u12, M12, h1, h⟩ := s_call_inv h
  refine me_callVv (As := []) (rest := []) ⟨hx, hb, hml, hown, hts⟩ (c_X1_clear hT.2.1 h1) (cwV 0 hts gX5_wipe_X1_clear rfl rfl rfl hd_X1_clear ⟨(Nat.le_of_ble_eq_true rfl), (Nat.le_of_ble_eq_true rfl)⟩) hK hI hP hS hT.2.1.1 rfl rfl hl.1 rfl (Nat.le_of_ble_eq_true rfl) dX5_wipe_12 ⟨Nat.zero_le _, Nat.zero_le _⟩ (fun H locs hP hS => ?_)
  refine lv_iload_n hx hb dX5_wipe_15 rfl (lv_at hl 0 rfl) ?_
  exact me_iret hx hb hr hlk hP hS h dX5_wipe_16
theorem c_X5_wipe {l : Launch} {D : va_G} {cI : ClassId} {ad : Nat → Nat} {L : List CDs} {t : Nat} (hT : is_X5 L t)  {M M' : Mem} {r : Int32} (h : X5_wipe t M = some (r, M')) : me_Met l yX5_wipe wsX5_wipe rmX5_wipe D cI ad L [.ref (ad t)] (some (.int r)) M M' :=
  me_ofW (by decide) rfl (Nat.le_of_ble_eq_true rfl) (fun p e s m below meth c C0 => w_X5_wipe C0 t hT M h)
abbrev rmX5_fault : Room := { frames := 5, cells := 0, slots := 0, locals := 122 }
theorem kX5_fault_f19 : (Cond.fieldLink RX5 19 "LadderOfBows" "reader" "LLadderOfBows$Reader;") ∈ wsX5_fault := List.mem_of_getElem? (i := 1) rfl
theorem kX5_fault_f12 : (Cond.fieldLink RX5 12 "LadderOfBows" "text" "LLadderOfBows$Letters;") ∈ wsX5_fault := List.mem_of_getElem? (i := 2) rfl
theorem kX5_fault_f37 : (Cond.fieldLink RX5 37 "LadderOfBows" "trial" "LLadderOfBows$Town;") ∈ wsX5_fault := List.mem_of_getElem? (i := 3) rfl
theorem in_X5_fault_X5 : ∀ w ∈ wsX50, w ∈ wsX5_fault := by decide +kernel
theorem hd_X5_fault : yX5_fault.cls = RX5 ∧ yX5_fault.cls ≠ "java/lang/invoke/MethodHandle" ∧ yX5_fault.cls ≠ "java/lang/invoke/VarHandle" ∧ (parseMethodDescriptor yX5_fault.desc).map (fun d => d.parameters.length) = some 0 := by decide +kernel
set_option maxRecDepth 100000 in
set_option maxHeartbeats 4000000 in
theorem w_X5_fault {p : Program} {l : Launch} {e : Env} {s : State} {m : MethodId} {args : Array Value} {below : List Frame} {meth : Method} {c : Code} {D : va_G} {cI : ClassId} {ad : Nat → Nat} {L : List CDs} {r : Int32} {M' : Mem} (C0 : me_X p s m args meth c cX5_fault 1 (some .int) wsX5_fault RX5 D cI ad L) (t : Nat) (hT : is_X5 L t) : ∀  (M : Mem), X5_fault t M = some (r, M') → me_W p l e rmX5_fault s m args below meth c D cI ad L (some (.int r)) M' 1 0 [(0, .ref (ad t))] [] M := by
  obtain ⟨hx, hb, hr, hml, hown, hts, hlk, hK, hI⟩ := id C0
  intro M h
  unfold X5_fault at h
  intro H locs ls hP hS hl
  refine lv_aload_n hx hb dX5_fault_0 rfl (lv_at hl 0 rfl) ?_
  refine me_getr (ci := 5) (C := RX5) (T := TX5) (N := 13) hx hb hts in_X5_fault_X5 hown hK hP hT.1 rfl 1 (by decide) (hts _ kX5_fault_f19) rfl dX5_fault_1 ?_
  refine lv_aload_n hx hb dX5_fault_4 rfl (lv_at hl 0 rfl) ?_
  refine me_getr (ci := 5) (C := RX5) (T := TX5) (N := 13) hx hb hts in_X5_fault_X5 hown hK hP hT.1 rfl 0 (by decide) (hts _ kX5_fault_f12) rfl dX5_fault_5 ?_
  refine lv_aload_n hx hb dX5_fault_8 rfl (lv_at hl 0 rfl) ?_
  refine me_getr (ci := 5) (C := RX5) (T := TX5) (N := 13) hx hb hts in_X5_fault_X5 hown hK hP hT.1 rfl 4 (by decide) (hts _ kX5_fault_f37) rfl dX5_fault_9 ?_
  obtain ⟨v12, M12, h1, h⟩ := s_call_inv h
  refine me_callVi (As := [.ref (ad (t + 1)), .ref (ad (t + 23))]) (rest := []) ⟨hx, hb, hml, hown, hts⟩ (c_X3_readTown hT.2.2.1 hT.2.1 hT.2.2.2.2.2.1 h1) (cwV 2 hts gX5_fault_X3_readTown rfl rfl rfl hd_X3_readTown ⟨(Nat.le_of_ble_eq_true rfl), (Nat.le_of_ble_eq_true rfl)⟩) hK hI hP hS hT.2.2.1.1 rfl rfl hl.1 rfl (Nat.le_of_ble_eq_true rfl) dX5_fault_12 ⟨Nat.zero_le _, Nat.zero_le _⟩ (fun H locs hP hS => ?_)
  exact me_iret hx hb hr hlk hP hS h dX5_fault_15
theorem c_X5_fault {l : Launch} {D : va_G} {cI : ClassId} {ad : Nat → Nat} {L : List CDs} {t : Nat} (hT : is_X5 L t)  {M M' : Mem} {r : Int32} (h : X5_fault t M = some (r, M')) : me_Met l yX5_fault wsX5_fault rmX5_fault D cI ad L [.ref (ad t)] (some (.int r)) M M' :=
  me_ofW (by decide) rfl (Nat.le_of_ble_eq_true rfl) (fun p e s m below meth c C0 => w_X5_fault C0 t hT M h)
abbrev rmX5_forgetSilence : Room := { frames := 0, cells := 0, slots := 0, locals := 0 }
theorem kX5_forgetSilence_f234 : (Cond.fieldLink RX5 234 "LadderOfBows" "silences" "I") ∈ wsX5_forgetSilence := List.mem_of_getElem? (i := 1) rfl
theorem kX5_forgetSilence_f237 : (Cond.fieldLink RX5 237 "LadderOfBows" "silentStreets" "I") ∈ wsX5_forgetSilence := List.mem_of_getElem? (i := 2) rfl
theorem in_X5_forgetSilence_X5 : ∀ w ∈ wsX50, w ∈ wsX5_forgetSilence := by decide +kernel
theorem hd_X5_forgetSilence : yX5_forgetSilence.cls = RX5 ∧ yX5_forgetSilence.cls ≠ "java/lang/invoke/MethodHandle" ∧ yX5_forgetSilence.cls ≠ "java/lang/invoke/VarHandle" ∧ (parseMethodDescriptor yX5_forgetSilence.desc).map (fun d => d.parameters.length) = some 0 := by decide +kernel
set_option maxRecDepth 100000 in
set_option maxHeartbeats 4000000 in
theorem w_X5_forgetSilence {p : Program} {l : Launch} {e : Env} {s : State} {m : MethodId} {args : Array Value} {below : List Frame} {meth : Method} {c : Code} {D : va_G} {cI : ClassId} {ad : Nat → Nat} {L : List CDs} {r : Unit} {M' : Mem} (C0 : me_X p s m args meth c cX5_forgetSilence 1 none wsX5_forgetSilence RX5 D cI ad L) (t : Nat) (hT : is_X5 L t) : ∀  (M : Mem), X5_forgetSilence t M = some (r, M') → me_W p l e rmX5_forgetSilence s m args below meth c D cI ad L none M' 1 0 [(0, .ref (ad t))] [] M := by
  obtain ⟨hx, hb, hr, hml, hown, hts, hlk, hK, hI⟩ := id C0
  intro M h
  unfold X5_forgetSilence at h
  intro H locs ls hP hS hl
  refine lv_aload_n hx hb dX5_forgetSilence_0 rfl (lv_at hl 0 rfl) ?_
  refine lv_iconst (v := (0 : Int32)) hx hb dX5_forgetSilence_1 (by decide) ?_
  refine me_put (ci := 5) (C := RX5) (T := TX5) (N := 13) hx hb hts in_X5_forgetSilence_X5 tyX5_ok nmX5 hown hK hI hP hS hT.1 rfl 9 (by decide) (hts _ kX5_forgetSilence_f234) rfl rfl rfl dX5_forgetSilence_2 (fun H locs M2 eM hP hS => ?_)
  replace h := s_put_inv h M2 eM
  refine lv_aload_n hx hb dX5_forgetSilence_5 rfl (lv_at hl 0 rfl) ?_
  refine lv_iconst (v := (0 : Int32)) hx hb dX5_forgetSilence_6 (by decide) ?_
  refine me_put (ci := 5) (C := RX5) (T := TX5) (N := 13) hx hb hts in_X5_forgetSilence_X5 tyX5_ok nmX5 hown hK hI hP hS hT.1 rfl 10 (by decide) (hts _ kX5_forgetSilence_f237) rfl rfl rfl dX5_forgetSilence_7 (fun H locs M7 eM hP hS => ?_)
  replace h := s_put_inv h M7 eM
  exact me_vret hx hb hr hlk hP hS h dX5_forgetSilence_10
theorem c_X5_forgetSilence {l : Launch} {D : va_G} {cI : ClassId} {ad : Nat → Nat} {L : List CDs} {t : Nat} (hT : is_X5 L t)  {M M' : Mem} {r : Unit} (h : X5_forgetSilence t M = some (r, M')) : me_Met l yX5_forgetSilence wsX5_forgetSilence rmX5_forgetSilence D cI ad L [.ref (ad t)] none M M' :=
  me_ofW (by decide) rfl (Nat.le_of_ble_eq_true rfl) (fun p e s m below meth c C0 => w_X5_forgetSilence C0 t hT M h)
abbrev rmX5_lay : Room := { frames := 5, cells := 0, slots := 0, locals := 122 }
theorem kX5_lay_f19 : (Cond.fieldLink RX5 19 "LadderOfBows" "reader" "LLadderOfBows$Reader;") ∈ wsX5_lay := List.mem_of_getElem? (i := 1) rfl
theorem kX5_lay_f12 : (Cond.fieldLink RX5 12 "LadderOfBows" "text" "LLadderOfBows$Letters;") ∈ wsX5_lay := List.mem_of_getElem? (i := 2) rfl
theorem kX5_lay_f37 : (Cond.fieldLink RX5 37 "LadderOfBows" "trial" "LLadderOfBows$Town;") ∈ wsX5_lay := List.mem_of_getElem? (i := 3) rfl
theorem kX5_lay_f27 : (Cond.fieldLink RX5 27 "LadderOfBows" "start" "LLadderOfBows$Town;") ∈ wsX5_lay := List.mem_of_getElem? (i := 4) rfl
theorem kX5_lay_f31 : (Cond.fieldLink RX5 31 "LadderOfBows" "now" "LLadderOfBows$Town;") ∈ wsX5_lay := List.mem_of_getElem? (i := 5) rfl
theorem kX5_lay_f43 : (Cond.fieldLink RX5 43 "LadderOfBows" "acts" "LLadderOfBows$Acts;") ∈ wsX5_lay := List.mem_of_getElem? (i := 6) rfl
theorem kX5_lay_f99 : (Cond.fieldLink RX5 99 "LadderOfBows" "keptTowns" "I") ∈ wsX5_lay := List.mem_of_getElem? (i := 7) rfl
theorem in_X5_lay_X5 : ∀ w ∈ wsX50, w ∈ wsX5_lay := by decide +kernel
theorem hd_X5_lay : yX5_lay.cls = RX5 ∧ yX5_lay.cls ≠ "java/lang/invoke/MethodHandle" ∧ yX5_lay.cls ≠ "java/lang/invoke/VarHandle" ∧ (parseMethodDescriptor yX5_lay.desc).map (fun d => d.parameters.length) = some 0 := by decide +kernel
set_option maxRecDepth 100000 in
set_option maxHeartbeats 4000000 in
theorem w_X5_lay {p : Program} {l : Launch} {e : Env} {s : State} {m : MethodId} {args : Array Value} {below : List Frame} {meth : Method} {c : Code} {D : va_G} {cI : ClassId} {ad : Nat → Nat} {L : List CDs} {r : Int32} {M' : Mem} (C0 : me_X p s m args meth c cX5_lay 1 (some .int) wsX5_lay RX5 D cI ad L) (t : Nat) (hT : is_X5 L t) : ∀  (M : Mem), X5_lay t M = some (r, M') → me_W p l e rmX5_lay s m args below meth c D cI ad L (some (.int r)) M' 1 0 [(0, .ref (ad t))] [] M := by
  obtain ⟨hx, hb, hr, hml, hown, hts, hlk, hK, hI⟩ := id C0
  intro M h
  unfold X5_lay at h
  intro H locs ls hP hS hl
  refine lv_aload_n hx hb dX5_lay_0 rfl (lv_at hl 0 rfl) ?_
  refine me_getr (ci := 5) (C := RX5) (T := TX5) (N := 13) hx hb hts in_X5_lay_X5 hown hK hP hT.1 rfl 1 (by decide) (hts _ kX5_lay_f19) rfl dX5_lay_1 ?_
  refine lv_aload_n hx hb dX5_lay_4 rfl (lv_at hl 0 rfl) ?_
  refine me_getr (ci := 5) (C := RX5) (T := TX5) (N := 13) hx hb hts in_X5_lay_X5 hown hK hP hT.1 rfl 0 (by decide) (hts _ kX5_lay_f12) rfl dX5_lay_5 ?_
  refine lv_aload_n hx hb dX5_lay_8 rfl (lv_at hl 0 rfl) ?_
  refine me_getr (ci := 5) (C := RX5) (T := TX5) (N := 13) hx hb hts in_X5_lay_X5 hown hK hP hT.1 rfl 4 (by decide) (hts _ kX5_lay_f37) rfl dX5_lay_9 ?_
  obtain ⟨v12, M12, h1, h⟩ := s_call_inv h
  refine me_callVi (As := [.ref (ad (t + 1)), .ref (ad (t + 23))]) (rest := []) ⟨hx, hb, hml, hown, hts⟩ (c_X3_readTown hT.2.2.1 hT.2.1 hT.2.2.2.2.2.1 h1) (cwV 2 hts gX5_lay_X3_readTown rfl rfl rfl hd_X3_readTown ⟨(Nat.le_of_ble_eq_true rfl), (Nat.le_of_ble_eq_true rfl)⟩) hK hI hP hS hT.2.2.1.1 rfl rfl hl.1 rfl (Nat.le_of_ble_eq_true rfl) dX5_lay_12 ⟨Nat.zero_le _, Nat.zero_le _⟩ (fun H locs hP hS => ?_)
  refine lv_bipush (v := (-4 : Int32)) hx hb dX5_lay_15 (by decide) ?_
  refine lv_icmp_ne (tgt := 31) hx hb dX5_lay_17 (by decide) (fun q => ?_) (fun q => ?_)
  · rw [if_pos q] at h
    refine lv_bipush (v := (-2 : Int32)) hx hb dX5_lay_31 (by decide) ?_
    exact me_iret hx hb hr hlk hP hS h dX5_lay_33
  · rw [if_neg (not_not_intro q)] at h
    refine lv_aload_n hx hb dX5_lay_20 rfl (lv_at hl 0 rfl) ?_
    refine me_getr (ci := 5) (C := RX5) (T := TX5) (N := 13) hx hb hts in_X5_lay_X5 hown hK hP hT.1 rfl 4 (by decide) (hts _ kX5_lay_f37) rfl dX5_lay_21 ?_
    obtain ⟨v24, M24, h1, h⟩ := s_call_inv h
    refine me_callVi (As := []) (rest := []) ⟨hx, hb, hml, hown, hts⟩ (c_X4_persons hT.2.2.2.2.2.1 h1) (cwV 0 hts gX5_lay_X4_persons rfl rfl rfl hd_X4_persons ⟨(Nat.le_of_ble_eq_true rfl), (Nat.le_of_ble_eq_true rfl)⟩) hK hI hP hS hT.2.2.2.2.2.1.1 rfl rfl hl.1 rfl (Nat.le_of_ble_eq_true rfl) dX5_lay_24 ⟨Nat.zero_le _, Nat.zero_le _⟩ (fun H locs hP hS => ?_)
    refine lv_iconst (v := (1 : Int32)) hx hb dX5_lay_27 (by decide) ?_
    refine lv_icmp_ge (tgt := 34) hx hb dX5_lay_28 (by decide) (fun q => ?_) (fun q => ?_)
    · rw [if_pos q] at h
      refine lv_aload_n hx hb dX5_lay_34 rfl (lv_at hl 0 rfl) ?_
      refine me_getr (ci := 5) (C := RX5) (T := TX5) (N := 13) hx hb hts in_X5_lay_X5 hown hK hP hT.1 rfl 2 (by decide) (hts _ kX5_lay_f27) rfl dX5_lay_35 ?_
      refine lv_aload_n hx hb dX5_lay_38 rfl (lv_at hl 0 rfl) ?_
      refine me_getr (ci := 5) (C := RX5) (T := TX5) (N := 13) hx hb hts in_X5_lay_X5 hown hK hP hT.1 rfl 4 (by decide) (hts _ kX5_lay_f37) rfl dX5_lay_39 ?_
      obtain ⟨u42, M42, h1, h⟩ := s_call_inv h
      refine me_callVv (As := [.ref (ad (t + 23))]) (rest := []) ⟨hx, hb, hml, hown, hts⟩ (c_X4_copyFrom hT.2.2.2.1 hT.2.2.2.2.2.1 h1) (cwV 1 hts gX5_lay_X4_copyFrom rfl rfl rfl hd_X4_copyFrom ⟨(Nat.le_of_ble_eq_true rfl), (Nat.le_of_ble_eq_true rfl)⟩) hK hI hP hS hT.2.2.2.1.1 rfl rfl hl.1 rfl (Nat.le_of_ble_eq_true rfl) dX5_lay_42 ⟨Nat.zero_le _, Nat.zero_le _⟩ (fun H locs hP hS => ?_)
      refine lv_aload_n hx hb dX5_lay_45 rfl (lv_at hl 0 rfl) ?_
      refine me_getr (ci := 5) (C := RX5) (T := TX5) (N := 13) hx hb hts in_X5_lay_X5 hown hK hP hT.1 rfl 3 (by decide) (hts _ kX5_lay_f31) rfl dX5_lay_46 ?_
      refine lv_aload_n hx hb dX5_lay_49 rfl (lv_at hl 0 rfl) ?_
      refine me_getr (ci := 5) (C := RX5) (T := TX5) (N := 13) hx hb hts in_X5_lay_X5 hown hK hP hT.1 rfl 4 (by decide) (hts _ kX5_lay_f37) rfl dX5_lay_50 ?_
      obtain ⟨u53, M53, h1, h⟩ := s_call_inv h
      refine me_callVv (As := [.ref (ad (t + 23))]) (rest := []) ⟨hx, hb, hml, hown, hts⟩ (c_X4_copyFrom hT.2.2.2.2.1 hT.2.2.2.2.2.1 h1) (cwV 1 hts gX5_lay_X4_copyFrom rfl rfl rfl hd_X4_copyFrom ⟨(Nat.le_of_ble_eq_true rfl), (Nat.le_of_ble_eq_true rfl)⟩) hK hI hP hS hT.2.2.2.2.1.1 rfl rfl hl.1 rfl (Nat.le_of_ble_eq_true rfl) dX5_lay_53 ⟨Nat.zero_le _, Nat.zero_le _⟩ (fun H locs hP hS => ?_)
      refine lv_aload_n hx hb dX5_lay_56 rfl (lv_at hl 0 rfl) ?_
      refine me_getr (ci := 5) (C := RX5) (T := TX5) (N := 13) hx hb hts in_X5_lay_X5 hown hK hP hT.1 rfl 5 (by decide) (hts _ kX5_lay_f43) rfl dX5_lay_57 ?_
      obtain ⟨u60, M60, h1, h⟩ := s_call_inv h
      refine me_callVv (As := []) (rest := []) ⟨hx, hb, hml, hown, hts⟩ (c_X0_clear hT.2.2.2.2.2.2.1 h1) (cwV 0 hts gX5_lay_X0_clear rfl rfl rfl hd_X0_clear ⟨(Nat.le_of_ble_eq_true rfl), (Nat.le_of_ble_eq_true rfl)⟩) hK hI hP hS hT.2.2.2.2.2.2.1.1 rfl rfl hl.1 rfl (Nat.le_of_ble_eq_true rfl) dX5_lay_60 ⟨Nat.zero_le _, Nat.zero_le _⟩ (fun H locs hP hS => ?_)
      refine lv_aload_n hx hb dX5_lay_63 rfl (lv_at hl 0 rfl) ?_
      obtain ⟨u64, M64, h1, h⟩ := s_call_inv h
      refine me_callVv (As := []) (rest := []) ⟨hx, hb, hml, hown, hts⟩ (c_X5_forgetSilence hT h1) (cwV 0 hts gX5_lay_X5_forgetSilence rfl rfl rfl hd_X5_forgetSilence ⟨(Nat.le_of_ble_eq_true rfl), (Nat.le_of_ble_eq_true rfl)⟩) hK hI hP hS hT.1 rfl rfl hl.1 rfl (Nat.le_of_ble_eq_true rfl) dX5_lay_64 ⟨Nat.zero_le _, Nat.zero_le _⟩ (fun H locs hP hS => ?_)
      refine lv_aload_n hx hb dX5_lay_67 rfl (lv_at hl 0 rfl) ?_
      refine lv_iconst (v := (0 : Int32)) hx hb dX5_lay_68 (by decide) ?_
      refine me_put (ci := 5) (C := RX5) (T := TX5) (N := 13) hx hb hts in_X5_lay_X5 tyX5_ok nmX5 hown hK hI hP hS hT.1 rfl 8 (by decide) (hts _ kX5_lay_f99) rfl rfl rfl dX5_lay_69 (fun H locs M69 eM hP hS => ?_)
      replace h := s_put_inv h M69 eM
      refine lv_aload_n hx hb dX5_lay_72 rfl (lv_at hl 0 rfl) ?_
      refine me_getr (ci := 5) (C := RX5) (T := TX5) (N := 13) hx hb hts in_X5_lay_X5 hown hK hP hT.1 rfl 3 (by decide) (hts _ kX5_lay_f31) rfl dX5_lay_73 ?_
      obtain ⟨v76, M76, h1, h⟩ := s_call_inv h
      refine me_callVi (As := []) (rest := []) ⟨hx, hb, hml, hown, hts⟩ (c_X4_persons hT.2.2.2.2.1 h1) (cwV 0 hts gX5_lay_X4_persons rfl rfl rfl hd_X4_persons ⟨(Nat.le_of_ble_eq_true rfl), (Nat.le_of_ble_eq_true rfl)⟩) hK hI hP hS hT.2.2.2.2.1.1 rfl rfl hl.1 rfl (Nat.le_of_ble_eq_true rfl) dX5_lay_76 ⟨Nat.zero_le _, Nat.zero_le _⟩ (fun H locs hP hS => ?_)
      exact me_iret hx hb hr hlk hP hS h dX5_lay_79
    · rw [if_neg q] at h
      refine lv_bipush (v := (-2 : Int32)) hx hb dX5_lay_31 (by decide) ?_
      exact me_iret hx hb hr hlk hP hS h dX5_lay_33
theorem c_X5_lay {l : Launch} {D : va_G} {cI : ClassId} {ad : Nat → Nat} {L : List CDs} {t : Nat} (hT : is_X5 L t)  {M M' : Mem} {r : Int32} (h : X5_lay t M = some (r, M')) : me_Met l yX5_lay wsX5_lay rmX5_lay D cI ad L [.ref (ad t)] (some (.int r)) M M' :=
  me_ofW (by decide) rfl (Nat.le_of_ble_eq_true rfl) (fun p e s m below meth c C0 => w_X5_lay C0 t hT M h)
abbrev rmX5_isPerson : Room := { frames := 1, cells := 0, slots := 0, locals := 20 }
theorem kX5_isPerson_f31 : (Cond.fieldLink RX5 31 "LadderOfBows" "now" "LLadderOfBows$Town;") ∈ wsX5_isPerson := List.mem_of_getElem? (i := 1) rfl
theorem in_X5_isPerson_X5 : ∀ w ∈ wsX50, w ∈ wsX5_isPerson := by decide +kernel
theorem hd_X5_isPerson : yX5_isPerson.cls = RX5 ∧ yX5_isPerson.cls ≠ "java/lang/invoke/MethodHandle" ∧ yX5_isPerson.cls ≠ "java/lang/invoke/VarHandle" ∧ (parseMethodDescriptor yX5_isPerson.desc).map (fun d => d.parameters.length) = some 1 := by decide +kernel
set_option maxRecDepth 100000 in
set_option maxHeartbeats 4000000 in
theorem w_X5_isPerson {p : Program} {l : Launch} {e : Env} {s : State} {m : MethodId} {args : Array Value} {below : List Frame} {meth : Method} {c : Code} {D : va_G} {cI : ClassId} {ad : Nat → Nat} {L : List CDs} {r : Int32} {M' : Mem} (C0 : me_X p s m args meth c cX5_isPerson 2 (some .boolean) wsX5_isPerson RX5 D cI ad L) (t : Nat) (hT : is_X5 L t) (x1 : Int32) : ∀  (M : Mem), X5_isPerson t x1 M = some (r, M') → me_W p l e rmX5_isPerson s m args below meth c D cI ad L (some (.int r)) M' 2 0 [(0, .ref (ad t)), (1, .int x1)] [] M := by
  obtain ⟨hx, hb, hr, hml, hown, hts, hlk, hK, hI⟩ := id C0
  intro M h
  unfold X5_isPerson at h
  intro H locs ls hP hS hl
  refine lv_iload_n hx hb dX5_isPerson_0 rfl (lv_at hl 1 rfl) ?_
  refine lv_if_lt (tgt := 19) hx hb dX5_isPerson_1 (by decide) (fun q => ?_) (fun q => ?_)
  · rw [if_pos q] at h
    refine lv_iconst (v := (0 : Int32)) hx hb dX5_isPerson_19 (by decide) ?_
    exact me_zret hx hb hr hlk hP hS h dX5_isPerson_20
  · rw [if_neg q] at h
    refine lv_iload_n hx hb dX5_isPerson_4 rfl (lv_at hl 1 rfl) ?_
    refine lv_aload_n hx hb dX5_isPerson_5 rfl (lv_at hl 0 rfl) ?_
    refine me_getr (ci := 5) (C := RX5) (T := TX5) (N := 13) hx hb hts in_X5_isPerson_X5 hown hK hP hT.1 rfl 3 (by decide) (hts _ kX5_isPerson_f31) rfl dX5_isPerson_6 ?_
    obtain ⟨v9, M9, h1, h⟩ := s_call_inv h
    refine me_callVi (As := []) (rest := [.int x1]) ⟨hx, hb, hml, hown, hts⟩ (c_X4_persons hT.2.2.2.2.1 h1) (cwV 0 hts gX5_isPerson_X4_persons rfl rfl rfl hd_X4_persons ⟨(Nat.le_of_ble_eq_true rfl), (Nat.le_of_ble_eq_true rfl)⟩) hK hI hP hS hT.2.2.2.2.1.1 rfl rfl hl.1 rfl (Nat.le_of_ble_eq_true rfl) dX5_isPerson_9 ⟨Nat.zero_le _, Nat.zero_le _⟩ (fun H locs hP hS => ?_)
    refine lv_icmp_ge (tgt := 19) hx hb dX5_isPerson_12 (by decide) (fun q => ?_) (fun q => ?_)
    · rw [if_pos q] at h
      refine lv_iconst (v := (0 : Int32)) hx hb dX5_isPerson_19 (by decide) ?_
      exact me_zret hx hb hr hlk hP hS h dX5_isPerson_20
    · rw [if_neg q] at h
      refine lv_iconst (v := (1 : Int32)) hx hb dX5_isPerson_15 (by decide) ?_
      refine lv_goto (tgt := 20) hx hb dX5_isPerson_16 (by decide) ?_
      exact me_zret hx hb hr hlk hP hS h dX5_isPerson_20
theorem c_X5_isPerson {l : Launch} {D : va_G} {cI : ClassId} {ad : Nat → Nat} {L : List CDs} {t : Nat} (hT : is_X5 L t) {x1 : Int32} {M M' : Mem} {r : Int32} (h : X5_isPerson t x1 M = some (r, M')) : me_Met l yX5_isPerson wsX5_isPerson rmX5_isPerson D cI ad L [.ref (ad t), .int x1] (some (.int r)) M M' :=
  me_ofW (by decide) rfl (Nat.le_of_ble_eq_true rfl) (fun p e s m below meth c C0 => w_X5_isPerson C0 t hT x1 M h)
abbrev rmX5_asNumber : Room := { frames := 0, cells := 0, slots := 0, locals := 0 }
theorem hd_X5_asNumber : yX5_asNumber.cls = RX5 ∧ yX5_asNumber.cls ≠ "java/lang/invoke/MethodHandle" ∧ yX5_asNumber.cls ≠ "java/lang/invoke/VarHandle" ∧ (parseMethodDescriptor yX5_asNumber.desc).map (fun d => d.parameters.length) = some 1 := by decide +kernel
set_option maxRecDepth 100000 in
set_option maxHeartbeats 4000000 in
theorem w_X5_asNumber {p : Program} {l : Launch} {e : Env} {s : State} {m : MethodId} {args : Array Value} {below : List Frame} {meth : Method} {c : Code} {D : va_G} {cI : ClassId} {ad : Nat → Nat} {L : List CDs} {r : Int32} {M' : Mem} (C0 : me_X p s m args meth c cX5_asNumber 1 (some .int) wsX5_asNumber RX5 D cI ad L)  (x0 : Int32) : ∀  (M : Mem), X5_asNumber x0 M = some (r, M') → me_W p l e rmX5_asNumber s m args below meth c D cI ad L (some (.int r)) M' 1 0 [(0, .int x0)] [] M := by
  obtain ⟨hx, hb, hr, hml, hown, hts, hlk, hK, hI⟩ := id C0
  intro M h
  unfold X5_asNumber at h
  intro H locs ls hP hS hl
  refine lv_iload_n hx hb dX5_asNumber_0 rfl (lv_at hl 0 rfl) ?_
  refine lv_if_eq (tgt := 8) hx hb dX5_asNumber_1 (by decide) (fun q => ?_) (fun q => ?_)
  · rw [if_pos q] at h
    refine lv_iconst (v := (0 : Int32)) hx hb dX5_asNumber_8 (by decide) ?_
    exact me_iret hx hb hr hlk hP hS h dX5_asNumber_9
  · rw [if_neg q] at h
    refine lv_iconst (v := (1 : Int32)) hx hb dX5_asNumber_4 (by decide) ?_
    refine lv_goto (tgt := 9) hx hb dX5_asNumber_5 (by decide) ?_
    exact me_iret hx hb hr hlk hP hS h dX5_asNumber_9
theorem c_X5_asNumber {l : Launch} {D : va_G} {cI : ClassId} {ad : Nat → Nat} {L : List CDs}  {x0 : Int32} {M M' : Mem} {r : Int32} (h : X5_asNumber x0 M = some (r, M')) : me_Met l yX5_asNumber wsX5_asNumber rmX5_asNumber D cI ad L [.int x0] (some (.int r)) M M' :=
  me_ofW (by decide) rfl (Nat.le_of_ble_eq_true rfl) (fun p e s m below meth c C0 => w_X5_asNumber C0 x0 M h)
abbrev rmX5_person : Room := { frames := 2, cells := 0, slots := 0, locals := 45 }
theorem kX5_person_f31 : (Cond.fieldLink RX5 31 "LadderOfBows" "now" "LLadderOfBows$Town;") ∈ wsX5_person := List.mem_of_getElem? (i := 1) rfl
theorem in_X5_person_X5 : ∀ w ∈ wsX50, w ∈ wsX5_person := by decide +kernel
theorem hd_X5_person : yX5_person.cls = RX5 ∧ yX5_person.cls ≠ "java/lang/invoke/MethodHandle" ∧ yX5_person.cls ≠ "java/lang/invoke/VarHandle" ∧ (parseMethodDescriptor yX5_person.desc).map (fun d => d.parameters.length) = some 2 := by decide +kernel
set_option maxRecDepth 100000 in
set_option maxHeartbeats 4000000 in
theorem w_X5_person {p : Program} {l : Launch} {e : Env} {s : State} {m : MethodId} {args : Array Value} {below : List Frame} {meth : Method} {c : Code} {D : va_G} {cI : ClassId} {ad : Nat → Nat} {L : List CDs} {r : Int32} {M' : Mem} (C0 : me_X p s m args meth c cX5_person 3 (some .int) wsX5_person RX5 D cI ad L) (t : Nat) (hT : is_X5 L t) (x1 : Int32) (x2 : Int32) : ∀  (M : Mem), X5_person t x1 x2 M = some (r, M') → me_W p l e rmX5_person s m args below meth c D cI ad L (some (.int r)) M' 3 0 [(0, .ref (ad t)), (1, .int x1), (2, .int x2)] [] M := by
  obtain ⟨hx, hb, hr, hml, hown, hts, hlk, hK, hI⟩ := id C0
  intro M h
  unfold X5_person at h
  intro H locs ls hP hS hl
  refine lv_aload_n hx hb dX5_person_0 rfl (lv_at hl 0 rfl) ?_
  refine lv_iload_n hx hb dX5_person_1 rfl (lv_at hl 1 rfl) ?_
  obtain ⟨v2, M2, h1, h⟩ := s_call_inv h
  refine me_callVi (As := [.int x1]) (rest := []) ⟨hx, hb, hml, hown, hts⟩ (c_X5_isPerson hT h1) (cwV 1 hts gX5_person_X5_isPerson rfl rfl rfl hd_X5_isPerson ⟨(Nat.le_of_ble_eq_true rfl), (Nat.le_of_ble_eq_true rfl)⟩) hK hI hP hS hT.1 rfl rfl hl.1 rfl (Nat.le_of_ble_eq_true rfl) dX5_person_2 ⟨Nat.zero_le _, Nat.zero_le _⟩ (fun H locs hP hS => ?_)
  refine lv_if_ne (tgt := 10) hx hb dX5_person_5 (by decide) (fun q => ?_) (fun q => ?_)
  · rw [if_pos q] at h
    refine lv_iload_n hx hb dX5_person_10 rfl (lv_at hl 2 rfl) ?_
    by_cases q0 : x2 = (0 : Int32)
    · rw [if_pos q0] at h
      refine lv_tableIn (tgt := 48) (off := 37) hx hb dX5_person_11 (by rw [q0]; decide) (by rw [q0]; decide) (by rw [q0]; rfl) (by decide) ?_
      refine lv_aload_n hx hb dX5_person_48 rfl (lv_at hl 0 rfl) ?_
      refine me_getr (ci := 5) (C := RX5) (T := TX5) (N := 13) hx hb hts in_X5_person_X5 hown hK hP hT.1 rfl 3 (by decide) (hts _ kX5_person_f31) rfl dX5_person_49 ?_
      refine lv_iload_n hx hb dX5_person_52 rfl (lv_at hl 1 rfl) ?_
      obtain ⟨v53, M53, h1, h⟩ := s_call_inv h
      refine me_callVi (As := [.int x1]) (rest := []) ⟨hx, hb, hml, hown, hts⟩ (c_X4_kindOf hT.2.2.2.2.1 h1) (cwV 1 hts gX5_person_X4_kindOf rfl rfl rfl hd_X4_kindOf ⟨(Nat.le_of_ble_eq_true rfl), (Nat.le_of_ble_eq_true rfl)⟩) hK hI hP hS hT.2.2.2.2.1.1 rfl rfl hl.1 rfl (Nat.le_of_ble_eq_true rfl) dX5_person_53 ⟨Nat.zero_le _, Nat.zero_le _⟩ (fun H locs hP hS => ?_)
      exact me_iret hx hb hr hlk hP hS h dX5_person_56
    rw [if_neg q0] at h
    by_cases q1 : x2 = (1 : Int32)
    · rw [if_pos q1] at h
      refine lv_tableIn (tgt := 57) (off := 46) hx hb dX5_person_11 (by rw [q1]; decide) (by rw [q1]; decide) (by rw [q1]; rfl) (by decide) ?_
      refine lv_aload_n hx hb dX5_person_57 rfl (lv_at hl 0 rfl) ?_
      refine me_getr (ci := 5) (C := RX5) (T := TX5) (N := 13) hx hb hts in_X5_person_X5 hown hK hP hT.1 rfl 3 (by decide) (hts _ kX5_person_f31) rfl dX5_person_58 ?_
      refine lv_iload_n hx hb dX5_person_61 rfl (lv_at hl 1 rfl) ?_
      obtain ⟨v62, M62, h1, h⟩ := s_call_inv h
      refine me_callVi (As := [.int x1]) (rest := []) ⟨hx, hb, hml, hown, hts⟩ (c_X4_streetOf hT.2.2.2.2.1 h1) (cwV 1 hts gX5_person_X4_streetOf rfl rfl rfl hd_X4_streetOf ⟨(Nat.le_of_ble_eq_true rfl), (Nat.le_of_ble_eq_true rfl)⟩) hK hI hP hS hT.2.2.2.2.1.1 rfl rfl hl.1 rfl (Nat.le_of_ble_eq_true rfl) dX5_person_62 ⟨Nat.zero_le _, Nat.zero_le _⟩ (fun H locs hP hS => ?_)
      exact me_iret hx hb hr hlk hP hS h dX5_person_65
    rw [if_neg q1] at h
    by_cases q2 : x2 = (2 : Int32)
    · rw [if_pos q2] at h
      refine lv_tableIn (tgt := 66) (off := 55) hx hb dX5_person_11 (by rw [q2]; decide) (by rw [q2]; decide) (by rw [q2]; rfl) (by decide) ?_
      refine lv_aload_n hx hb dX5_person_66 rfl (lv_at hl 0 rfl) ?_
      refine me_getr (ci := 5) (C := RX5) (T := TX5) (N := 13) hx hb hts in_X5_person_X5 hown hK hP hT.1 rfl 3 (by decide) (hts _ kX5_person_f31) rfl dX5_person_67 ?_
      refine lv_iload_n hx hb dX5_person_70 rfl (lv_at hl 1 rfl) ?_
      obtain ⟨v71, M71, h1, h⟩ := s_call_inv h
      refine me_callVi (As := [.int x1]) (rest := []) ⟨hx, hb, hml, hown, hts⟩ (c_X4_isAlive hT.2.2.2.2.1 h1) (cwV 1 hts gX5_person_X4_isAlive rfl rfl rfl hd_X4_isAlive ⟨(Nat.le_of_ble_eq_true rfl), (Nat.le_of_ble_eq_true rfl)⟩) hK hI hP hS hT.2.2.2.2.1.1 rfl rfl hl.1 rfl (Nat.le_of_ble_eq_true rfl) dX5_person_71 ⟨Nat.zero_le _, Nat.zero_le _⟩ (fun H locs hP hS => ?_)
      obtain ⟨v74, M74, h1, h⟩ := s_call_inv h
      refine me_callSi (As := [.int v71]) (rest := []) ⟨hx, hb, hml, hown, hts⟩ (c_X5_asNumber h1) (va_cwS 1 hts gX5_person_X5_asNumber rfl rfl rfl hd_X5_asNumber.2 ⟨(Nat.le_of_ble_eq_true rfl), (Nat.le_of_ble_eq_true rfl)⟩) hK hI hP hS rfl hl.1 rfl (Nat.le_of_ble_eq_true rfl) dX5_person_74 ⟨Nat.zero_le _, Nat.zero_le _⟩ (fun H locs hP hS => ?_)
      exact me_iret hx hb hr hlk hP hS h dX5_person_77
    rw [if_neg q2] at h
    by_cases q3 : x2 = (3 : Int32)
    · rw [if_pos q3] at h
      refine lv_tableIn (tgt := 78) (off := 67) hx hb dX5_person_11 (by rw [q3]; decide) (by rw [q3]; decide) (by rw [q3]; rfl) (by decide) ?_
      refine lv_aload_n hx hb dX5_person_78 rfl (lv_at hl 0 rfl) ?_
      refine me_getr (ci := 5) (C := RX5) (T := TX5) (N := 13) hx hb hts in_X5_person_X5 hown hK hP hT.1 rfl 3 (by decide) (hts _ kX5_person_f31) rfl dX5_person_79 ?_
      refine lv_iload_n hx hb dX5_person_82 rfl (lv_at hl 1 rfl) ?_
      obtain ⟨v83, M83, h1, h⟩ := s_call_inv h
      refine me_callVi (As := [.int x1]) (rest := []) ⟨hx, hb, hml, hown, hts⟩ (c_X4_owing hT.2.2.2.2.1 h1) (cwV 1 hts gX5_person_X4_owing rfl rfl rfl hd_X4_owing ⟨(Nat.le_of_ble_eq_true rfl), (Nat.le_of_ble_eq_true rfl)⟩) hK hI hP hS hT.2.2.2.2.1.1 rfl rfl hl.1 rfl (Nat.le_of_ble_eq_true rfl) dX5_person_83 ⟨Nat.zero_le _, Nat.zero_le _⟩ (fun H locs hP hS => ?_)
      exact me_iret hx hb hr hlk hP hS h dX5_person_86
    rw [if_neg q3] at h
    by_cases q4 : x2 = (4 : Int32)
    · rw [if_pos q4] at h
      refine lv_tableIn (tgt := 87) (off := 76) hx hb dX5_person_11 (by rw [q4]; decide) (by rw [q4]; decide) (by rw [q4]; rfl) (by decide) ?_
      refine lv_aload_n hx hb dX5_person_87 rfl (lv_at hl 0 rfl) ?_
      refine me_getr (ci := 5) (C := RX5) (T := TX5) (N := 13) hx hb hts in_X5_person_X5 hown hK hP hT.1 rfl 3 (by decide) (hts _ kX5_person_f31) rfl dX5_person_88 ?_
      refine lv_iload_n hx hb dX5_person_91 rfl (lv_at hl 1 rfl) ?_
      obtain ⟨v92, M92, h1, h⟩ := s_call_inv h
      refine me_callVi (As := [.int x1]) (rest := []) ⟨hx, hb, hml, hown, hts⟩ (c_X4_owedTo hT.2.2.2.2.1 h1) (cwV 1 hts gX5_person_X4_owedTo rfl rfl rfl hd_X4_owedTo ⟨(Nat.le_of_ble_eq_true rfl), (Nat.le_of_ble_eq_true rfl)⟩) hK hI hP hS hT.2.2.2.2.1.1 rfl rfl hl.1 rfl (Nat.le_of_ble_eq_true rfl) dX5_person_92 ⟨Nat.zero_le _, Nat.zero_le _⟩ (fun H locs hP hS => ?_)
      exact me_iret hx hb hr hlk hP hS h dX5_person_95
    rw [if_neg q4] at h
    by_cases q5 : x2 = (5 : Int32)
    · rw [if_pos q5] at h
      refine lv_tableIn (tgt := 96) (off := 85) hx hb dX5_person_11 (by rw [q5]; decide) (by rw [q5]; decide) (by rw [q5]; rfl) (by decide) ?_
      refine lv_aload_n hx hb dX5_person_96 rfl (lv_at hl 0 rfl) ?_
      refine me_getr (ci := 5) (C := RX5) (T := TX5) (N := 13) hx hb hts in_X5_person_X5 hown hK hP hT.1 rfl 3 (by decide) (hts _ kX5_person_f31) rfl dX5_person_97 ?_
      refine lv_iload_n hx hb dX5_person_100 rfl (lv_at hl 1 rfl) ?_
      obtain ⟨v101, M101, h1, h⟩ := s_call_inv h
      refine me_callVi (As := [.int x1]) (rest := []) ⟨hx, hb, hml, hown, hts⟩ (c_X4_isAlive hT.2.2.2.2.1 h1) (cwV 1 hts gX5_person_X4_isAlive rfl rfl rfl hd_X4_isAlive ⟨(Nat.le_of_ble_eq_true rfl), (Nat.le_of_ble_eq_true rfl)⟩) hK hI hP hS hT.2.2.2.2.1.1 rfl rfl hl.1 rfl (Nat.le_of_ble_eq_true rfl) dX5_person_101 ⟨Nat.zero_le _, Nat.zero_le _⟩ (fun H locs hP hS => ?_)
      refine lv_if_eq (tgt := 122) hx hb dX5_person_104 (by decide) (fun q => ?_) (fun q => ?_)
      · rw [if_pos q] at h
        refine lv_iconst (v := (0 : Int32)) hx hb dX5_person_122 (by decide) ?_
        obtain ⟨v123, M123, h1, h⟩ := s_call_inv h
        refine me_callSi (As := [.int (0 : Int32)]) (rest := []) ⟨hx, hb, hml, hown, hts⟩ (c_X5_asNumber h1) (va_cwS 1 hts gX5_person_X5_asNumber rfl rfl rfl hd_X5_asNumber.2 ⟨(Nat.le_of_ble_eq_true rfl), (Nat.le_of_ble_eq_true rfl)⟩) hK hI hP hS rfl hl.1 rfl (Nat.le_of_ble_eq_true rfl) dX5_person_123 ⟨Nat.zero_le _, Nat.zero_le _⟩ (fun H locs hP hS => ?_)
        exact me_iret hx hb hr hlk hP hS h dX5_person_126
      · rw [if_neg q] at h
        refine lv_aload_n hx hb dX5_person_107 rfl (lv_at hl 0 rfl) ?_
        refine me_getr (ci := 5) (C := RX5) (T := TX5) (N := 13) hx hb hts in_X5_person_X5 hown hK hP hT.1 rfl 3 (by decide) (hts _ kX5_person_f31) rfl dX5_person_108 ?_
        refine lv_iload_n hx hb dX5_person_111 rfl (lv_at hl 1 rfl) ?_
        obtain ⟨v112, M112, h1, h⟩ := s_call_inv h
        refine me_callVi (As := [.int x1]) (rest := []) ⟨hx, hb, hml, hown, hts⟩ (c_X4_takesApology hT.2.2.2.2.1 h1) (cwV 1 hts gX5_person_X4_takesApology rfl rfl rfl hd_X4_takesApology ⟨(Nat.le_of_ble_eq_true rfl), (Nat.le_of_ble_eq_true rfl)⟩) hK hI hP hS hT.2.2.2.2.1.1 rfl rfl hl.1 rfl (Nat.le_of_ble_eq_true rfl) dX5_person_112 ⟨Nat.zero_le _, Nat.zero_le _⟩ (fun H locs hP hS => ?_)
        refine lv_if_eq (tgt := 122) hx hb dX5_person_115 (by decide) (fun q => ?_) (fun q => ?_)
        · rw [if_pos q] at h
          refine lv_iconst (v := (0 : Int32)) hx hb dX5_person_122 (by decide) ?_
          obtain ⟨v123, M123, h1, h⟩ := s_call_inv h
          refine me_callSi (As := [.int (0 : Int32)]) (rest := []) ⟨hx, hb, hml, hown, hts⟩ (c_X5_asNumber h1) (va_cwS 1 hts gX5_person_X5_asNumber rfl rfl rfl hd_X5_asNumber.2 ⟨(Nat.le_of_ble_eq_true rfl), (Nat.le_of_ble_eq_true rfl)⟩) hK hI hP hS rfl hl.1 rfl (Nat.le_of_ble_eq_true rfl) dX5_person_123 ⟨Nat.zero_le _, Nat.zero_le _⟩ (fun H locs hP hS => ?_)
          exact me_iret hx hb hr hlk hP hS h dX5_person_126
        · rw [if_neg q] at h
          refine lv_iconst (v := (1 : Int32)) hx hb dX5_person_118 (by decide) ?_
          refine lv_goto (tgt := 123) hx hb dX5_person_119 (by decide) ?_
          obtain ⟨v123, M123, h1, h⟩ := s_call_inv h
          refine me_callSi (As := [.int (1 : Int32)]) (rest := []) ⟨hx, hb, hml, hown, hts⟩ (c_X5_asNumber h1) (va_cwS 1 hts gX5_person_X5_asNumber rfl rfl rfl hd_X5_asNumber.2 ⟨(Nat.le_of_ble_eq_true rfl), (Nat.le_of_ble_eq_true rfl)⟩) hK hI hP hS rfl hl.1 rfl (Nat.le_of_ble_eq_true rfl) dX5_person_123 ⟨Nat.zero_le _, Nat.zero_le _⟩ (fun H locs hP hS => ?_)
          exact me_iret hx hb hr hlk hP hS h dX5_person_126
    rw [if_neg q5] at h
    have e0 := lv_neT (a := 0) q0 (by decide)
    have e1 := lv_neT (a := 1) q1 (by decide)
    have e2 := lv_neT (a := 2) q2 (by decide)
    have e3 := lv_neT (a := 3) q3 (by decide)
    have e4 := lv_neT (a := 4) q4 (by decide)
    have e5 := lv_neT (a := 5) q5 (by decide)
    refine lv_tableOut (tgt := 127) hx hb dX5_person_11 (by omega) (by decide) ?_
    refine lv_iconst (v := (-1 : Int32)) hx hb dX5_person_127 (by decide) ?_
    exact me_iret hx hb hr hlk hP hS h dX5_person_128
  · rw [if_neg (not_not_intro q)] at h
    refine lv_iconst (v := (-1 : Int32)) hx hb dX5_person_8 (by decide) ?_
    exact me_iret hx hb hr hlk hP hS h dX5_person_9
theorem c_X5_person {l : Launch} {D : va_G} {cI : ClassId} {ad : Nat → Nat} {L : List CDs} {t : Nat} (hT : is_X5 L t) {x1 : Int32} {x2 : Int32} {M M' : Mem} {r : Int32} (h : X5_person t x1 x2 M = some (r, M')) : me_Met l yX5_person wsX5_person rmX5_person D cI ad L [.ref (ad t), .int x1, .int x2] (some (.int r)) M M' :=
  me_ofW (by decide) rfl (Nat.le_of_ble_eq_true rfl) (fun p e s m below meth c C0 => w_X5_person C0 t hT x1 x2 M h)
abbrev rmX5_areTwo : Room := { frames := 2, cells := 0, slots := 0, locals := 41 }
theorem hd_X5_areTwo : yX5_areTwo.cls = RX5 ∧ yX5_areTwo.cls ≠ "java/lang/invoke/MethodHandle" ∧ yX5_areTwo.cls ≠ "java/lang/invoke/VarHandle" ∧ (parseMethodDescriptor yX5_areTwo.desc).map (fun d => d.parameters.length) = some 2 := by decide +kernel
set_option maxRecDepth 100000 in
set_option maxHeartbeats 4000000 in
theorem w_X5_areTwo {p : Program} {l : Launch} {e : Env} {s : State} {m : MethodId} {args : Array Value} {below : List Frame} {meth : Method} {c : Code} {D : va_G} {cI : ClassId} {ad : Nat → Nat} {L : List CDs} {r : Int32} {M' : Mem} (C0 : me_X p s m args meth c cX5_areTwo 3 (some .boolean) wsX5_areTwo RX5 D cI ad L) (t : Nat) (hT : is_X5 L t) (x1 : Int32) (x2 : Int32) : ∀  (M : Mem), X5_areTwo t x1 x2 M = some (r, M') → me_W p l e rmX5_areTwo s m args below meth c D cI ad L (some (.int r)) M' 3 0 [(0, .ref (ad t)), (1, .int x1), (2, .int x2)] [] M := by
  obtain ⟨hx, hb, hr, hml, hown, hts, hlk, hK, hI⟩ := id C0
  intro M h
  unfold X5_areTwo at h
  intro H locs ls hP hS hl
  refine lv_aload_n hx hb dX5_areTwo_0 rfl (lv_at hl 0 rfl) ?_
  refine lv_iload_n hx hb dX5_areTwo_1 rfl (lv_at hl 1 rfl) ?_
  obtain ⟨v2, M2, h1, h⟩ := s_call_inv h
  refine me_callVi (As := [.int x1]) (rest := []) ⟨hx, hb, hml, hown, hts⟩ (c_X5_isPerson hT h1) (cwV 1 hts gX5_areTwo_X5_isPerson rfl rfl rfl hd_X5_isPerson ⟨(Nat.le_of_ble_eq_true rfl), (Nat.le_of_ble_eq_true rfl)⟩) hK hI hP hS hT.1 rfl rfl hl.1 rfl (Nat.le_of_ble_eq_true rfl) dX5_areTwo_2 ⟨Nat.zero_le _, Nat.zero_le _⟩ (fun H locs hP hS => ?_)
  refine lv_if_eq (tgt := 25) hx hb dX5_areTwo_5 (by decide) (fun q => ?_) (fun q => ?_)
  · rw [if_pos q] at h
    refine lv_iconst (v := (0 : Int32)) hx hb dX5_areTwo_25 (by decide) ?_
    exact me_zret hx hb hr hlk hP hS h dX5_areTwo_26
  · rw [if_neg q] at h
    refine lv_aload_n hx hb dX5_areTwo_8 rfl (lv_at hl 0 rfl) ?_
    refine lv_iload_n hx hb dX5_areTwo_9 rfl (lv_at hl 2 rfl) ?_
    obtain ⟨v10, M10, h1, h⟩ := s_call_inv h
    refine me_callVi (As := [.int x2]) (rest := []) ⟨hx, hb, hml, hown, hts⟩ (c_X5_isPerson hT h1) (cwV 1 hts gX5_areTwo_X5_isPerson rfl rfl rfl hd_X5_isPerson ⟨(Nat.le_of_ble_eq_true rfl), (Nat.le_of_ble_eq_true rfl)⟩) hK hI hP hS hT.1 rfl rfl hl.1 rfl (Nat.le_of_ble_eq_true rfl) dX5_areTwo_10 ⟨Nat.zero_le _, Nat.zero_le _⟩ (fun H locs hP hS => ?_)
    refine lv_if_eq (tgt := 25) hx hb dX5_areTwo_13 (by decide) (fun q => ?_) (fun q => ?_)
    · rw [if_pos q] at h
      refine lv_iconst (v := (0 : Int32)) hx hb dX5_areTwo_25 (by decide) ?_
      exact me_zret hx hb hr hlk hP hS h dX5_areTwo_26
    · rw [if_neg q] at h
      refine lv_iload_n hx hb dX5_areTwo_16 rfl (lv_at hl 1 rfl) ?_
      refine lv_iload_n hx hb dX5_areTwo_17 rfl (lv_at hl 2 rfl) ?_
      refine lv_icmp_eq (tgt := 25) hx hb dX5_areTwo_18 (by decide) (fun q => ?_) (fun q => ?_)
      · rw [if_pos q] at h
        refine lv_iconst (v := (0 : Int32)) hx hb dX5_areTwo_25 (by decide) ?_
        exact me_zret hx hb hr hlk hP hS h dX5_areTwo_26
      · rw [if_neg q] at h
        refine lv_iconst (v := (1 : Int32)) hx hb dX5_areTwo_21 (by decide) ?_
        refine lv_goto (tgt := 26) hx hb dX5_areTwo_22 (by decide) ?_
        exact me_zret hx hb hr hlk hP hS h dX5_areTwo_26
theorem c_X5_areTwo {l : Launch} {D : va_G} {cI : ClassId} {ad : Nat → Nat} {L : List CDs} {t : Nat} (hT : is_X5 L t) {x1 : Int32} {x2 : Int32} {M M' : Mem} {r : Int32} (h : X5_areTwo t x1 x2 M = some (r, M')) : me_Met l yX5_areTwo wsX5_areTwo rmX5_areTwo D cI ad L [.ref (ad t), .int x1, .int x2] (some (.int r)) M M' :=
  me_ofW (by decide) rfl (Nat.le_of_ble_eq_true rfl) (fun p e s m below meth c C0 => w_X5_areTwo C0 t hT x1 x2 M h)
abbrev rmX5_owes : Room := { frames := 3, cells := 0, slots := 0, locals := 63 }
theorem kX5_owes_f31 : (Cond.fieldLink RX5 31 "LadderOfBows" "now" "LLadderOfBows$Town;") ∈ wsX5_owes := List.mem_of_getElem? (i := 1) rfl
theorem in_X5_owes_X5 : ∀ w ∈ wsX50, w ∈ wsX5_owes := by decide +kernel
theorem hd_X5_owes : yX5_owes.cls = RX5 ∧ yX5_owes.cls ≠ "java/lang/invoke/MethodHandle" ∧ yX5_owes.cls ≠ "java/lang/invoke/VarHandle" ∧ (parseMethodDescriptor yX5_owes.desc).map (fun d => d.parameters.length) = some 2 := by decide +kernel
set_option maxRecDepth 100000 in
set_option maxHeartbeats 4000000 in
theorem w_X5_owes {p : Program} {l : Launch} {e : Env} {s : State} {m : MethodId} {args : Array Value} {below : List Frame} {meth : Method} {c : Code} {D : va_G} {cI : ClassId} {ad : Nat → Nat} {L : List CDs} {r : Int32} {M' : Mem} (C0 : me_X p s m args meth c cX5_owes 3 (some .int) wsX5_owes RX5 D cI ad L) (t : Nat) (hT : is_X5 L t) (x1 : Int32) (x2 : Int32) : ∀  (M : Mem), X5_owes t x1 x2 M = some (r, M') → me_W p l e rmX5_owes s m args below meth c D cI ad L (some (.int r)) M' 3 0 [(0, .ref (ad t)), (1, .int x1), (2, .int x2)] [] M := by
  obtain ⟨hx, hb, hr, hml, hown, hts, hlk, hK, hI⟩ := id C0
  intro M h
  unfold X5_owes at h
  intro H locs ls hP hS hl
  refine lv_aload_n hx hb dX5_owes_0 rfl (lv_at hl 0 rfl) ?_
  refine lv_iload_n hx hb dX5_owes_1 rfl (lv_at hl 1 rfl) ?_
  refine lv_iload_n hx hb dX5_owes_2 rfl (lv_at hl 2 rfl) ?_
  obtain ⟨v3, M3, h1, h⟩ := s_call_inv h
  refine me_callVi (As := [.int x1, .int x2]) (rest := []) ⟨hx, hb, hml, hown, hts⟩ (c_X5_areTwo hT h1) (cwV 2 hts gX5_owes_X5_areTwo rfl rfl rfl hd_X5_areTwo ⟨(Nat.le_of_ble_eq_true rfl), (Nat.le_of_ble_eq_true rfl)⟩) hK hI hP hS hT.1 rfl rfl hl.1 rfl (Nat.le_of_ble_eq_true rfl) dX5_owes_3 ⟨Nat.zero_le _, Nat.zero_le _⟩ (fun H locs hP hS => ?_)
  refine lv_if_eq (tgt := 21) hx hb dX5_owes_6 (by decide) (fun q => ?_) (fun q => ?_)
  · rw [if_pos q] at h
    refine lv_iconst (v := (-1 : Int32)) hx hb dX5_owes_21 (by decide) ?_
    exact me_iret hx hb hr hlk hP hS h dX5_owes_22
  · rw [if_neg q] at h
    refine lv_aload_n hx hb dX5_owes_9 rfl (lv_at hl 0 rfl) ?_
    refine me_getr (ci := 5) (C := RX5) (T := TX5) (N := 13) hx hb hts in_X5_owes_X5 hown hK hP hT.1 rfl 3 (by decide) (hts _ kX5_owes_f31) rfl dX5_owes_10 ?_
    refine lv_iload_n hx hb dX5_owes_13 rfl (lv_at hl 1 rfl) ?_
    refine lv_iload_n hx hb dX5_owes_14 rfl (lv_at hl 2 rfl) ?_
    obtain ⟨v15, M15, h1, h⟩ := s_call_inv h
    refine me_callVi (As := [.int x1, .int x2]) (rest := []) ⟨hx, hb, hml, hown, hts⟩ (c_X4_debt hT.2.2.2.2.1 h1) (cwV 2 hts gX5_owes_X4_debt rfl rfl rfl hd_X4_debt ⟨(Nat.le_of_ble_eq_true rfl), (Nat.le_of_ble_eq_true rfl)⟩) hK hI hP hS hT.2.2.2.2.1.1 rfl rfl hl.1 rfl (Nat.le_of_ble_eq_true rfl) dX5_owes_15 ⟨Nat.zero_le _, Nat.zero_le _⟩ (fun H locs hP hS => ?_)
    refine lv_goto (tgt := 22) hx hb dX5_owes_18 (by decide) ?_
    exact me_iret hx hb hr hlk hP hS h dX5_owes_22
theorem c_X5_owes {l : Launch} {D : va_G} {cI : ClassId} {ad : Nat → Nat} {L : List CDs} {t : Nat} (hT : is_X5 L t) {x1 : Int32} {x2 : Int32} {M M' : Mem} {r : Int32} (h : X5_owes t x1 x2 M = some (r, M')) : me_Met l yX5_owes wsX5_owes rmX5_owes D cI ad L [.ref (ad t), .int x1, .int x2] (some (.int r)) M M' :=
  me_ofW (by decide) rfl (Nat.le_of_ble_eq_true rfl) (fun p e s m below meth c C0 => w_X5_owes C0 t hT x1 x2 M h)
abbrev rmX5_speak : Room := { frames := 3, cells := 0, slots := 0, locals := 63 }
theorem kX5_speak_f31 : (Cond.fieldLink RX5 31 "LadderOfBows" "now" "LLadderOfBows$Town;") ∈ wsX5_speak := List.mem_of_getElem? (i := 1) rfl
theorem in_X5_speak_X5 : ∀ w ∈ wsX50, w ∈ wsX5_speak := by decide +kernel
theorem hd_X5_speak : yX5_speak.cls = RX5 ∧ yX5_speak.cls ≠ "java/lang/invoke/MethodHandle" ∧ yX5_speak.cls ≠ "java/lang/invoke/VarHandle" ∧ (parseMethodDescriptor yX5_speak.desc).map (fun d => d.parameters.length) = some 2 := by decide +kernel
set_option maxRecDepth 100000 in
set_option maxHeartbeats 4000000 in
theorem w_X5_speak {p : Program} {l : Launch} {e : Env} {s : State} {m : MethodId} {args : Array Value} {below : List Frame} {meth : Method} {c : Code} {D : va_G} {cI : ClassId} {ad : Nat → Nat} {L : List CDs} {r : Int32} {M' : Mem} (C0 : me_X p s m args meth c cX5_speak 3 (some .int) wsX5_speak RX5 D cI ad L) (t : Nat) (hT : is_X5 L t) (x1 : Int32) (x2 : Int32) : ∀  (M : Mem), X5_speak t x1 x2 M = some (r, M') → me_W p l e rmX5_speak s m args below meth c D cI ad L (some (.int r)) M' 3 0 [(0, .ref (ad t)), (1, .int x1), (2, .int x2)] [] M := by
  obtain ⟨hx, hb, hr, hml, hown, hts, hlk, hK, hI⟩ := id C0
  intro M h
  unfold X5_speak at h
  intro H locs ls hP hS hl
  refine lv_aload_n hx hb dX5_speak_0 rfl (lv_at hl 0 rfl) ?_
  refine lv_iload_n hx hb dX5_speak_1 rfl (lv_at hl 1 rfl) ?_
  refine lv_iload_n hx hb dX5_speak_2 rfl (lv_at hl 2 rfl) ?_
  obtain ⟨v3, M3, h1, h⟩ := s_call_inv h
  refine me_callVi (As := [.int x1, .int x2]) (rest := []) ⟨hx, hb, hml, hown, hts⟩ (c_X5_areTwo hT h1) (cwV 2 hts gX5_speak_X5_areTwo rfl rfl rfl hd_X5_areTwo ⟨(Nat.le_of_ble_eq_true rfl), (Nat.le_of_ble_eq_true rfl)⟩) hK hI hP hS hT.1 rfl rfl hl.1 rfl (Nat.le_of_ble_eq_true rfl) dX5_speak_3 ⟨Nat.zero_le _, Nat.zero_le _⟩ (fun H locs hP hS => ?_)
  refine lv_if_eq (tgt := 24) hx hb dX5_speak_6 (by decide) (fun q => ?_) (fun q => ?_)
  · rw [if_pos q] at h
    refine lv_iconst (v := (-1 : Int32)) hx hb dX5_speak_24 (by decide) ?_
    exact me_iret hx hb hr hlk hP hS h dX5_speak_25
  · rw [if_neg q] at h
    refine lv_aload_n hx hb dX5_speak_9 rfl (lv_at hl 0 rfl) ?_
    refine me_getr (ci := 5) (C := RX5) (T := TX5) (N := 13) hx hb hts in_X5_speak_X5 hown hK hP hT.1 rfl 3 (by decide) (hts _ kX5_speak_f31) rfl dX5_speak_10 ?_
    refine lv_iload_n hx hb dX5_speak_13 rfl (lv_at hl 1 rfl) ?_
    refine lv_iload_n hx hb dX5_speak_14 rfl (lv_at hl 2 rfl) ?_
    obtain ⟨v15, M15, h1, h⟩ := s_call_inv h
    refine me_callVi (As := [.int x1, .int x2]) (rest := []) ⟨hx, hb, hml, hown, hts⟩ (c_X4_maySpeak hT.2.2.2.2.1 h1) (cwV 2 hts gX5_speak_X4_maySpeak rfl rfl rfl hd_X4_maySpeak ⟨(Nat.le_of_ble_eq_true rfl), (Nat.le_of_ble_eq_true rfl)⟩) hK hI hP hS hT.2.2.2.2.1.1 rfl rfl hl.1 rfl (Nat.le_of_ble_eq_true rfl) dX5_speak_15 ⟨Nat.zero_le _, Nat.zero_le _⟩ (fun H locs hP hS => ?_)
    obtain ⟨v18, M18, h1, h⟩ := s_call_inv h
    refine me_callSi (As := [.int v15]) (rest := []) ⟨hx, hb, hml, hown, hts⟩ (c_X5_asNumber h1) (va_cwS 1 hts gX5_speak_X5_asNumber rfl rfl rfl hd_X5_asNumber.2 ⟨(Nat.le_of_ble_eq_true rfl), (Nat.le_of_ble_eq_true rfl)⟩) hK hI hP hS rfl hl.1 rfl (Nat.le_of_ble_eq_true rfl) dX5_speak_18 ⟨Nat.zero_le _, Nat.zero_le _⟩ (fun H locs hP hS => ?_)
    refine lv_goto (tgt := 25) hx hb dX5_speak_21 (by decide) ?_
    exact me_iret hx hb hr hlk hP hS h dX5_speak_25
theorem c_X5_speak {l : Launch} {D : va_G} {cI : ClassId} {ad : Nat → Nat} {L : List CDs} {t : Nat} (hT : is_X5 L t) {x1 : Int32} {x2 : Int32} {M M' : Mem} {r : Int32} (h : X5_speak t x1 x2 M = some (r, M')) : me_Met l yX5_speak wsX5_speak rmX5_speak D cI ad L [.ref (ad t), .int x1, .int x2] (some (.int r)) M M' :=
  me_ofW (by decide) rfl (Nat.le_of_ble_eq_true rfl) (fun p e s m below meth c C0 => w_X5_speak C0 t hT x1 x2 M h)
abbrev rmX5_act : Room := { frames := 5, cells := 0, slots := 0, locals := 113 }
theorem kX5_act_f31 : (Cond.fieldLink RX5 31 "LadderOfBows" "now" "LLadderOfBows$Town;") ∈ wsX5_act := List.mem_of_getElem? (i := 1) rfl
theorem kX5_act_f43 : (Cond.fieldLink RX5 43 "LadderOfBows" "acts" "LLadderOfBows$Acts;") ∈ wsX5_act := List.mem_of_getElem? (i := 2) rfl
theorem in_X5_act_X5 : ∀ w ∈ wsX50, w ∈ wsX5_act := by decide +kernel
theorem hd_X5_act : yX5_act.cls = RX5 ∧ yX5_act.cls ≠ "java/lang/invoke/MethodHandle" ∧ yX5_act.cls ≠ "java/lang/invoke/VarHandle" ∧ (parseMethodDescriptor yX5_act.desc).map (fun d => d.parameters.length) = some 3 := by decide +kernel
set_option maxRecDepth 100000 in
set_option maxHeartbeats 4000000 in
theorem w_X5_act {p : Program} {l : Launch} {e : Env} {s : State} {m : MethodId} {args : Array Value} {below : List Frame} {meth : Method} {c : Code} {D : va_G} {cI : ClassId} {ad : Nat → Nat} {L : List CDs} {r : Int32} {M' : Mem} (C0 : me_X p s m args meth c cX5_act 4 (some .int) wsX5_act RX5 D cI ad L) (t : Nat) (hT : is_X5 L t) (x1 : Int32) (x2 : Int32) (x3 : Int32) : ∀  (M : Mem), X5_act t x1 x2 x3 M = some (r, M') → me_W p l e rmX5_act s m args below meth c D cI ad L (some (.int r)) M' 4 0 [(0, .ref (ad t)), (1, .int x1), (2, .int x2), (3, .int x3)] [] M := by
  obtain ⟨hx, hb, hr, hml, hown, hts, hlk, hK, hI⟩ := id C0
  intro M h
  unfold X5_act at h
  intro H locs ls hP hS hl
  refine lv_aload_n hx hb dX5_act_0 rfl (lv_at hl 0 rfl) ?_
  refine me_getr (ci := 5) (C := RX5) (T := TX5) (N := 13) hx hb hts in_X5_act_X5 hown hK hP hT.1 rfl 3 (by decide) (hts _ kX5_act_f31) rfl dX5_act_1 ?_
  refine lv_iload_n hx hb dX5_act_4 rfl (lv_at hl 1 rfl) ?_
  refine lv_iload_n hx hb dX5_act_5 rfl (lv_at hl 2 rfl) ?_
  refine lv_iload_n hx hb dX5_act_6 rfl (lv_at hl 3 rfl) ?_
  obtain ⟨v7, M7, h1, h⟩ := s_call_inv h
  refine me_callVi (As := [.int x1, .int x2, .int x3]) (rest := []) ⟨hx, hb, hml, hown, hts⟩ (c_X4_canBeDone hT.2.2.2.2.1 h1) (cwV 3 hts gX5_act_X4_canBeDone rfl rfl rfl hd_X4_canBeDone ⟨(Nat.le_of_ble_eq_true rfl), (Nat.le_of_ble_eq_true rfl)⟩) hK hI hP hS hT.2.2.2.2.1.1 rfl rfl hl.1 rfl (Nat.le_of_ble_eq_true rfl) dX5_act_7 ⟨Nat.zero_le _, Nat.zero_le _⟩ (fun H locs hP hS => ?_)
  refine lv_if_ne (tgt := 16) hx hb dX5_act_10 (by decide) (fun q => ?_) (fun q => ?_)
  · rw [if_pos q] at h
    refine lv_aload_n hx hb dX5_act_16 rfl (lv_at hl 0 rfl) ?_
    refine me_getr (ci := 5) (C := RX5) (T := TX5) (N := 13) hx hb hts in_X5_act_X5 hown hK hP hT.1 rfl 5 (by decide) (hts _ kX5_act_f43) rfl dX5_act_17 ?_
    obtain ⟨v20, M20, h1, h⟩ := s_call_inv h
    refine me_callVi (As := []) (rest := []) ⟨hx, hb, hml, hown, hts⟩ (c_X0_size hT.2.2.2.2.2.2.1 h1) (cwV 0 hts gX5_act_X0_size rfl rfl rfl hd_X0_size ⟨(Nat.le_of_ble_eq_true rfl), (Nat.le_of_ble_eq_true rfl)⟩) hK hI hP hS hT.2.2.2.2.2.2.1.1 rfl rfl hl.1 rfl (Nat.le_of_ble_eq_true rfl) dX5_act_20 ⟨Nat.zero_le _, Nat.zero_le _⟩ (fun H locs hP hS => ?_)
    refine lv_bipush (v := (40 : Int32)) hx hb dX5_act_23 (by decide) ?_
    refine lv_icmp_lt (tgt := 31) hx hb dX5_act_25 (by decide) (fun q => ?_) (fun q => ?_)
    · rw [if_pos q] at h
      refine lv_aload_n hx hb dX5_act_31 rfl (lv_at hl 0 rfl) ?_
      refine me_getr (ci := 5) (C := RX5) (T := TX5) (N := 13) hx hb hts in_X5_act_X5 hown hK hP hT.1 rfl 5 (by decide) (hts _ kX5_act_f43) rfl dX5_act_32 ?_
      refine lv_iload_n hx hb dX5_act_35 rfl (lv_at hl 1 rfl) ?_
      refine lv_iload_n hx hb dX5_act_36 rfl (lv_at hl 2 rfl) ?_
      refine lv_iload_n hx hb dX5_act_37 rfl (lv_at hl 3 rfl) ?_
      obtain ⟨u38, M38, h1, h⟩ := s_call_inv h
      refine me_callVv (As := [.int x1, .int x2, .int x3]) (rest := []) ⟨hx, hb, hml, hown, hts⟩ (c_X0_add hT.2.2.2.2.2.2.1 h1) (cwV 3 hts gX5_act_X0_add rfl rfl rfl hd_X0_add ⟨(Nat.le_of_ble_eq_true rfl), (Nat.le_of_ble_eq_true rfl)⟩) hK hI hP hS hT.2.2.2.2.2.2.1.1 rfl rfl hl.1 rfl (Nat.le_of_ble_eq_true rfl) dX5_act_38 ⟨Nat.zero_le _, Nat.zero_le _⟩ (fun H locs hP hS => ?_)
      refine lv_aload_n hx hb dX5_act_41 rfl (lv_at hl 0 rfl) ?_
      refine me_getr (ci := 5) (C := RX5) (T := TX5) (N := 13) hx hb hts in_X5_act_X5 hown hK hP hT.1 rfl 3 (by decide) (hts _ kX5_act_f31) rfl dX5_act_42 ?_
      refine lv_iload_n hx hb dX5_act_45 rfl (lv_at hl 1 rfl) ?_
      refine lv_iload_n hx hb dX5_act_46 rfl (lv_at hl 2 rfl) ?_
      refine lv_iload_n hx hb dX5_act_47 rfl (lv_at hl 3 rfl) ?_
      obtain ⟨u48, M48, h1, h⟩ := s_call_inv h
      refine me_callVv (As := [.int x1, .int x2, .int x3]) (rest := []) ⟨hx, hb, hml, hown, hts⟩ (c_X4_perform hT.2.2.2.2.1 h1) (cwV 3 hts gX5_act_X4_perform rfl rfl rfl hd_X4_perform ⟨(Nat.le_of_ble_eq_true rfl), (Nat.le_of_ble_eq_true rfl)⟩) hK hI hP hS hT.2.2.2.2.1.1 rfl rfl hl.1 rfl (Nat.le_of_ble_eq_true rfl) dX5_act_48 ⟨Nat.zero_le _, Nat.zero_le _⟩ (fun H locs hP hS => ?_)
      refine lv_iconst (v := (0 : Int32)) hx hb dX5_act_51 (by decide) ?_
      exact me_iret hx hb hr hlk hP hS h dX5_act_52
    · rw [if_neg q] at h
      refine lv_bipush (v := (-3 : Int32)) hx hb dX5_act_28 (by decide) ?_
      exact me_iret hx hb hr hlk hP hS h dX5_act_30
  · rw [if_neg (not_not_intro q)] at h
    refine lv_bipush (v := (-2 : Int32)) hx hb dX5_act_13 (by decide) ?_
    exact me_iret hx hb hr hlk hP hS h dX5_act_15
theorem c_X5_act {l : Launch} {D : va_G} {cI : ClassId} {ad : Nat → Nat} {L : List CDs} {t : Nat} (hT : is_X5 L t) {x1 : Int32} {x2 : Int32} {x3 : Int32} {M M' : Mem} {r : Int32} (h : X5_act t x1 x2 x3 M = some (r, M')) : me_Met l yX5_act wsX5_act rmX5_act D cI ad L [.ref (ad t), .int x1, .int x2, .int x3] (some (.int r)) M M' :=
  me_ofW (by decide) rfl (Nat.le_of_ble_eq_true rfl) (fun p e s m below meth c C0 => w_X5_act C0 t hT x1 x2 x3 M h)
abbrev rmX5_actOfTwo : Room := { frames := 6, cells := 0, slots := 0, locals := 136 }
theorem kX5_actOfTwo_f31 : (Cond.fieldLink RX5 31 "LadderOfBows" "now" "LLadderOfBows$Town;") ∈ wsX5_actOfTwo := List.mem_of_getElem? (i := 1) rfl
theorem in_X5_actOfTwo_X5 : ∀ w ∈ wsX50, w ∈ wsX5_actOfTwo := by decide +kernel
theorem hd_X5_actOfTwo : yX5_actOfTwo.cls = RX5 ∧ yX5_actOfTwo.cls ≠ "java/lang/invoke/MethodHandle" ∧ yX5_actOfTwo.cls ≠ "java/lang/invoke/VarHandle" ∧ (parseMethodDescriptor yX5_actOfTwo.desc).map (fun d => d.parameters.length) = some 3 := by decide +kernel
set_option maxRecDepth 100000 in
set_option maxHeartbeats 4000000 in
theorem w_X5_actOfTwo {p : Program} {l : Launch} {e : Env} {s : State} {m : MethodId} {args : Array Value} {below : List Frame} {meth : Method} {c : Code} {D : va_G} {cI : ClassId} {ad : Nat → Nat} {L : List CDs} {r : Int32} {M' : Mem} (C0 : me_X p s m args meth c cX5_actOfTwo 5 (some .int) wsX5_actOfTwo RX5 D cI ad L) (t : Nat) (hT : is_X5 L t) (x1 : Int32) (x2 : Int32) (x3 : Int32) : ∀  (M : Mem), X5_actOfTwo t x1 x2 x3 M = some (r, M') → me_W p l e rmX5_actOfTwo s m args below meth c D cI ad L (some (.int r)) M' 5 0 [(0, .ref (ad t)), (1, .int x1), (2, .int x2), (3, .int x3)] [] M := by
  obtain ⟨hx, hb, hr, hml, hown, hts, hlk, hK, hI⟩ := id C0
  intro M h
  unfold X5_actOfTwo at h
  intro H locs ls hP hS hl
  refine lv_aload_n hx hb dX5_actOfTwo_0 rfl (lv_at hl 0 rfl) ?_
  refine lv_iload_n hx hb dX5_actOfTwo_1 rfl (lv_at hl 2 rfl) ?_
  refine lv_iload_n hx hb dX5_actOfTwo_2 rfl (lv_at hl 3 rfl) ?_
  obtain ⟨v3, M3, h1, h⟩ := s_call_inv h
  refine me_callVi (As := [.int x2, .int x3]) (rest := []) ⟨hx, hb, hml, hown, hts⟩ (c_X5_areTwo hT h1) (cwV 2 hts gX5_actOfTwo_X5_areTwo rfl rfl rfl hd_X5_areTwo ⟨(Nat.le_of_ble_eq_true rfl), (Nat.le_of_ble_eq_true rfl)⟩) hK hI hP hS hT.1 rfl rfl hl.1 rfl (Nat.le_of_ble_eq_true rfl) dX5_actOfTwo_3 ⟨Nat.zero_le _, Nat.zero_le _⟩ (fun H locs hP hS => ?_)
  refine lv_if_ne (tgt := 11) hx hb dX5_actOfTwo_6 (by decide) (fun q => ?_) (fun q => ?_)
  · rw [if_pos q] at h
    refine lv_aload_n hx hb dX5_actOfTwo_11 rfl (lv_at hl 0 rfl) ?_
    refine lv_iload_n hx hb dX5_actOfTwo_12 rfl (lv_at hl 1 rfl) ?_
    refine lv_iload_n hx hb dX5_actOfTwo_13 rfl (lv_at hl 2 rfl) ?_
    refine lv_iload_n hx hb dX5_actOfTwo_14 rfl (lv_at hl 3 rfl) ?_
    obtain ⟨v15, M15, h1, h⟩ := s_call_inv h
    refine me_callVi (As := [.int x1, .int x2, .int x3]) (rest := []) ⟨hx, hb, hml, hown, hts⟩ (c_X5_act hT h1) (cwV 3 hts gX5_actOfTwo_X5_act rfl rfl rfl hd_X5_act ⟨(Nat.le_of_ble_eq_true rfl), (Nat.le_of_ble_eq_true rfl)⟩) hK hI hP hS hT.1 rfl rfl hl.1 rfl (Nat.le_of_ble_eq_true rfl) dX5_actOfTwo_15 ⟨Nat.zero_le _, Nat.zero_le _⟩ (fun H locs hP hS => ?_)
    refine lv_istore (lv' := [(4, .int v15), (0, .ref (ad t)), (1, .int x1), (2, .int x2), (3, .int x3)]) hx hb dX5_actOfTwo_18 hl (by decide) rfl (fun ls hl => ?_)
    refine lv_iload hx hb dX5_actOfTwo_20 (lv_at hl 0 rfl) ?_
    refine lv_if_ge (tgt := 30) hx hb dX5_actOfTwo_22 (by decide) (fun q => ?_) (fun q => ?_)
    · rw [if_pos q] at h
      refine lv_aload_n hx hb dX5_actOfTwo_30 rfl (lv_at hl 1 rfl) ?_
      refine me_getr (ci := 5) (C := RX5) (T := TX5) (N := 13) hx hb hts in_X5_actOfTwo_X5 hown hK hP hT.1 rfl 3 (by decide) (hts _ kX5_actOfTwo_f31) rfl dX5_actOfTwo_31 ?_
      refine lv_iload_n hx hb dX5_actOfTwo_34 rfl (lv_at hl 3 rfl) ?_
      refine lv_iload_n hx hb dX5_actOfTwo_35 rfl (lv_at hl 4 rfl) ?_
      obtain ⟨v36, M36, h1, h⟩ := s_call_inv h
      refine me_callVi (As := [.int x2, .int x3]) (rest := []) ⟨hx, hb, hml, hown, hts⟩ (c_X4_debt hT.2.2.2.2.1 h1) (cwV 2 hts gX5_actOfTwo_X4_debt rfl rfl rfl hd_X4_debt ⟨(Nat.le_of_ble_eq_true rfl), (Nat.le_of_ble_eq_true rfl)⟩) hK hI hP hS hT.2.2.2.2.1.1 rfl rfl hl.1 rfl (Nat.le_of_ble_eq_true rfl) dX5_actOfTwo_36 ⟨Nat.zero_le _, Nat.zero_le _⟩ (fun H locs hP hS => ?_)
      exact me_iret hx hb hr hlk hP hS h dX5_actOfTwo_39
    · rw [if_neg q] at h
      refine lv_iload hx hb dX5_actOfTwo_25 (lv_at hl 0 rfl) ?_
      refine lv_goto (tgt := 39) hx hb dX5_actOfTwo_27 (by decide) ?_
      exact me_iret hx hb hr hlk hP hS h dX5_actOfTwo_39
  · rw [if_neg (not_not_intro q)] at h
    refine lv_iconst (v := (-1 : Int32)) hx hb dX5_actOfTwo_9 (by decide) ?_
    exact me_iret hx hb hr hlk hP hS h dX5_actOfTwo_10
theorem c_X5_actOfTwo {l : Launch} {D : va_G} {cI : ClassId} {ad : Nat → Nat} {L : List CDs} {t : Nat} (hT : is_X5 L t) {x1 : Int32} {x2 : Int32} {x3 : Int32} {M M' : Mem} {r : Int32} (h : X5_actOfTwo t x1 x2 x3 M = some (r, M')) : me_Met l yX5_actOfTwo wsX5_actOfTwo rmX5_actOfTwo D cI ad L [.ref (ad t), .int x1, .int x2, .int x3] (some (.int r)) M M' :=
  me_ofW (by decide) rfl (Nat.le_of_ble_eq_true rfl) (fun p e s m below meth c C0 => w_X5_actOfTwo C0 t hT x1 x2 x3 M h)
abbrev rmX5_wrong : Room := { frames := 7, cells := 0, slots := 0, locals := 160 }
theorem hd_X5_wrong : yX5_wrong.cls = RX5 ∧ yX5_wrong.cls ≠ "java/lang/invoke/MethodHandle" ∧ yX5_wrong.cls ≠ "java/lang/invoke/VarHandle" ∧ (parseMethodDescriptor yX5_wrong.desc).map (fun d => d.parameters.length) = some 2 := by decide +kernel
set_option maxRecDepth 100000 in
set_option maxHeartbeats 4000000 in
theorem w_X5_wrong {p : Program} {l : Launch} {e : Env} {s : State} {m : MethodId} {args : Array Value} {below : List Frame} {meth : Method} {c : Code} {D : va_G} {cI : ClassId} {ad : Nat → Nat} {L : List CDs} {r : Int32} {M' : Mem} (C0 : me_X p s m args meth c cX5_wrong 3 (some .int) wsX5_wrong RX5 D cI ad L) (t : Nat) (hT : is_X5 L t) (x1 : Int32) (x2 : Int32) : ∀  (M : Mem), X5_wrong t x1 x2 M = some (r, M') → me_W p l e rmX5_wrong s m args below meth c D cI ad L (some (.int r)) M' 3 0 [(0, .ref (ad t)), (1, .int x1), (2, .int x2)] [] M := by
  obtain ⟨hx, hb, hr, hml, hown, hts, hlk, hK, hI⟩ := id C0
  intro M h
  unfold X5_wrong at h
  intro H locs ls hP hS hl
  refine lv_aload_n hx hb dX5_wrong_0 rfl (lv_at hl 0 rfl) ?_
  refine lv_iconst (v := (0 : Int32)) hx hb dX5_wrong_1 (by decide) ?_
  refine lv_iload_n hx hb dX5_wrong_2 rfl (lv_at hl 1 rfl) ?_
  refine lv_iload_n hx hb dX5_wrong_3 rfl (lv_at hl 2 rfl) ?_
  obtain ⟨v4, M4, h1, h⟩ := s_call_inv h
  refine me_callVi (As := [.int (0 : Int32), .int x1, .int x2]) (rest := []) ⟨hx, hb, hml, hown, hts⟩ (c_X5_actOfTwo hT h1) (cwV 3 hts gX5_wrong_X5_actOfTwo rfl rfl rfl hd_X5_actOfTwo ⟨(Nat.le_of_ble_eq_true rfl), (Nat.le_of_ble_eq_true rfl)⟩) hK hI hP hS hT.1 rfl rfl hl.1 rfl (Nat.le_of_ble_eq_true rfl) dX5_wrong_4 ⟨Nat.zero_le _, Nat.zero_le _⟩ (fun H locs hP hS => ?_)
  exact me_iret hx hb hr hlk hP hS h dX5_wrong_7
theorem c_X5_wrong {l : Launch} {D : va_G} {cI : ClassId} {ad : Nat → Nat} {L : List CDs} {t : Nat} (hT : is_X5 L t) {x1 : Int32} {x2 : Int32} {M M' : Mem} {r : Int32} (h : X5_wrong t x1 x2 M = some (r, M')) : me_Met l yX5_wrong wsX5_wrong rmX5_wrong D cI ad L [.ref (ad t), .int x1, .int x2] (some (.int r)) M M' :=
  me_ofW (by decide) rfl (Nat.le_of_ble_eq_true rfl) (fun p e s m below meth c C0 => w_X5_wrong C0 t hT x1 x2 M h)
abbrev rmX5_bow : Room := { frames := 7, cells := 0, slots := 0, locals := 160 }
theorem hd_X5_bow : yX5_bow.cls = RX5 ∧ yX5_bow.cls ≠ "java/lang/invoke/MethodHandle" ∧ yX5_bow.cls ≠ "java/lang/invoke/VarHandle" ∧ (parseMethodDescriptor yX5_bow.desc).map (fun d => d.parameters.length) = some 2 := by decide +kernel
set_option maxRecDepth 100000 in
set_option maxHeartbeats 4000000 in
theorem w_X5_bow {p : Program} {l : Launch} {e : Env} {s : State} {m : MethodId} {args : Array Value} {below : List Frame} {meth : Method} {c : Code} {D : va_G} {cI : ClassId} {ad : Nat → Nat} {L : List CDs} {r : Int32} {M' : Mem} (C0 : me_X p s m args meth c cX5_bow 3 (some .int) wsX5_bow RX5 D cI ad L) (t : Nat) (hT : is_X5 L t) (x1 : Int32) (x2 : Int32) : ∀  (M : Mem), X5_bow t x1 x2 M = some (r, M') → me_W p l e rmX5_bow s m args below meth c D cI ad L (some (.int r)) M' 3 0 [(0, .ref (ad t)), (1, .int x1), (2, .int x2)] [] M := by
  obtain ⟨hx, hb, hr, hml, hown, hts, hlk, hK, hI⟩ := id C0
  intro M h
  unfold X5_bow at h
  intro H locs ls hP hS hl
  refine lv_aload_n hx hb dX5_bow_0 rfl (lv_at hl 0 rfl) ?_
  refine lv_iconst (v := (1 : Int32)) hx hb dX5_bow_1 (by decide) ?_
  refine lv_iload_n hx hb dX5_bow_2 rfl (lv_at hl 1 rfl) ?_
  refine lv_iload_n hx hb dX5_bow_3 rfl (lv_at hl 2 rfl) ?_
  obtain ⟨v4, M4, h1, h⟩ := s_call_inv h
  refine me_callVi (As := [.int (1 : Int32), .int x1, .int x2]) (rest := []) ⟨hx, hb, hml, hown, hts⟩ (c_X5_actOfTwo hT h1) (cwV 3 hts gX5_bow_X5_actOfTwo rfl rfl rfl hd_X5_actOfTwo ⟨(Nat.le_of_ble_eq_true rfl), (Nat.le_of_ble_eq_true rfl)⟩) hK hI hP hS hT.1 rfl rfl hl.1 rfl (Nat.le_of_ble_eq_true rfl) dX5_bow_4 ⟨Nat.zero_le _, Nat.zero_le _⟩ (fun H locs hP hS => ?_)
  exact me_iret hx hb hr hlk hP hS h dX5_bow_7
theorem c_X5_bow {l : Launch} {D : va_G} {cI : ClassId} {ad : Nat → Nat} {L : List CDs} {t : Nat} (hT : is_X5 L t) {x1 : Int32} {x2 : Int32} {M M' : Mem} {r : Int32} (h : X5_bow t x1 x2 M = some (r, M')) : me_Met l yX5_bow wsX5_bow rmX5_bow D cI ad L [.ref (ad t), .int x1, .int x2] (some (.int r)) M M' :=
  me_ofW (by decide) rfl (Nat.le_of_ble_eq_true rfl) (fun p e s m below meth c C0 => w_X5_bow C0 t hT x1 x2 M h)
abbrev rmX5_refuse : Room := { frames := 7, cells := 0, slots := 0, locals := 160 }
theorem hd_X5_refuse : yX5_refuse.cls = RX5 ∧ yX5_refuse.cls ≠ "java/lang/invoke/MethodHandle" ∧ yX5_refuse.cls ≠ "java/lang/invoke/VarHandle" ∧ (parseMethodDescriptor yX5_refuse.desc).map (fun d => d.parameters.length) = some 2 := by decide +kernel
set_option maxRecDepth 100000 in
set_option maxHeartbeats 4000000 in
theorem w_X5_refuse {p : Program} {l : Launch} {e : Env} {s : State} {m : MethodId} {args : Array Value} {below : List Frame} {meth : Method} {c : Code} {D : va_G} {cI : ClassId} {ad : Nat → Nat} {L : List CDs} {r : Int32} {M' : Mem} (C0 : me_X p s m args meth c cX5_refuse 3 (some .int) wsX5_refuse RX5 D cI ad L) (t : Nat) (hT : is_X5 L t) (x1 : Int32) (x2 : Int32) : ∀  (M : Mem), X5_refuse t x1 x2 M = some (r, M') → me_W p l e rmX5_refuse s m args below meth c D cI ad L (some (.int r)) M' 3 0 [(0, .ref (ad t)), (1, .int x1), (2, .int x2)] [] M := by
  obtain ⟨hx, hb, hr, hml, hown, hts, hlk, hK, hI⟩ := id C0
  intro M h
  unfold X5_refuse at h
  intro H locs ls hP hS hl
  refine lv_aload_n hx hb dX5_refuse_0 rfl (lv_at hl 0 rfl) ?_
  refine lv_iconst (v := (2 : Int32)) hx hb dX5_refuse_1 (by decide) ?_
  refine lv_iload_n hx hb dX5_refuse_2 rfl (lv_at hl 1 rfl) ?_
  refine lv_iload_n hx hb dX5_refuse_3 rfl (lv_at hl 2 rfl) ?_
  obtain ⟨v4, M4, h1, h⟩ := s_call_inv h
  refine me_callVi (As := [.int (2 : Int32), .int x1, .int x2]) (rest := []) ⟨hx, hb, hml, hown, hts⟩ (c_X5_actOfTwo hT h1) (cwV 3 hts gX5_refuse_X5_actOfTwo rfl rfl rfl hd_X5_actOfTwo ⟨(Nat.le_of_ble_eq_true rfl), (Nat.le_of_ble_eq_true rfl)⟩) hK hI hP hS hT.1 rfl rfl hl.1 rfl (Nat.le_of_ble_eq_true rfl) dX5_refuse_4 ⟨Nat.zero_le _, Nat.zero_le _⟩ (fun H locs hP hS => ?_)
  exact me_iret hx hb hr hlk hP hS h dX5_refuse_7
theorem c_X5_refuse {l : Launch} {D : va_G} {cI : ClassId} {ad : Nat → Nat} {L : List CDs} {t : Nat} (hT : is_X5 L t) {x1 : Int32} {x2 : Int32} {M M' : Mem} {r : Int32} (h : X5_refuse t x1 x2 M = some (r, M')) : me_Met l yX5_refuse wsX5_refuse rmX5_refuse D cI ad L [.ref (ad t), .int x1, .int x2] (some (.int r)) M M' :=
  me_ofW (by decide) rfl (Nat.le_of_ble_eq_true rfl) (fun p e s m below meth c C0 => w_X5_refuse C0 t hT x1 x2 M h)
abbrev rmX5_atOnce : Room := { frames := 7, cells := 0, slots := 0, locals := 160 }
theorem kX5_atOnce_f31 : (Cond.fieldLink RX5 31 "LadderOfBows" "now" "LLadderOfBows$Town;") ∈ wsX5_atOnce := List.mem_of_getElem? (i := 1) rfl
theorem in_X5_atOnce_X5 : ∀ w ∈ wsX50, w ∈ wsX5_atOnce := by decide +kernel
theorem hd_X5_atOnce : yX5_atOnce.cls = RX5 ∧ yX5_atOnce.cls ≠ "java/lang/invoke/MethodHandle" ∧ yX5_atOnce.cls ≠ "java/lang/invoke/VarHandle" ∧ (parseMethodDescriptor yX5_atOnce.desc).map (fun d => d.parameters.length) = some 2 := by decide +kernel
set_option maxRecDepth 100000 in
set_option maxHeartbeats 4000000 in
theorem w_X5_atOnce {p : Program} {l : Launch} {e : Env} {s : State} {m : MethodId} {args : Array Value} {below : List Frame} {meth : Method} {c : Code} {D : va_G} {cI : ClassId} {ad : Nat → Nat} {L : List CDs} {r : Int32} {M' : Mem} (C0 : me_X p s m args meth c cX5_atOnce 4 (some .int) wsX5_atOnce RX5 D cI ad L) (t : Nat) (hT : is_X5 L t) (x1 : Int32) (x2 : Int32) : ∀  (M : Mem), X5_atOnce t x1 x2 M = some (r, M') → me_W p l e rmX5_atOnce s m args below meth c D cI ad L (some (.int r)) M' 4 0 [(0, .ref (ad t)), (1, .int x1), (2, .int x2)] [] M := by
  obtain ⟨hx, hb, hr, hml, hown, hts, hlk, hK, hI⟩ := id C0
  intro M h
  unfold X5_atOnce at h
  intro H locs ls hP hS hl
  refine lv_aload_n hx hb dX5_atOnce_0 rfl (lv_at hl 0 rfl) ?_
  refine lv_iconst (v := (3 : Int32)) hx hb dX5_atOnce_1 (by decide) ?_
  refine lv_iload_n hx hb dX5_atOnce_2 rfl (lv_at hl 1 rfl) ?_
  refine lv_iload_n hx hb dX5_atOnce_3 rfl (lv_at hl 2 rfl) ?_
  obtain ⟨v4, M4, h1, h⟩ := s_call_inv h
  refine me_callVi (As := [.int (3 : Int32), .int x1, .int x2]) (rest := []) ⟨hx, hb, hml, hown, hts⟩ (c_X5_actOfTwo hT h1) (cwV 3 hts gX5_atOnce_X5_actOfTwo rfl rfl rfl hd_X5_actOfTwo ⟨(Nat.le_of_ble_eq_true rfl), (Nat.le_of_ble_eq_true rfl)⟩) hK hI hP hS hT.1 rfl rfl hl.1 rfl (Nat.le_of_ble_eq_true rfl) dX5_atOnce_4 ⟨Nat.zero_le _, Nat.zero_le _⟩ (fun H locs hP hS => ?_)
  refine lv_istore_n (lv' := [(3, .int v4), (0, .ref (ad t)), (1, .int x1), (2, .int x2)]) hx hb dX5_atOnce_7 rfl hl (by decide) rfl (fun ls hl => ?_)
  refine lv_iload_n hx hb dX5_atOnce_8 rfl (lv_at hl 0 rfl) ?_
  refine lv_if_ge (tgt := 16) hx hb dX5_atOnce_9 (by decide) (fun q => ?_) (fun q => ?_)
  · rw [if_pos q] at h
    refine lv_aload_n hx hb dX5_atOnce_16 rfl (lv_at hl 1 rfl) ?_
    refine me_getr (ci := 5) (C := RX5) (T := TX5) (N := 13) hx hb hts in_X5_atOnce_X5 hown hK hP hT.1 rfl 3 (by decide) (hts _ kX5_atOnce_f31) rfl dX5_atOnce_17 ?_
    refine lv_iload_n hx hb dX5_atOnce_20 rfl (lv_at hl 2 rfl) ?_
    refine lv_iload_n hx hb dX5_atOnce_21 rfl (lv_at hl 3 rfl) ?_
    obtain ⟨v22, M22, h1, h⟩ := s_call_inv h
    refine me_callVi (As := [.int x1, .int x2]) (rest := []) ⟨hx, hb, hml, hown, hts⟩ (c_X4_debt hT.2.2.2.2.1 h1) (cwV 2 hts gX5_atOnce_X4_debt rfl rfl rfl hd_X4_debt ⟨(Nat.le_of_ble_eq_true rfl), (Nat.le_of_ble_eq_true rfl)⟩) hK hI hP hS hT.2.2.2.2.1.1 rfl rfl hl.1 rfl (Nat.le_of_ble_eq_true rfl) dX5_atOnce_22 ⟨Nat.zero_le _, Nat.zero_le _⟩ (fun H locs hP hS => ?_)
    refine lv_aload_n hx hb dX5_atOnce_25 rfl (lv_at hl 1 rfl) ?_
    refine me_getr (ci := 5) (C := RX5) (T := TX5) (N := 13) hx hb hts in_X5_atOnce_X5 hown hK hP hT.1 rfl 3 (by decide) (hts _ kX5_atOnce_f31) rfl dX5_atOnce_26 ?_
    refine lv_iload_n hx hb dX5_atOnce_29 rfl (lv_at hl 3 rfl) ?_
    refine lv_iload_n hx hb dX5_atOnce_30 rfl (lv_at hl 2 rfl) ?_
    obtain ⟨v31, M31, h1, h⟩ := s_call_inv h
    refine me_callVi (As := [.int x2, .int x1]) (rest := [.int v22]) ⟨hx, hb, hml, hown, hts⟩ (c_X4_debt hT.2.2.2.2.1 h1) (cwV 2 hts gX5_atOnce_X4_debt rfl rfl rfl hd_X4_debt ⟨(Nat.le_of_ble_eq_true rfl), (Nat.le_of_ble_eq_true rfl)⟩) hK hI hP hS hT.2.2.2.2.1.1 rfl rfl hl.1 rfl (Nat.le_of_ble_eq_true rfl) dX5_atOnce_31 ⟨Nat.zero_le _, Nat.zero_le _⟩ (fun H locs hP hS => ?_)
    refine lv_iadd hx hb dX5_atOnce_34 ?_
    exact me_iret hx hb hr hlk hP hS h dX5_atOnce_35
  · rw [if_neg q] at h
    refine lv_iload_n hx hb dX5_atOnce_12 rfl (lv_at hl 0 rfl) ?_
    refine lv_goto (tgt := 35) hx hb dX5_atOnce_13 (by decide) ?_
    exact me_iret hx hb hr hlk hP hS h dX5_atOnce_35
theorem c_X5_atOnce {l : Launch} {D : va_G} {cI : ClassId} {ad : Nat → Nat} {L : List CDs} {t : Nat} (hT : is_X5 L t) {x1 : Int32} {x2 : Int32} {M M' : Mem} {r : Int32} (h : X5_atOnce t x1 x2 M = some (r, M')) : me_Met l yX5_atOnce wsX5_atOnce rmX5_atOnce D cI ad L [.ref (ad t), .int x1, .int x2] (some (.int r)) M M' :=
  me_ofW (by decide) rfl (Nat.le_of_ble_eq_true rfl) (fun p e s m below meth c C0 => w_X5_atOnce C0 t hT x1 x2 M h)
abbrev rmX5_die : Room := { frames := 6, cells := 0, slots := 0, locals := 136 }
theorem kX5_die_f31 : (Cond.fieldLink RX5 31 "LadderOfBows" "now" "LLadderOfBows$Town;") ∈ wsX5_die := List.mem_of_getElem? (i := 1) rfl
theorem in_X5_die_X5 : ∀ w ∈ wsX50, w ∈ wsX5_die := by decide +kernel
theorem hd_X5_die : yX5_die.cls = RX5 ∧ yX5_die.cls ≠ "java/lang/invoke/MethodHandle" ∧ yX5_die.cls ≠ "java/lang/invoke/VarHandle" ∧ (parseMethodDescriptor yX5_die.desc).map (fun d => d.parameters.length) = some 1 := by decide +kernel
set_option maxRecDepth 100000 in
set_option maxHeartbeats 4000000 in
theorem w_X5_die {p : Program} {l : Launch} {e : Env} {s : State} {m : MethodId} {args : Array Value} {below : List Frame} {meth : Method} {c : Code} {D : va_G} {cI : ClassId} {ad : Nat → Nat} {L : List CDs} {r : Int32} {M' : Mem} (C0 : me_X p s m args meth c cX5_die 3 (some .int) wsX5_die RX5 D cI ad L) (t : Nat) (hT : is_X5 L t) (x1 : Int32) : ∀  (M : Mem), X5_die t x1 M = some (r, M') → me_W p l e rmX5_die s m args below meth c D cI ad L (some (.int r)) M' 3 0 [(0, .ref (ad t)), (1, .int x1)] [] M := by
  obtain ⟨hx, hb, hr, hml, hown, hts, hlk, hK, hI⟩ := id C0
  intro M h
  unfold X5_die at h
  intro H locs ls hP hS hl
  refine lv_aload_n hx hb dX5_die_0 rfl (lv_at hl 0 rfl) ?_
  refine lv_iload_n hx hb dX5_die_1 rfl (lv_at hl 1 rfl) ?_
  obtain ⟨v2, M2, h1, h⟩ := s_call_inv h
  refine me_callVi (As := [.int x1]) (rest := []) ⟨hx, hb, hml, hown, hts⟩ (c_X5_isPerson hT h1) (cwV 1 hts gX5_die_X5_isPerson rfl rfl rfl hd_X5_isPerson ⟨(Nat.le_of_ble_eq_true rfl), (Nat.le_of_ble_eq_true rfl)⟩) hK hI hP hS hT.1 rfl rfl hl.1 rfl (Nat.le_of_ble_eq_true rfl) dX5_die_2 ⟨Nat.zero_le _, Nat.zero_le _⟩ (fun H locs hP hS => ?_)
  refine lv_if_ne (tgt := 10) hx hb dX5_die_5 (by decide) (fun q => ?_) (fun q => ?_)
  · rw [if_pos q] at h
    refine lv_aload_n hx hb dX5_die_10 rfl (lv_at hl 0 rfl) ?_
    refine lv_iconst (v := (4 : Int32)) hx hb dX5_die_11 (by decide) ?_
    refine lv_iload_n hx hb dX5_die_12 rfl (lv_at hl 1 rfl) ?_
    refine lv_iload_n hx hb dX5_die_13 rfl (lv_at hl 1 rfl) ?_
    obtain ⟨v14, M14, h1, h⟩ := s_call_inv h
    refine me_callVi (As := [.int (4 : Int32), .int x1, .int x1]) (rest := []) ⟨hx, hb, hml, hown, hts⟩ (c_X5_act hT h1) (cwV 3 hts gX5_die_X5_act rfl rfl rfl hd_X5_act ⟨(Nat.le_of_ble_eq_true rfl), (Nat.le_of_ble_eq_true rfl)⟩) hK hI hP hS hT.1 rfl rfl hl.1 rfl (Nat.le_of_ble_eq_true rfl) dX5_die_14 ⟨Nat.zero_le _, Nat.zero_le _⟩ (fun H locs hP hS => ?_)
    refine lv_istore_n (lv' := [(2, .int v14), (0, .ref (ad t)), (1, .int x1)]) hx hb dX5_die_17 rfl hl (by decide) rfl (fun ls hl => ?_)
    refine lv_iload_n hx hb dX5_die_18 rfl (lv_at hl 0 rfl) ?_
    refine lv_if_ge (tgt := 26) hx hb dX5_die_19 (by decide) (fun q => ?_) (fun q => ?_)
    · rw [if_pos q] at h
      refine lv_aload_n hx hb dX5_die_26 rfl (lv_at hl 1 rfl) ?_
      refine me_getr (ci := 5) (C := RX5) (T := TX5) (N := 13) hx hb hts in_X5_die_X5 hown hK hP hT.1 rfl 3 (by decide) (hts _ kX5_die_f31) rfl dX5_die_27 ?_
      obtain ⟨v30, M30, h1, h⟩ := s_call_inv h
      refine me_callVi (As := []) (rest := []) ⟨hx, hb, hml, hown, hts⟩ (c_X4_aliveBits hT.2.2.2.2.1 h1) (cwV 0 hts gX5_die_X4_aliveBits rfl rfl rfl hd_X4_aliveBits ⟨(Nat.le_of_ble_eq_true rfl), (Nat.le_of_ble_eq_true rfl)⟩) hK hI hP hS hT.2.2.2.2.1.1 rfl rfl hl.1 rfl (Nat.le_of_ble_eq_true rfl) dX5_die_30 ⟨Nat.zero_le _, Nat.zero_le _⟩ (fun H locs hP hS => ?_)
      obtain ⟨v33, M33, h1, h⟩ := s_call_inv h
      refine me_callSi (As := [.int v30]) (rest := []) ⟨hx, hb, hml, hown, hts⟩ (c_J6_bitCount_0f7a4 h1) (va_cwS 1 hts gX5_die_J6_bitCount_0f7a4 rfl rfl rfl hd_J6_bitCount_0f7a4.2 ⟨(Nat.le_of_ble_eq_true rfl), (Nat.le_of_ble_eq_true rfl)⟩) hK hI hP hS rfl hl.1 rfl (Nat.le_of_ble_eq_true rfl) dX5_die_33 ⟨Nat.zero_le _, Nat.zero_le _⟩ (fun H locs hP hS => ?_)
      exact me_iret hx hb hr hlk hP hS h dX5_die_36
    · rw [if_neg q] at h
      refine lv_iload_n hx hb dX5_die_22 rfl (lv_at hl 0 rfl) ?_
      refine lv_goto (tgt := 36) hx hb dX5_die_23 (by decide) ?_
      exact me_iret hx hb hr hlk hP hS h dX5_die_36
  · rw [if_neg (not_not_intro q)] at h
    refine lv_iconst (v := (-1 : Int32)) hx hb dX5_die_8 (by decide) ?_
    exact me_iret hx hb hr hlk hP hS h dX5_die_9
theorem c_X5_die {l : Launch} {D : va_G} {cI : ClassId} {ad : Nat → Nat} {L : List CDs} {t : Nat} (hT : is_X5 L t) {x1 : Int32} {M M' : Mem} {r : Int32} (h : X5_die t x1 M = some (r, M')) : me_Met l yX5_die wsX5_die rmX5_die D cI ad L [.ref (ad t), .int x1] (some (.int r)) M M' :=
  me_ofW (by decide) rfl (Nat.le_of_ble_eq_true rfl) (fun p e s m below meth c C0 => w_X5_die C0 t hT x1 M h)
