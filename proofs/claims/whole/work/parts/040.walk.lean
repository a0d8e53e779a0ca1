/-! ===== the walks, by program (wip/gen/gen.py) ===== -/
abbrev rmJ6_bitCount_0f7a4 : Room := { frames := 0, cells := 0, slots := 0, locals := 0 }
theorem kJ6_bitCount_0f7a4_c265 : (Cond.constant RJ6 265 (1431655765)) ∈ wsJ6_bitCount_0f7a4 := List.mem_of_getElem? (i := 1) rfl
theorem kJ6_bitCount_0f7a4_c266 : (Cond.constant RJ6 266 (858993459)) ∈ wsJ6_bitCount_0f7a4 := List.mem_of_getElem? (i := 2) rfl
theorem kJ6_bitCount_0f7a4_c267 : (Cond.constant RJ6 267 (252645135)) ∈ wsJ6_bitCount_0f7a4 := List.mem_of_getElem? (i := 3) rfl
theorem hd_J6_bitCount_0f7a4 : yJ6_bitCount_0f7a4.cls = RJ6 ∧ yJ6_bitCount_0f7a4.cls ≠ "java/lang/invoke/MethodHandle" ∧ yJ6_bitCount_0f7a4.cls ≠ "java/lang/invoke/VarHandle" ∧ (parseMethodDescriptor yJ6_bitCount_0f7a4.desc).map (fun d => d.parameters.length) = some 1 := by decide +kernel
set_option maxRecDepth 100000 in
set_option maxHeartbeats 4000000 in
theorem w_J6_bitCount_0f7a4 {p : Program} {l : Launch} {e : Env} {s : State} {m : MethodId} {args : Array Value} {below : List Frame} {meth : Method} {c : Code} {D : va_G} {cI : ClassId} {ad : Nat → Nat} {L : List CDs} {r : Int32} {M' : Mem} (C0 : me_X p s m args meth c cJ6_bitCount_0f7a4 1 (some .int) wsJ6_bitCount_0f7a4 RJ6 D cI ad L)  (x0 : Int32) : ∀  (M : Mem), J6_bitCount_0f7a4 x0 M = some (r, M') → me_W p l e rmJ6_bitCount_0f7a4 s m args below meth c D cI ad L (some (.int r)) M' 1 0 [(0, .int x0)] [] M := by
  obtain ⟨hx, hb, hr, hml, hown, hts, hlk, hK, hI⟩ := id C0
  intro M h
  unfold J6_bitCount_0f7a4 at h
  intro H locs ls hP hS hl
  refine lv_iload_n hx hb dJ6_bitCount_0f7a4_0 rfl (lv_at hl 0 rfl) ?_
  refine lv_iload_n hx hb dJ6_bitCount_0f7a4_1 rfl (lv_at hl 0 rfl) ?_
  refine lv_iconst (v := (1 : Int32)) hx hb dJ6_bitCount_0f7a4_2 (by decide) ?_
  refine lv_iushr (v := ((x0).toUInt32 >>> (((1 : Int32)).toUInt32 &&& Int32.toUInt32 31)).toInt32) hx hb dJ6_bitCount_0f7a4_3 rfl ?_
  refine lv_ldcw (v := (1431655765 : Int32)) hx hb hown (hts _ kJ6_bitCount_0f7a4_c265) dJ6_bitCount_0f7a4_4 ?_
  refine lv_iand hx hb dJ6_bitCount_0f7a4_7 ?_
  refine lv_isub hx hb dJ6_bitCount_0f7a4_8 ?_
  refine lv_topi (fun x0_9 ev => ?_)
  replace h := s_let_inv h x0_9 ev
  refine lv_istore_n (lv' := [(0, .int x0_9)]) hx hb dJ6_bitCount_0f7a4_9 rfl hl (by decide) rfl (fun ls hl => ?_)
  refine lv_iload_n hx hb dJ6_bitCount_0f7a4_10 rfl (lv_at hl 0 rfl) ?_
  refine lv_ldcw (v := (858993459 : Int32)) hx hb hown (hts _ kJ6_bitCount_0f7a4_c266) dJ6_bitCount_0f7a4_11 ?_
  refine lv_iand hx hb dJ6_bitCount_0f7a4_14 ?_
  refine lv_iload_n hx hb dJ6_bitCount_0f7a4_15 rfl (lv_at hl 0 rfl) ?_
  refine lv_iconst (v := (2 : Int32)) hx hb dJ6_bitCount_0f7a4_16 (by decide) ?_
  refine lv_iushr (v := ((x0_9).toUInt32 >>> (((2 : Int32)).toUInt32 &&& Int32.toUInt32 31)).toInt32) hx hb dJ6_bitCount_0f7a4_17 rfl ?_
  refine lv_ldcw (v := (858993459 : Int32)) hx hb hown (hts _ kJ6_bitCount_0f7a4_c266) dJ6_bitCount_0f7a4_18 ?_
  refine lv_iand hx hb dJ6_bitCount_0f7a4_21 ?_
  refine lv_iadd hx hb dJ6_bitCount_0f7a4_22 ?_
  refine lv_topi (fun x0_23 ev => ?_)
  replace h := s_let_inv h x0_23 ev
  refine lv_istore_n (lv' := [(0, .int x0_23)]) hx hb dJ6_bitCount_0f7a4_23 rfl hl (by decide) rfl (fun ls hl => ?_)
  refine lv_iload_n hx hb dJ6_bitCount_0f7a4_24 rfl (lv_at hl 0 rfl) ?_
  refine lv_iload_n hx hb dJ6_bitCount_0f7a4_25 rfl (lv_at hl 0 rfl) ?_
  refine lv_iconst (v := (4 : Int32)) hx hb dJ6_bitCount_0f7a4_26 (by decide) ?_
  refine lv_iushr (v := ((x0_23).toUInt32 >>> (((4 : Int32)).toUInt32 &&& Int32.toUInt32 31)).toInt32) hx hb dJ6_bitCount_0f7a4_27 rfl ?_
  refine lv_iadd hx hb dJ6_bitCount_0f7a4_28 ?_
  refine lv_ldcw (v := (252645135 : Int32)) hx hb hown (hts _ kJ6_bitCount_0f7a4_c267) dJ6_bitCount_0f7a4_29 ?_
  refine lv_iand hx hb dJ6_bitCount_0f7a4_32 ?_
  refine lv_topi (fun x0_33 ev => ?_)
  replace h := s_let_inv h x0_33 ev
  refine lv_istore_n (lv' := [(0, .int x0_33)]) hx hb dJ6_bitCount_0f7a4_33 rfl hl (by decide) rfl (fun ls hl => ?_)
  refine lv_iload_n hx hb dJ6_bitCount_0f7a4_34 rfl (lv_at hl 0 rfl) ?_
  refine lv_iload_n hx hb dJ6_bitCount_0f7a4_35 rfl (lv_at hl 0 rfl) ?_
  refine lv_bipush (v := (8 : Int32)) hx hb dJ6_bitCount_0f7a4_36 (by decide) ?_
  refine lv_iushr (v := ((x0_33).toUInt32 >>> (((8 : Int32)).toUInt32 &&& Int32.toUInt32 31)).toInt32) hx hb dJ6_bitCount_0f7a4_38 rfl ?_
  refine lv_iadd hx hb dJ6_bitCount_0f7a4_39 ?_
  refine lv_topi (fun x0_40 ev => ?_)
  replace h := s_let_inv h x0_40 ev
  refine lv_istore_n (lv' := [(0, .int x0_40)]) hx hb dJ6_bitCount_0f7a4_40 rfl hl (by decide) rfl (fun ls hl => ?_)
  refine lv_iload_n hx hb dJ6_bitCount_0f7a4_41 rfl (lv_at hl 0 rfl) ?_
  refine lv_iload_n hx hb dJ6_bitCount_0f7a4_42 rfl (lv_at hl 0 rfl) ?_
  refine lv_bipush (v := (16 : Int32)) hx hb dJ6_bitCount_0f7a4_43 (by decide) ?_
  refine lv_iushr (v := ((x0_40).toUInt32 >>> (((16 : Int32)).toUInt32 &&& Int32.toUInt32 31)).toInt32) hx hb dJ6_bitCount_0f7a4_45 rfl ?_
  refine lv_iadd hx hb dJ6_bitCount_0f7a4_46 ?_
  refine lv_topi (fun x0_47 ev => ?_)
  replace h := s_let_inv h x0_47 ev
  refine lv_istore_n (lv' := [(0, .int x0_47)]) hx hb dJ6_bitCount_0f7a4_47 rfl hl (by decide) rfl (fun ls hl => ?_)
  refine lv_iload_n hx hb dJ6_bitCount_0f7a4_48 rfl (lv_at hl 0 rfl) ?_
  refine lv_bipush (v := (63 : Int32)) hx hb dJ6_bitCount_0f7a4_49 (by decide) ?_
  refine lv_iand hx hb dJ6_bitCount_0f7a4_51 ?_
  exact me_iret hx hb hr hlk hP hS h dJ6_bitCount_0f7a4_52
theorem c_J6_bitCount_0f7a4 {l : Launch} {D : va_G} {cI : ClassId} {ad : Nat → Nat} {L : List CDs}  {x0 : Int32} {M M' : Mem} {r : Int32} (h : J6_bitCount_0f7a4 x0 M = some (r, M')) : me_Met l yJ6_bitCount_0f7a4 wsJ6_bitCount_0f7a4 rmJ6_bitCount_0f7a4 D cI ad L [.int x0] (some (.int r)) M M' :=
  me_ofW (by decide) rfl (Nat.le_of_ble_eq_true rfl) (fun p e s m below meth c C0 => w_J6_bitCount_0f7a4 C0 x0 M h)
abbrev rmJ7_fill_53178 : Room := { frames := 0, cells := 0, slots := 0, locals := 0 }
theorem hd_J7_fill_53178 : yJ7_fill_53178.cls = RJ7 ∧ yJ7_fill_53178.cls ≠ "java/lang/invoke/MethodHandle" ∧ yJ7_fill_53178.cls ≠ "java/lang/invoke/VarHandle" ∧ (parseMethodDescriptor yJ7_fill_53178.desc).map (fun d => d.parameters.length) = some 2 := by decide +kernel
set_option maxRecDepth 100000 in
set_option maxHeartbeats 4000000 in
theorem w_J7_fill_53178_5 {p : Program} {l : Launch} {e : Env} {s : State} {m : MethodId} {args : Array Value} {below : List Frame} {meth : Method} {c : Code} {D : va_G} {cI : ClassId} {ad : Nat → Nat} {L : List CDs} {r : Unit} {M' : Mem} (C0 : me_X p s m args meth c cJ7_fill_53178 4 none wsJ7_fill_53178 RJ7 D cI ad L) (t0 : Nat) (n0 : Nat) (hT0 : L[t0]? = some (.inl n0)) (x1 : Int32) (x3 : Int32) : ∀ (n : Nat) (x2 : Int32) (M : Mem), J7_fill_53178_5 t0 n0 x1 x3 n x2 M = some (r, M') → me_W p l e rmJ7_fill_53178 s m args below meth c D cI ad L none M' 4 5 [(0, .ref (ad t0)), (1, .int x1), (2, .int x2), (3, .int x3)] [] M := by
  obtain ⟨hx, hb, hr, hml, hown, hts, hlk, hK, hI⟩ := id C0
  intro n
  induction n with
  | zero =>
    intro x2 M h
    rw [J7_fill_53178_5] at h
    cases h
  | succ n ih =>
    intro x2 M h
    rw [J7_fill_53178_5] at h
    intro H locs ls hP hS hl
    refine lv_iload_n hx hb dJ7_fill_53178_5 rfl (lv_at hl 2 rfl) ?_
    refine lv_iload_n hx hb dJ7_fill_53178_6 rfl (lv_at hl 3 rfl) ?_
    refine lv_icmp_ge (tgt := 20) hx hb dJ7_fill_53178_7 (by decide) (fun q => ?_) (fun q => ?_)
    · rw [if_pos q] at h
      exact me_vret hx hb hr hlk hP hS h dJ7_fill_53178_20
    · rw [if_neg q] at h
      refine lv_aload_n hx hb dJ7_fill_53178_10 rfl (lv_at hl 0 rfl) ?_
      refine lv_iload_n hx hb dJ7_fill_53178_11 rfl (lv_at hl 2 rfl) ?_
      refine lv_iload_n hx hb dJ7_fill_53178_12 rfl (lv_at hl 1 rfl) ?_
      obtain ⟨hi, h⟩ := s_ast_inv h
      refine me_ast hx hb hK hI hP hS hT0 hi dJ7_fill_53178_13 (fun H locs M13 eM hP hS => ?_)
      replace h := h M13 eM
      refine lv_iinc (k := 2) (v := (x2 + (1 : Int32))) (lv' := [(2, .int (x2 + (1 : Int32))), (0, .ref (ad t0)), (1, .int x1), (3, .int x3)]) hx hb dJ7_fill_53178_14 hl rfl rfl (by decide) rfl (fun ls hl => ?_)
      refine lv_goto (tgt := 5) hx hb dJ7_fill_53178_17 (by decide) ?_
      exact ih (x2 + (1 : Int32)) M13 h H locs ls hP hS (lv_sub hl [1, 2, 0, 3] rfl)
set_option maxRecDepth 100000 in
set_option maxHeartbeats 4000000 in
theorem w_J7_fill_53178 {p : Program} {l : Launch} {e : Env} {s : State} {m : MethodId} {args : Array Value} {below : List Frame} {meth : Method} {c : Code} {D : va_G} {cI : ClassId} {ad : Nat → Nat} {L : List CDs} {r : Unit} {M' : Mem} (C0 : me_X p s m args meth c cJ7_fill_53178 4 none wsJ7_fill_53178 RJ7 D cI ad L) (t0 : Nat) (n0 : Nat) (hT0 : L[t0]? = some (.inl n0)) (x1 : Int32) : ∀  (M : Mem), J7_fill_53178 t0 n0 x1 M = some (r, M') → me_W p l e rmJ7_fill_53178 s m args below meth c D cI ad L none M' 4 0 [(0, .ref (ad t0)), (1, .int x1)] [] M := by
  obtain ⟨hx, hb, hr, hml, hown, hts, hlk, hK, hI⟩ := id C0
  intro M h
  unfold J7_fill_53178 at h
  intro H locs ls hP hS hl
  refine lv_iconst (v := (0 : Int32)) hx hb dJ7_fill_53178_0 (by decide) ?_
  refine lv_istore_n (lv' := [(2, .int (0 : Int32)), (0, .ref (ad t0)), (1, .int x1)]) hx hb dJ7_fill_53178_1 rfl hl (by decide) rfl (fun ls hl => ?_)
  refine lv_aload_n hx hb dJ7_fill_53178_2 rfl (lv_at hl 1 rfl) ?_
  refine me_alen hx hb hK hP hT0 dJ7_fill_53178_3 ?_
  refine lv_topi (fun x3_4 ev => ?_)
  replace h := s_let_inv h x3_4 ev
  refine lv_istore_n (lv' := [(3, .int x3_4), (2, .int (0 : Int32)), (0, .ref (ad t0)), (1, .int x1)]) hx hb dJ7_fill_53178_4 rfl hl (by decide) rfl (fun ls hl => ?_)
  exact w_J7_fill_53178_5 C0 t0 n0 hT0 x1 x3_4 FU (0 : Int32) M h H locs ls hP hS (lv_sub hl [2, 3, 1, 0] rfl)
theorem c_J7_fill_53178 {l : Launch} {D : va_G} {cI : ClassId} {ad : Nat → Nat} {L : List CDs} {t0 : Nat} {n0 : Nat} (hT0 : L[t0]? = some (.inl n0)) {x1 : Int32} {M M' : Mem} {r : Unit} (h : J7_fill_53178 t0 n0 x1 M = some (r, M')) : me_Met l yJ7_fill_53178 wsJ7_fill_53178 rmJ7_fill_53178 D cI ad L [.ref (ad t0), .int x1] none M M' :=
  me_ofW (by decide) rfl (Nat.le_of_ble_eq_true rfl) (fun p e s m below meth c C0 => w_J7_fill_53178 C0 t0 n0 hT0 x1 M h)
abbrev rmX0_clear : Room := { frames := 0, cells := 0, slots := 0, locals := 0 }
theorem kX0_clear_f21 : (Cond.fieldLink RX0 21 "LadderOfBows$Acts" "size" "I") ∈ wsX0_clear := List.mem_of_getElem? (i := 1) rfl
theorem in_X0_clear_X0 : ∀ w ∈ wsX00, w ∈ wsX0_clear := by decide +kernel
theorem hd_X0_clear : yX0_clear.cls = RX0 ∧ yX0_clear.cls ≠ "java/lang/invoke/MethodHandle" ∧ yX0_clear.cls ≠ "java/lang/invoke/VarHandle" ∧ (parseMethodDescriptor yX0_clear.desc).map (fun d => d.parameters.length) = some 0 := by decide +kernel
set_option maxRecDepth 100000 in
set_option maxHeartbeats 4000000 in
theorem w_X0_clear {p : Program} {l : Launch} {e : Env} {s : State} {m : MethodId} {args : Array Value} {below : List Frame} {meth : Method} {c : Code} {D : va_G} {cI : ClassId} {ad : Nat → Nat} {L : List CDs} {r : Unit} {M' : Mem} (C0 : me_X p s m args meth c cX0_clear 1 none wsX0_clear RX0 D cI ad L) (t : Nat) (hT : is_X0 L t) : ∀  (M : Mem), X0_clear t M = some (r, M') → me_W p l e rmX0_clear s m args below meth c D cI ad L none M' 1 0 [(0, .ref (ad t))] [] M := by
  obtain ⟨hx, hb, hr, hml, hown, hts, hlk, hK, hI⟩ := id C0
  intro M h
  unfold X0_clear at h
  intro H locs ls hP hS hl
  refine lv_aload_n hx hb dX0_clear_0 rfl (lv_at hl 0 rfl) ?_
  refine lv_iconst (v := (0 : Int32)) hx hb dX0_clear_1 (by decide) ?_
  refine me_put (ci := 0) (C := RX0) (T := TX0) (N := 4) hx hb hts in_X0_clear_X0 tyX0_ok nmX0 hown hK hI hP hS hT.1 rfl 3 (by decide) (hts _ kX0_clear_f21) rfl rfl rfl dX0_clear_2 (fun H locs M2 eM hP hS => ?_)
  replace h := s_put_inv h M2 eM
  exact me_vret hx hb hr hlk hP hS h dX0_clear_5
theorem c_X0_clear {l : Launch} {D : va_G} {cI : ClassId} {ad : Nat → Nat} {L : List CDs} {t : Nat} (hT : is_X0 L t)  {M M' : Mem} {r : Unit} (h : X0_clear t M = some (r, M')) : me_Met l yX0_clear wsX0_clear rmX0_clear D cI ad L [.ref (ad t)] none M M' :=
  me_ofW (by decide) rfl (Nat.le_of_ble_eq_true rfl) (fun p e s m below meth c C0 => w_X0_clear C0 t hT M h)
abbrev rmX0_copyFrom : Room := { frames := 1, cells := 0, slots := 0, locals := 26 }
theorem kX0_copyFrom_f9 : (Cond.fieldLink RX0 9 "LadderOfBows$Acts" "kinds" "[I") ∈ wsX0_copyFrom := List.mem_of_getElem? (i := 1) rfl
theorem kX0_copyFrom_m25 : (Cond.methodLink RX0 25 arraycopyName) ∈ wsX0_copyFrom := List.mem_of_getElem? (i := 2) rfl
theorem kX0_copyFrom_natcpy : (Cond.native arraycopyName) ∈ wsX0_copyFrom := List.mem_of_getElem? (i := 3) rfl
theorem kX0_copyFrom_stcpy : (Cond.static arraycopyName) ∈ wsX0_copyFrom := List.mem_of_getElem? (i := 4) rfl
theorem kX0_copyFrom_iniSys : (Cond.initialized "java/lang/System") ∈ wsX0_copyFrom := List.mem_of_getElem? (i := 5) rfl
theorem kX0_copyFrom_f15 : (Cond.fieldLink RX0 15 "LadderOfBows$Acts" "firsts" "[I") ∈ wsX0_copyFrom := List.mem_of_getElem? (i := 6) rfl
theorem kX0_copyFrom_f18 : (Cond.fieldLink RX0 18 "LadderOfBows$Acts" "seconds" "[I") ∈ wsX0_copyFrom := List.mem_of_getElem? (i := 7) rfl
theorem kX0_copyFrom_f21 : (Cond.fieldLink RX0 21 "LadderOfBows$Acts" "size" "I") ∈ wsX0_copyFrom := List.mem_of_getElem? (i := 8) rfl
theorem in_X0_copyFrom_X0 : ∀ w ∈ wsX00, w ∈ wsX0_copyFrom := by decide +kernel
theorem hd_X0_copyFrom : yX0_copyFrom.cls = RX0 ∧ yX0_copyFrom.cls ≠ "java/lang/invoke/MethodHandle" ∧ yX0_copyFrom.cls ≠ "java/lang/invoke/VarHandle" ∧ (parseMethodDescriptor yX0_copyFrom.desc).map (fun d => d.parameters.length) = some 1 := by decide +kernel
set_option maxRecDepth 100000 in
set_option maxHeartbeats 4000000 in
theorem w_X0_copyFrom {p : Program} {l : Launch} {e : Env} {s : State} {m : MethodId} {args : Array Value} {below : List Frame} {meth : Method} {c : Code} {D : va_G} {cI : ClassId} {ad : Nat → Nat} {L : List CDs} {r : Unit} {M' : Mem} (C0 : me_X p s m args meth c cX0_copyFrom 2 none wsX0_copyFrom RX0 D cI ad L) (t : Nat) (hT : is_X0 L t) (t1 : Nat) (hT1 : is_X0 L t1) : ∀  (M : Mem), X0_copyFrom t t1 M = some (r, M') → me_W p l e rmX0_copyFrom s m args below meth c D cI ad L none M' 2 0 [(0, .ref (ad t)), (1, .ref (ad t1))] [] M := by
  obtain ⟨hx, hb, hr, hml, hown, hts, hlk, hK, hI⟩ := id C0
  intro M h
  unfold X0_copyFrom at h
  intro H locs ls hP hS hl
  refine lv_aload_n hx hb dX0_copyFrom_0 rfl (lv_at hl 1 rfl) ?_
  refine me_getr (ci := 0) (C := RX0) (T := TX0) (N := 4) hx hb hts in_X0_copyFrom_X0 hown hK hP hT1.1 rfl 0 (by decide) (hts _ kX0_copyFrom_f9) rfl dX0_copyFrom_1 ?_
  refine lv_iconst (v := (0 : Int32)) hx hb dX0_copyFrom_4 (by decide) ?_
  refine lv_aload_n hx hb dX0_copyFrom_5 rfl (lv_at hl 0 rfl) ?_
  refine me_getr (ci := 0) (C := RX0) (T := TX0) (N := 4) hx hb hts in_X0_copyFrom_X0 hown hK hP hT.1 rfl 0 (by decide) (hts _ kX0_copyFrom_f9) rfl dX0_copyFrom_6 ?_
  refine lv_iconst (v := (0 : Int32)) hx hb dX0_copyFrom_9 (by decide) ?_
  refine lv_bipush (v := (40 : Int32)) hx hb dX0_copyFrom_10 (by decide) ?_
  obtain ⟨hi, h⟩ := s_cpy_inv h
  refine me_cpy (rest := []) hx hb (hml.trans hl.1.symm) hown (hts _ kX0_copyFrom_m25) (hts _ kX0_copyFrom_natcpy) (hts _ kX0_copyFrom_stcpy) (hts _ kX0_copyFrom_iniSys) hK hI hP hS hT1.2.1 hT.2.1 hi (Nat.le_of_ble_eq_true rfl) (by decide) dX0_copyFrom_12 (fun H locs M12 eM hP hS => ?_)
  replace h := h M12 eM
  refine lv_aload_n hx hb dX0_copyFrom_15 rfl (lv_at hl 1 rfl) ?_
  refine me_getr (ci := 0) (C := RX0) (T := TX0) (N := 4) hx hb hts in_X0_copyFrom_X0 hown hK hP hT1.1 rfl 1 (by decide) (hts _ kX0_copyFrom_f15) rfl dX0_copyFrom_16 ?_
  refine lv_iconst (v := (0 : Int32)) hx hb dX0_copyFrom_19 (by decide) ?_
  refine lv_aload_n hx hb dX0_copyFrom_20 rfl (lv_at hl 0 rfl) ?_
  refine me_getr (ci := 0) (C := RX0) (T := TX0) (N := 4) hx hb hts in_X0_copyFrom_X0 hown hK hP hT.1 rfl 1 (by decide) (hts _ kX0_copyFrom_f15) rfl dX0_copyFrom_21 ?_
  refine lv_iconst (v := (0 : Int32)) hx hb dX0_copyFrom_24 (by decide) ?_
  refine lv_bipush (v := (40 : Int32)) hx hb dX0_copyFrom_25 (by decide) ?_
  obtain ⟨hi, h⟩ := s_cpy_inv h
  refine me_cpy (rest := []) hx hb (hml.trans hl.1.symm) hown (hts _ kX0_copyFrom_m25) (hts _ kX0_copyFrom_natcpy) (hts _ kX0_copyFrom_stcpy) (hts _ kX0_copyFrom_iniSys) hK hI hP hS hT1.2.2.1 hT.2.2.1 hi (Nat.le_of_ble_eq_true rfl) (by decide) dX0_copyFrom_27 (fun H locs M27 eM hP hS => ?_)
  replace h := h M27 eM
  refine lv_aload_n hx hb dX0_copyFrom_30 rfl (lv_at hl 1 rfl) ?_
  refine me_getr (ci := 0) (C := RX0) (T := TX0) (N := 4) hx hb hts in_X0_copyFrom_X0 hown hK hP hT1.1 rfl 2 (by decide) (hts _ kX0_copyFrom_f18) rfl dX0_copyFrom_31 ?_
  refine lv_iconst (v := (0 : Int32)) hx hb dX0_copyFrom_34 (by decide) ?_
  refine lv_aload_n hx hb dX0_copyFrom_35 rfl (lv_at hl 0 rfl) ?_
  refine me_getr (ci := 0) (C := RX0) (T := TX0) (N := 4) hx hb hts in_X0_copyFrom_X0 hown hK hP hT.1 rfl 2 (by decide) (hts _ kX0_copyFrom_f18) rfl dX0_copyFrom_36 ?_
  refine lv_iconst (v := (0 : Int32)) hx hb dX0_copyFrom_39 (by decide) ?_
  refine lv_bipush (v := (40 : Int32)) hx hb dX0_copyFrom_40 (by decide) ?_
  obtain ⟨hi, h⟩ := s_cpy_inv h
  refine me_cpy (rest := []) hx hb (hml.trans hl.1.symm) hown (hts _ kX0_copyFrom_m25) (hts _ kX0_copyFrom_natcpy) (hts _ kX0_copyFrom_stcpy) (hts _ kX0_copyFrom_iniSys) hK hI hP hS hT1.2.2.2 hT.2.2.2 hi (Nat.le_of_ble_eq_true rfl) (by decide) dX0_copyFrom_42 (fun H locs M42 eM hP hS => ?_)
  replace h := h M42 eM
  refine lv_aload_n hx hb dX0_copyFrom_45 rfl (lv_at hl 0 rfl) ?_
  refine lv_aload_n hx hb dX0_copyFrom_46 rfl (lv_at hl 1 rfl) ?_
  refine me_get (ci := 0) (C := RX0) (T := TX0) (N := 4) hx hb hts in_X0_copyFrom_X0 hown hK hP hT1.1 rfl 3 (by decide) (hts _ kX0_copyFrom_f21) rfl dX0_copyFrom_47 ?_
  refine me_put (ci := 0) (C := RX0) (T := TX0) (N := 4) hx hb hts in_X0_copyFrom_X0 tyX0_ok nmX0 hown hK hI hP hS hT.1 rfl 3 (by decide) (hts _ kX0_copyFrom_f21) rfl rfl rfl dX0_copyFrom_50 (fun H locs M50 eM hP hS => ?_)
  replace h := s_put_inv h M50 eM
  exact me_vret hx hb hr hlk hP hS h dX0_copyFrom_53
theorem c_X0_copyFrom {l : Launch} {D : va_G} {cI : ClassId} {ad : Nat → Nat} {L : List CDs} {t : Nat} (hT : is_X0 L t) {t1 : Nat} (hT1 : is_X0 L t1)  {M M' : Mem} {r : Unit} (h : X0_copyFrom t t1 M = some (r, M')) : me_Met l yX0_copyFrom wsX0_copyFrom rmX0_copyFrom D cI ad L [.ref (ad t), .ref (ad t1)] none M M' :=
  me_ofW (by decide) rfl (Nat.le_of_ble_eq_true rfl) (fun p e s m below meth c C0 => w_X0_copyFrom C0 t hT t1 hT1 M h)
abbrev rmX0_add : Room := { frames := 0, cells := 0, slots := 0, locals := 0 }
theorem kX0_add_f21 : (Cond.fieldLink RX0 21 "LadderOfBows$Acts" "size" "I") ∈ wsX0_add := List.mem_of_getElem? (i := 1) rfl
theorem kX0_add_f9 : (Cond.fieldLink RX0 9 "LadderOfBows$Acts" "kinds" "[I") ∈ wsX0_add := List.mem_of_getElem? (i := 2) rfl
theorem kX0_add_f15 : (Cond.fieldLink RX0 15 "LadderOfBows$Acts" "firsts" "[I") ∈ wsX0_add := List.mem_of_getElem? (i := 3) rfl
theorem kX0_add_f18 : (Cond.fieldLink RX0 18 "LadderOfBows$Acts" "seconds" "[I") ∈ wsX0_add := List.mem_of_getElem? (i := 4) rfl
theorem in_X0_add_X0 : ∀ w ∈ wsX00, w ∈ wsX0_add := by decide +kernel
theorem hd_X0_add : yX0_add.cls = RX0 ∧ yX0_add.cls ≠ "java/lang/invoke/MethodHandle" ∧ yX0_add.cls ≠ "java/lang/invoke/VarHandle" ∧ (parseMethodDescriptor yX0_add.desc).map (fun d => d.parameters.length) = some 3 := by decide +kernel
set_option maxRecDepth 100000 in
set_option maxHeartbeats 4000000 in
theorem w_X0_add {p : Program} {l : Launch} {e : Env} {s : State} {m : MethodId} {args : Array Value} {below : List Frame} {meth : Method} {c : Code} {D : va_G} {cI : ClassId} {ad : Nat → Nat} {L : List CDs} {r : Unit} {M' : Mem} (C0 : me_X p s m args meth c cX0_add 4 none wsX0_add RX0 D cI ad L) (t : Nat) (hT : is_X0 L t) (x1 : Int32) (x2 : Int32) (x3 : Int32) : ∀  (M : Mem), X0_add t x1 x2 x3 M = some (r, M') → me_W p l e rmX0_add s m args below meth c D cI ad L none M' 4 0 [(0, .ref (ad t)), (1, .int x1), (2, .int x2), (3, .int x3)] [] M := by
  obtain ⟨hx, hb, hr, hml, hown, hts, hlk, hK, hI⟩ := id C0
  intro M h
  unfold X0_add at h
  intro H locs ls hP hS hl
  refine lv_aload_n hx hb dX0_add_0 rfl (lv_at hl 0 rfl) ?_
  refine me_get (ci := 0) (C := RX0) (T := TX0) (N := 4) hx hb hts in_X0_add_X0 hown hK hP hT.1 rfl 3 (by decide) (hts _ kX0_add_f21) rfl dX0_add_1 ?_
  refine lv_bipush (v := (40 : Int32)) hx hb dX0_add_4 (by decide) ?_
  refine lv_icmp_ge (tgt := 49) hx hb dX0_add_6 (by decide) (fun q => ?_) (fun q => ?_)
  · rw [if_pos q] at h
    exact me_vret hx hb hr hlk hP hS h dX0_add_49
  · rw [if_neg q] at h
    refine lv_aload_n hx hb dX0_add_9 rfl (lv_at hl 0 rfl) ?_
    refine me_getr (ci := 0) (C := RX0) (T := TX0) (N := 4) hx hb hts in_X0_add_X0 hown hK hP hT.1 rfl 0 (by decide) (hts _ kX0_add_f9) rfl dX0_add_10 ?_
    refine lv_aload_n hx hb dX0_add_13 rfl (lv_at hl 0 rfl) ?_
    refine me_get (ci := 0) (C := RX0) (T := TX0) (N := 4) hx hb hts in_X0_add_X0 hown hK hP hT.1 rfl 3 (by decide) (hts _ kX0_add_f21) rfl dX0_add_14 ?_
    refine lv_iload_n hx hb dX0_add_17 rfl (lv_at hl 1 rfl) ?_
    obtain ⟨hi, h⟩ := s_ast_inv h
    refine me_ast hx hb hK hI hP hS hT.2.1 hi dX0_add_18 (fun H locs M18 eM hP hS => ?_)
    replace h := h M18 eM
    refine lv_aload_n hx hb dX0_add_19 rfl (lv_at hl 0 rfl) ?_
    refine me_getr (ci := 0) (C := RX0) (T := TX0) (N := 4) hx hb hts in_X0_add_X0 hown hK hP hT.1 rfl 1 (by decide) (hts _ kX0_add_f15) rfl dX0_add_20 ?_
    refine lv_aload_n hx hb dX0_add_23 rfl (lv_at hl 0 rfl) ?_
    refine me_get (ci := 0) (C := RX0) (T := TX0) (N := 4) hx hb hts in_X0_add_X0 hown hK hP hT.1 rfl 3 (by decide) (hts _ kX0_add_f21) rfl dX0_add_24 ?_
    refine lv_iload_n hx hb dX0_add_27 rfl (lv_at hl 2 rfl) ?_
    obtain ⟨hi, h⟩ := s_ast_inv h
    refine me_ast hx hb hK hI hP hS hT.2.2.1 hi dX0_add_28 (fun H locs M28 eM hP hS => ?_)
    replace h := h M28 eM
    refine lv_aload_n hx hb dX0_add_29 rfl (lv_at hl 0 rfl) ?_
    refine me_getr (ci := 0) (C := RX0) (T := TX0) (N := 4) hx hb hts in_X0_add_X0 hown hK hP hT.1 rfl 2 (by decide) (hts _ kX0_add_f18) rfl dX0_add_30 ?_
    refine lv_aload_n hx hb dX0_add_33 rfl (lv_at hl 0 rfl) ?_
    refine me_get (ci := 0) (C := RX0) (T := TX0) (N := 4) hx hb hts in_X0_add_X0 hown hK hP hT.1 rfl 3 (by decide) (hts _ kX0_add_f21) rfl dX0_add_34 ?_
    refine lv_iload_n hx hb dX0_add_37 rfl (lv_at hl 3 rfl) ?_
    obtain ⟨hi, h⟩ := s_ast_inv h
    refine me_ast hx hb hK hI hP hS hT.2.2.2 hi dX0_add_38 (fun H locs M38 eM hP hS => ?_)
    replace h := h M38 eM
    refine lv_aload_n hx hb dX0_add_39 rfl (lv_at hl 0 rfl) ?_
    refine lv_dup hx hb dX0_add_40 rfl ?_
    refine me_get (ci := 0) (C := RX0) (T := TX0) (N := 4) hx hb hts in_X0_add_X0 hown hK hP hT.1 rfl 3 (by decide) (hts _ kX0_add_f21) rfl dX0_add_41 ?_
    refine lv_iconst (v := (1 : Int32)) hx hb dX0_add_44 (by decide) ?_
    refine lv_iadd hx hb dX0_add_45 ?_
    refine me_put (ci := 0) (C := RX0) (T := TX0) (N := 4) hx hb hts in_X0_add_X0 tyX0_ok nmX0 hown hK hI hP hS hT.1 rfl 3 (by decide) (hts _ kX0_add_f21) rfl rfl rfl dX0_add_46 (fun H locs M46 eM hP hS => ?_)
    replace h := s_put_inv h M46 eM
    exact me_vret hx hb hr hlk hP hS h dX0_add_49
theorem c_X0_add {l : Launch} {D : va_G} {cI : ClassId} {ad : Nat → Nat} {L : List CDs} {t : Nat} (hT : is_X0 L t) {x1 : Int32} {x2 : Int32} {x3 : Int32} {M M' : Mem} {r : Unit} (h : X0_add t x1 x2 x3 M = some (r, M')) : me_Met l yX0_add wsX0_add rmX0_add D cI ad L [.ref (ad t), .int x1, .int x2, .int x3] none M M' :=
  me_ofW (by decide) rfl (Nat.le_of_ble_eq_true rfl) (fun p e s m below meth c C0 => w_X0_add C0 t hT x1 x2 x3 M h)
abbrev rmX0_dropLatest : Room := { frames := 0, cells := 0, slots := 0, locals := 0 }
theorem kX0_dropLatest_f21 : (Cond.fieldLink RX0 21 "LadderOfBows$Acts" "size" "I") ∈ wsX0_dropLatest := List.mem_of_getElem? (i := 1) rfl
theorem in_X0_dropLatest_X0 : ∀ w ∈ wsX00, w ∈ wsX0_dropLatest := by decide +kernel
theorem hd_X0_dropLatest : yX0_dropLatest.cls = RX0 ∧ yX0_dropLatest.cls ≠ "java/lang/invoke/MethodHandle" ∧ yX0_dropLatest.cls ≠ "java/lang/invoke/VarHandle" ∧ (parseMethodDescriptor yX0_dropLatest.desc).map (fun d => d.parameters.length) = some 0 := by decide +kernel
set_option maxRecDepth 100000 in
set_option maxHeartbeats 4000000 in
theorem w_X0_dropLatest {p : Program} {l : Launch} {e : Env} {s : State} {m : MethodId} {args : Array Value} {below : List Frame} {meth : Method} {c : Code} {D : va_G} {cI : ClassId} {ad : Nat → Nat} {L : List CDs} {r : Unit} {M' : Mem} (C0 : me_X p s m args meth c cX0_dropLatest 1 none wsX0_dropLatest RX0 D cI ad L) (t : Nat) (hT : is_X0 L t) : ∀  (M : Mem), X0_dropLatest t M = some (r, M') → me_W p l e rmX0_dropLatest s m args below meth c D cI ad L none M' 1 0 [(0, .ref (ad t))] [] M := by
  obtain ⟨hx, hb, hr, hml, hown, hts, hlk, hK, hI⟩ := id C0
  intro M h
  unfold X0_dropLatest at h
  intro H locs ls hP hS hl
  refine lv_aload_n hx hb dX0_dropLatest_0 rfl (lv_at hl 0 rfl) ?_
  refine me_get (ci := 0) (C := RX0) (T := TX0) (N := 4) hx hb hts in_X0_dropLatest_X0 hown hK hP hT.1 rfl 3 (by decide) (hts _ kX0_dropLatest_f21) rfl dX0_dropLatest_1 ?_
  refine lv_if_le (tgt := 17) hx hb dX0_dropLatest_4 (by decide) (fun q => ?_) (fun q => ?_)
  · rw [if_pos q] at h
    exact me_vret hx hb hr hlk hP hS h dX0_dropLatest_17
  · rw [if_neg q] at h
    refine lv_aload_n hx hb dX0_dropLatest_7 rfl (lv_at hl 0 rfl) ?_
    refine lv_dup hx hb dX0_dropLatest_8 rfl ?_
    refine me_get (ci := 0) (C := RX0) (T := TX0) (N := 4) hx hb hts in_X0_dropLatest_X0 hown hK hP hT.1 rfl 3 (by decide) (hts _ kX0_dropLatest_f21) rfl dX0_dropLatest_9 ?_
    refine lv_iconst (v := (1 : Int32)) hx hb dX0_dropLatest_12 (by decide) ?_
    refine lv_isub hx hb dX0_dropLatest_13 ?_
    refine me_put (ci := 0) (C := RX0) (T := TX0) (N := 4) hx hb hts in_X0_dropLatest_X0 tyX0_ok nmX0 hown hK hI hP hS hT.1 rfl 3 (by decide) (hts _ kX0_dropLatest_f21) rfl rfl rfl dX0_dropLatest_14 (fun H locs M14 eM hP hS => ?_)
    replace h := s_put_inv h M14 eM
    exact me_vret hx hb hr hlk hP hS h dX0_dropLatest_17
theorem c_X0_dropLatest {l : Launch} {D : va_G} {cI : ClassId} {ad : Nat → Nat} {L : List CDs} {t : Nat} (hT : is_X0 L t)  {M M' : Mem} {r : Unit} (h : X0_dropLatest t M = some (r, M')) : me_Met l yX0_dropLatest wsX0_dropLatest rmX0_dropLatest D cI ad L [.ref (ad t)] none M M' :=
  me_ofW (by decide) rfl (Nat.le_of_ble_eq_true rfl) (fun p e s m below meth c C0 => w_X0_dropLatest C0 t hT M h)
abbrev rmX0_size : Room := { frames := 0, cells := 0, slots := 0, locals := 0 }
theorem kX0_size_f21 : (Cond.fieldLink RX0 21 "LadderOfBows$Acts" "size" "I") ∈ wsX0_size := List.mem_of_getElem? (i := 1) rfl
theorem in_X0_size_X0 : ∀ w ∈ wsX00, w ∈ wsX0_size := by decide +kernel
theorem hd_X0_size : yX0_size.cls = RX0 ∧ yX0_size.cls ≠ "java/lang/invoke/MethodHandle" ∧ yX0_size.cls ≠ "java/lang/invoke/VarHandle" ∧ (parseMethodDescriptor yX0_size.desc).map (fun d => d.parameters.length) = some 0 := by decide +kernel
set_option maxRecDepth 100000 in
set_option maxHeartbeats 4000000 in
theorem w_X0_size {p : Program} {l : Launch} {e : Env} {s : State} {m : MethodId} {args : Array Value} {below : List Frame} {meth : Method} {c : Code} {D : va_G} {cI : ClassId} {ad : Nat → Nat} {L : List CDs} {r : Int32} {M' : Mem} (C0 : me_X p s m args meth c cX0_size 1 (some .int) wsX0_size RX0 D cI ad L) (t : Nat) (hT : is_X0 L t) : ∀  (M : Mem), X0_size t M = some (r, M') → me_W p l e rmX0_size s m args below meth c D cI ad L (some (.int r)) M' 1 0 [(0, .ref (ad t))] [] M := by
  obtain ⟨hx, hb, hr, hml, hown, hts, hlk, hK, hI⟩ := id C0
  intro M h
  unfold X0_size at h
  intro H locs ls hP hS hl
  refine lv_aload_n hx hb dX0_size_0 rfl (lv_at hl 0 rfl) ?_
  refine me_get (ci := 0) (C := RX0) (T := TX0) (N := 4) hx hb hts in_X0_size_X0 hown hK hP hT.1 rfl 3 (by decide) (hts _ kX0_size_f21) rfl dX0_size_1 ?_
  exact me_iret hx hb hr hlk hP hS h dX0_size_4
theorem c_X0_size {l : Launch} {D : va_G} {cI : ClassId} {ad : Nat → Nat} {L : List CDs} {t : Nat} (hT : is_X0 L t)  {M M' : Mem} {r : Int32} (h : X0_size t M = some (r, M')) : me_Met l yX0_size wsX0_size rmX0_size D cI ad L [.ref (ad t)] (some (.int r)) M M' :=
  me_ofW (by decide) rfl (Nat.le_of_ble_eq_true rfl) (fun p e s m below meth c C0 => w_X0_size C0 t hT M h)
abbrev rmX0_kindAt : Room := { frames := 0, cells := 0, slots := 0, locals := 0 }
theorem kX0_kindAt_f9 : (Cond.fieldLink RX0 9 "LadderOfBows$Acts" "kinds" "[I") ∈ wsX0_kindAt := List.mem_of_getElem? (i := 1) rfl
theorem in_X0_kindAt_X0 : ∀ w ∈ wsX00, w ∈ wsX0_kindAt := by decide +kernel
theorem hd_X0_kindAt : yX0_kindAt.cls = RX0 ∧ yX0_kindAt.cls ≠ "java/lang/invoke/MethodHandle" ∧ yX0_kindAt.cls ≠ "java/lang/invoke/VarHandle" ∧ (parseMethodDescriptor yX0_kindAt.desc).map (fun d => d.parameters.length) = some 1 := by decide +kernel
set_option maxRecDepth 100000 in
set_option maxHeartbeats 4000000 in
theorem w_X0_kindAt {p : Program} {l : Launch} {e : Env} {s : State} {m : MethodId} {args : Array Value} {below : List Frame} {meth : Method} {c : Code} {D : va_G} {cI : ClassId} {ad : Nat → Nat} {L : List CDs} {r : Int32} {M' : Mem} (C0 : me_X p s m args meth c cX0_kindAt 2 (some .int) wsX0_kindAt RX0 D cI ad L) (t : Nat) (hT : is_X0 L t) (x1 : Int32) : ∀  (M : Mem), X0_kindAt t x1 M = some (r, M') → me_W p l e rmX0_kindAt s m args below meth c D cI ad L (some (.int r)) M' 2 0 [(0, .ref (ad t)), (1, .int x1)] [] M := by
  obtain ⟨hx, hb, hr, hml, hown, hts, hlk, hK, hI⟩ := id C0
  intro M h
  unfold X0_kindAt at h
  intro H locs ls hP hS hl
  refine lv_aload_n hx hb dX0_kindAt_0 rfl (lv_at hl 0 rfl) ?_
  refine me_getr (ci := 0) (C := RX0) (T := TX0) (N := 4) hx hb hts in_X0_kindAt_X0 hown hK hP hT.1 rfl 0 (by decide) (hts _ kX0_kindAt_f9) rfl dX0_kindAt_1 ?_
  refine lv_iload_n hx hb dX0_kindAt_4 rfl (lv_at hl 1 rfl) ?_
  obtain ⟨hi, h⟩ := s_ald_inv h
  refine me_ald hx hb hK hP hT.2.1 hi dX0_kindAt_5 (fun v5 ev => ?_)
  replace h := h v5 ev
  exact me_iret hx hb hr hlk hP hS h dX0_kindAt_6
theorem c_X0_kindAt {l : Launch} {D : va_G} {cI : ClassId} {ad : Nat → Nat} {L : List CDs} {t : Nat} (hT : is_X0 L t) {x1 : Int32} {M M' : Mem} {r : Int32} (h : X0_kindAt t x1 M = some (r, M')) : me_Met l yX0_kindAt wsX0_kindAt rmX0_kindAt D cI ad L [.ref (ad t), .int x1] (some (.int r)) M M' :=
  me_ofW (by decide) rfl (Nat.le_of_ble_eq_true rfl) (fun p e s m below meth c C0 => w_X0_kindAt C0 t hT x1 M h)
abbrev rmX0_firstAt : Room := { frames := 0, cells := 0, slots := 0, locals := 0 }
theorem kX0_firstAt_f15 : (Cond.fieldLink RX0 15 "LadderOfBows$Acts" "firsts" "[I") ∈ wsX0_firstAt := List.mem_of_getElem? (i := 1) rfl
theorem in_X0_firstAt_X0 : ∀ w ∈ wsX00, w ∈ wsX0_firstAt := by decide +kernel
theorem hd_X0_firstAt : yX0_firstAt.cls = RX0 ∧ yX0_firstAt.cls ≠ "java/lang/invoke/MethodHandle" ∧ yX0_firstAt.cls ≠ "java/lang/invoke/VarHandle" ∧ (parseMethodDescriptor yX0_firstAt.desc).map (fun d => d.parameters.length) = some 1 := by decide +kernel
set_option maxRecDepth 100000 in
set_option maxHeartbeats 4000000 in
theorem w_X0_firstAt {p : Program} {l : Launch} {e : Env} {s : State} {m : MethodId} {args : Array Value} {below : List Frame} {meth : Method} {c : Code} {D : va_G} {cI : ClassId} {ad : Nat → Nat} {L : List CDs} {r : Int32} {M' : Mem} (C0 : me_X p s m args meth c cX0_firstAt 2 (some .int) wsX0_firstAt RX0 D cI ad L) (t : Nat) (hT : is_X0 L t) (x1 : Int32) : ∀  (M : Mem), X0_firstAt t x1 M = some (r, M') → me_W p l e rmX0_firstAt s m args below meth c D cI ad L (some (.int r)) M' 2 0 [(0, .ref (ad t)), (1, .int x1)] [] M := by
  obtain ⟨hx, hb, hr, hml, hown, hts, hlk, hK, hI⟩ := id C0
  intro M h
  unfold X0_firstAt at h
  intro H locs ls hP hS hl
  refine lv_aload_n hx hb dX0_firstAt_0 rfl (lv_at hl 0 rfl) ?_
  refine me_getr (ci := 0) (C := RX0) (T := TX0) (N := 4) hx hb hts in_X0_firstAt_X0 hown hK hP hT.1 rfl 1 (by decide) (hts _ kX0_firstAt_f15) rfl dX0_firstAt_1 ?_
  refine lv_iload_n hx hb dX0_firstAt_4 rfl (lv_at hl 1 rfl) ?_
  obtain ⟨hi, h⟩ := s_ald_inv h
  refine me_ald hx hb hK hP hT.2.2.1 hi dX0_firstAt_5 (fun v5 ev => ?_)
  replace h := h v5 ev
  exact me_iret hx hb hr hlk hP hS h dX0_firstAt_6
theorem c_X0_firstAt {l : Launch} {D : va_G} {cI : ClassId} {ad : Nat → Nat} {L : List CDs} {t : Nat} (hT : is_X0 L t) {x1 : Int32} {M M' : Mem} {r : Int32} (h : X0_firstAt t x1 M = some (r, M')) : me_Met l yX0_firstAt wsX0_firstAt rmX0_firstAt D cI ad L [.ref (ad t), .int x1] (some (.int r)) M M' :=
  me_ofW (by decide) rfl (Nat.le_of_ble_eq_true rfl) (fun p e s m below meth c C0 => w_X0_firstAt C0 t hT x1 M h)
abbrev rmX0_secondAt : Room := { frames := 0, cells := 0, slots := 0, locals := 0 }
theorem kX0_secondAt_f18 : (Cond.fieldLink RX0 18 "LadderOfBows$Acts" "seconds" "[I") ∈ wsX0_secondAt := List.mem_of_getElem? (i := 1) rfl
theorem in_X0_secondAt_X0 : ∀ w ∈ wsX00, w ∈ wsX0_secondAt := by decide +kernel
theorem hd_X0_secondAt : yX0_secondAt.cls = RX0 ∧ yX0_secondAt.cls ≠ "java/lang/invoke/MethodHandle" ∧ yX0_secondAt.cls ≠ "java/lang/invoke/VarHandle" ∧ (parseMethodDescriptor yX0_secondAt.desc).map (fun d => d.parameters.length) = some 1 := by decide +kernel
set_option maxRecDepth 100000 in
set_option maxHeartbeats 4000000 in
theorem w_X0_secondAt {p : Program} {l : Launch} {e : Env} {s : State} {m : MethodId} {args : Array Value} {below : List Frame} {meth : Method} {c : Code} {D : va_G} {cI : ClassId} {ad : Nat → Nat} {L : List CDs} {r : Int32} {M' : Mem} (C0 : me_X p s m args meth c cX0_secondAt 2 (some .int) wsX0_secondAt RX0 D cI ad L) (t : Nat) (hT : is_X0 L t) (x1 : Int32) : ∀  (M : Mem), X0_secondAt t x1 M = some (r, M') → me_W p l e rmX0_secondAt s m args below meth c D cI ad L (some (.int r)) M' 2 0 [(0, .ref (ad t)), (1, .int x1)] [] M := by
  obtain ⟨hx, hb, hr, hml, hown, hts, hlk, hK, hI⟩ := id C0
  intro M h
  unfold X0_secondAt at h
  intro H locs ls hP hS hl
  refine lv_aload_n hx hb dX0_secondAt_0 rfl (lv_at hl 0 rfl) ?_
  refine me_getr (ci := 0) (C := RX0) (T := TX0) (N := 4) hx hb hts in_X0_secondAt_X0 hown hK hP hT.1 rfl 2 (by decide) (hts _ kX0_secondAt_f18) rfl dX0_secondAt_1 ?_
  refine lv_iload_n hx hb dX0_secondAt_4 rfl (lv_at hl 1 rfl) ?_
  obtain ⟨hi, h⟩ := s_ald_inv h
  refine me_ald hx hb hK hP hT.2.2.2 hi dX0_secondAt_5 (fun v5 ev => ?_)
  replace h := h v5 ev
  exact me_iret hx hb hr hlk hP hS h dX0_secondAt_6
theorem c_X0_secondAt {l : Launch} {D : va_G} {cI : ClassId} {ad : Nat → Nat} {L : List CDs} {t : Nat} (hT : is_X0 L t) {x1 : Int32} {M M' : Mem} {r : Int32} (h : X0_secondAt t x1 M = some (r, M')) : me_Met l yX0_secondAt wsX0_secondAt rmX0_secondAt D cI ad L [.ref (ad t), .int x1] (some (.int r)) M M' :=
  me_ofW (by decide) rfl (Nat.le_of_ble_eq_true rfl) (fun p e s m below meth c C0 => w_X0_secondAt C0 t hT x1 M h)
abbrev rmX1_clear : Room := { frames := 0, cells := 0, slots := 0, locals := 0 }
theorem kX1_clear_f15 : (Cond.fieldLink RX1 15 "LadderOfBows$Letters" "length" "I") ∈ wsX1_clear := List.mem_of_getElem? (i := 1) rfl
theorem in_X1_clear_X1 : ∀ w ∈ wsX10, w ∈ wsX1_clear := by decide +kernel
theorem hd_X1_clear : yX1_clear.cls = RX1 ∧ yX1_clear.cls ≠ "java/lang/invoke/MethodHandle" ∧ yX1_clear.cls ≠ "java/lang/invoke/VarHandle" ∧ (parseMethodDescriptor yX1_clear.desc).map (fun d => d.parameters.length) = some 0 := by decide +kernel
set_option maxRecDepth 100000 in
set_option maxHeartbeats 4000000 in
theorem w_X1_clear {p : Program} {l : Launch} {e : Env} {s : State} {m : MethodId} {args : Array Value} {below : List Frame} {meth : Method} {c : Code} {D : va_G} {cI : ClassId} {ad : Nat → Nat} {L : List CDs} {r : Unit} {M' : Mem} (C0 : me_X p s m args meth c cX1_clear 1 none wsX1_clear RX1 D cI ad L) (t : Nat) (hT : is_X1 L t) : ∀  (M : Mem), X1_clear t M = some (r, M') → me_W p l e rmX1_clear s m args below meth c D cI ad L none M' 1 0 [(0, .ref (ad t))] [] M := by
  obtain ⟨hx, hb, hr, hml, hown, hts, hlk, hK, hI⟩ := id C0
  intro M h
  unfold X1_clear at h
  intro H locs ls hP hS hl
  refine lv_aload_n hx hb dX1_clear_0 rfl (lv_at hl 0 rfl) ?_
  refine lv_iconst (v := (0 : Int32)) hx hb dX1_clear_1 (by decide) ?_
  refine me_put (ci := 1) (C := RX1) (T := TX1) (N := 2) hx hb hts in_X1_clear_X1 tyX1_ok nmX1 hown hK hI hP hS hT.1 rfl 1 (by decide) (hts _ kX1_clear_f15) rfl rfl rfl dX1_clear_2 (fun H locs M2 eM hP hS => ?_)
  replace h := s_put_inv h M2 eM
  exact me_vret hx hb hr hlk hP hS h dX1_clear_5
theorem c_X1_clear {l : Launch} {D : va_G} {cI : ClassId} {ad : Nat → Nat} {L : List CDs} {t : Nat} (hT : is_X1 L t)  {M M' : Mem} {r : Unit} (h : X1_clear t M = some (r, M')) : me_Met l yX1_clear wsX1_clear rmX1_clear D cI ad L [.ref (ad t)] none M M' :=
  me_ofW (by decide) rfl (Nat.le_of_ble_eq_true rfl) (fun p e s m below meth c C0 => w_X1_clear C0 t hT M h)
abbrev rmX1_add : Room := { frames := 0, cells := 0, slots := 0, locals := 0 }
theorem kX1_add_f15 : (Cond.fieldLink RX1 15 "LadderOfBows$Letters" "length" "I") ∈ wsX1_add := List.mem_of_getElem? (i := 1) rfl
theorem kX1_add_f9 : (Cond.fieldLink RX1 9 "LadderOfBows$Letters" "letters" "[I") ∈ wsX1_add := List.mem_of_getElem? (i := 2) rfl
theorem in_X1_add_X1 : ∀ w ∈ wsX10, w ∈ wsX1_add := by decide +kernel
theorem hd_X1_add : yX1_add.cls = RX1 ∧ yX1_add.cls ≠ "java/lang/invoke/MethodHandle" ∧ yX1_add.cls ≠ "java/lang/invoke/VarHandle" ∧ (parseMethodDescriptor yX1_add.desc).map (fun d => d.parameters.length) = some 1 := by decide +kernel
set_option maxRecDepth 100000 in
set_option maxHeartbeats 4000000 in
theorem w_X1_add {p : Program} {l : Launch} {e : Env} {s : State} {m : MethodId} {args : Array Value} {below : List Frame} {meth : Method} {c : Code} {D : va_G} {cI : ClassId} {ad : Nat → Nat} {L : List CDs} {r : Unit} {M' : Mem} (C0 : me_X p s m args meth c cX1_add 2 none wsX1_add RX1 D cI ad L) (t : Nat) (hT : is_X1 L t) (x1 : Int32) : ∀  (M : Mem), X1_add t x1 M = some (r, M') → me_W p l e rmX1_add s m args below meth c D cI ad L none M' 2 0 [(0, .ref (ad t)), (1, .int x1)] [] M := by
  obtain ⟨hx, hb, hr, hml, hown, hts, hlk, hK, hI⟩ := id C0
  intro M h
  unfold X1_add at h
  intro H locs ls hP hS hl
  refine lv_aload_n hx hb dX1_add_0 rfl (lv_at hl 0 rfl) ?_
  refine me_get (ci := 1) (C := RX1) (T := TX1) (N := 2) hx hb hts in_X1_add_X1 hown hK hP hT.1 rfl 1 (by decide) (hts _ kX1_add_f15) rfl dX1_add_1 ?_
  refine lv_sipush (v := (200 : Int32)) hx hb dX1_add_4 (by decide) ?_
  refine lv_icmp_ge (tgt := 30) hx hb dX1_add_7 (by decide) (fun q => ?_) (fun q => ?_)
  · rw [if_pos q] at h
    exact me_vret hx hb hr hlk hP hS h dX1_add_30
  · rw [if_neg q] at h
    refine lv_aload_n hx hb dX1_add_10 rfl (lv_at hl 0 rfl) ?_
    refine me_getr (ci := 1) (C := RX1) (T := TX1) (N := 2) hx hb hts in_X1_add_X1 hown hK hP hT.1 rfl 0 (by decide) (hts _ kX1_add_f9) rfl dX1_add_11 ?_
    refine lv_aload_n hx hb dX1_add_14 rfl (lv_at hl 0 rfl) ?_
    refine me_get (ci := 1) (C := RX1) (T := TX1) (N := 2) hx hb hts in_X1_add_X1 hown hK hP hT.1 rfl 1 (by decide) (hts _ kX1_add_f15) rfl dX1_add_15 ?_
    refine lv_iload_n hx hb dX1_add_18 rfl (lv_at hl 1 rfl) ?_
    obtain ⟨hi, h⟩ := s_ast_inv h
    refine me_ast hx hb hK hI hP hS hT.2 hi dX1_add_19 (fun H locs M19 eM hP hS => ?_)
    replace h := h M19 eM
    refine lv_aload_n hx hb dX1_add_20 rfl (lv_at hl 0 rfl) ?_
    refine lv_dup hx hb dX1_add_21 rfl ?_
    refine me_get (ci := 1) (C := RX1) (T := TX1) (N := 2) hx hb hts in_X1_add_X1 hown hK hP hT.1 rfl 1 (by decide) (hts _ kX1_add_f15) rfl dX1_add_22 ?_
    refine lv_iconst (v := (1 : Int32)) hx hb dX1_add_25 (by decide) ?_
    refine lv_iadd hx hb dX1_add_26 ?_
    refine me_put (ci := 1) (C := RX1) (T := TX1) (N := 2) hx hb hts in_X1_add_X1 tyX1_ok nmX1 hown hK hI hP hS hT.1 rfl 1 (by decide) (hts _ kX1_add_f15) rfl rfl rfl dX1_add_27 (fun H locs M27 eM hP hS => ?_)
    replace h := s_put_inv h M27 eM
    exact me_vret hx hb hr hlk hP hS h dX1_add_30
theorem c_X1_add {l : Launch} {D : va_G} {cI : ClassId} {ad : Nat → Nat} {L : List CDs} {t : Nat} (hT : is_X1 L t) {x1 : Int32} {M M' : Mem} {r : Unit} (h : X1_add t x1 M = some (r, M')) : me_Met l yX1_add wsX1_add rmX1_add D cI ad L [.ref (ad t), .int x1] none M M' :=
  me_ofW (by decide) rfl (Nat.le_of_ble_eq_true rfl) (fun p e s m below meth c C0 => w_X1_add C0 t hT x1 M h)
abbrev rmX1_length : Room := { frames := 0, cells := 0, slots := 0, locals := 0 }
theorem kX1_length_f15 : (Cond.fieldLink RX1 15 "LadderOfBows$Letters" "length" "I") ∈ wsX1_length := List.mem_of_getElem? (i := 1) rfl
theorem in_X1_length_X1 : ∀ w ∈ wsX10, w ∈ wsX1_length := by decide +kernel
theorem hd_X1_length : yX1_length.cls = RX1 ∧ yX1_length.cls ≠ "java/lang/invoke/MethodHandle" ∧ yX1_length.cls ≠ "java/lang/invoke/VarHandle" ∧ (parseMethodDescriptor yX1_length.desc).map (fun d => d.parameters.length) = some 0 := by decide +kernel
set_option maxRecDepth 100000 in
set_option maxHeartbeats 4000000 in
theorem w_X1_length {p : Program} {l : Launch} {e : Env} {s : State} {m : MethodId} {args : Array Value} {below : List Frame} {meth : Method} {c : Code} {D : va_G} {cI : ClassId} {ad : Nat → Nat} {L : List CDs} {r : Int32} {M' : Mem} (C0 : me_X p s m args meth c cX1_length 1 (some .int) wsX1_length RX1 D cI ad L) (t : Nat) (hT : is_X1 L t) : ∀  (M : Mem), X1_length t M = some (r, M') → me_W p l e rmX1_length s m args below meth c D cI ad L (some (.int r)) M' 1 0 [(0, .ref (ad t))] [] M := by
  obtain ⟨hx, hb, hr, hml, hown, hts, hlk, hK, hI⟩ := id C0
  intro M h
  unfold X1_length at h
  intro H locs ls hP hS hl
  refine lv_aload_n hx hb dX1_length_0 rfl (lv_at hl 0 rfl) ?_
  refine me_get (ci := 1) (C := RX1) (T := TX1) (N := 2) hx hb hts in_X1_length_X1 hown hK hP hT.1 rfl 1 (by decide) (hts _ kX1_length_f15) rfl dX1_length_1 ?_
  exact me_iret hx hb hr hlk hP hS h dX1_length_4
theorem c_X1_length {l : Launch} {D : va_G} {cI : ClassId} {ad : Nat → Nat} {L : List CDs} {t : Nat} (hT : is_X1 L t)  {M M' : Mem} {r : Int32} (h : X1_length t M = some (r, M')) : me_Met l yX1_length wsX1_length rmX1_length D cI ad L [.ref (ad t)] (some (.int r)) M M' :=
  me_ofW (by decide) rfl (Nat.le_of_ble_eq_true rfl) (fun p e s m below meth c C0 => w_X1_length C0 t hT M h)
abbrev rmX1_at : Room := { frames := 0, cells := 0, slots := 0, locals := 0 }
theorem kX1_at_f15 : (Cond.fieldLink RX1 15 "LadderOfBows$Letters" "length" "I") ∈ wsX1_at := List.mem_of_getElem? (i := 1) rfl
theorem kX1_at_f9 : (Cond.fieldLink RX1 9 "LadderOfBows$Letters" "letters" "[I") ∈ wsX1_at := List.mem_of_getElem? (i := 2) rfl
theorem in_X1_at_X1 : ∀ w ∈ wsX10, w ∈ wsX1_at := by decide +kernel
theorem hd_X1_at : yX1_at.cls = RX1 ∧ yX1_at.cls ≠ "java/lang/invoke/MethodHandle" ∧ yX1_at.cls ≠ "java/lang/invoke/VarHandle" ∧ (parseMethodDescriptor yX1_at.desc).map (fun d => d.parameters.length) = some 1 := by decide +kernel
set_option maxRecDepth 100000 in
set_option maxHeartbeats 4000000 in
theorem w_X1_at {p : Program} {l : Launch} {e : Env} {s : State} {m : MethodId} {args : Array Value} {below : List Frame} {meth : Method} {c : Code} {D : va_G} {cI : ClassId} {ad : Nat → Nat} {L : List CDs} {r : Int32} {M' : Mem} (C0 : me_X p s m args meth c cX1_at 2 (some .int) wsX1_at RX1 D cI ad L) (t : Nat) (hT : is_X1 L t) (x1 : Int32) : ∀  (M : Mem), X1_at t x1 M = some (r, M') → me_W p l e rmX1_at s m args below meth c D cI ad L (some (.int r)) M' 2 0 [(0, .ref (ad t)), (1, .int x1)] [] M := by
  obtain ⟨hx, hb, hr, hml, hown, hts, hlk, hK, hI⟩ := id C0
  intro M h
  unfold X1_at at h
  intro H locs ls hP hS hl
  refine lv_iload_n hx hb dX1_at_0 rfl (lv_at hl 1 rfl) ?_
  refine lv_if_lt (tgt := 21) hx hb dX1_at_1 (by decide) (fun q => ?_) (fun q => ?_)
  · rw [if_pos q] at h
    refine lv_iconst (v := (0 : Int32)) hx hb dX1_at_21 (by decide) ?_
    exact me_iret hx hb hr hlk hP hS h dX1_at_22
  · rw [if_neg q] at h
    refine lv_iload_n hx hb dX1_at_4 rfl (lv_at hl 1 rfl) ?_
    refine lv_aload_n hx hb dX1_at_5 rfl (lv_at hl 0 rfl) ?_
    refine me_get (ci := 1) (C := RX1) (T := TX1) (N := 2) hx hb hts in_X1_at_X1 hown hK hP hT.1 rfl 1 (by decide) (hts _ kX1_at_f15) rfl dX1_at_6 ?_
    refine lv_icmp_ge (tgt := 21) hx hb dX1_at_9 (by decide) (fun q => ?_) (fun q => ?_)
    · rw [if_pos q] at h
      refine lv_iconst (v := (0 : Int32)) hx hb dX1_at_21 (by decide) ?_
      exact me_iret hx hb hr hlk hP hS h dX1_at_22
    · rw [if_neg q] at h
      refine lv_aload_n hx hb dX1_at_12 rfl (lv_at hl 0 rfl) ?_
      refine me_getr (ci := 1) (C := RX1) (T := TX1) (N := 2) hx hb hts in_X1_at_X1 hown hK hP hT.1 rfl 0 (by decide) (hts _ kX1_at_f9) rfl dX1_at_13 ?_
      refine lv_iload_n hx hb dX1_at_16 rfl (lv_at hl 1 rfl) ?_
      obtain ⟨hi, h⟩ := s_ald_inv h
      refine me_ald hx hb hK hP hT.2 hi dX1_at_17 (fun v17 ev => ?_)
      replace h := h v17 ev
      refine lv_goto (tgt := 22) hx hb dX1_at_18 (by decide) ?_
      exact me_iret hx hb hr hlk hP hS h dX1_at_22
theorem c_X1_at {l : Launch} {D : va_G} {cI : ClassId} {ad : Nat → Nat} {L : List CDs} {t : Nat} (hT : is_X1 L t) {x1 : Int32} {M M' : Mem} {r : Int32} (h : X1_at t x1 M = some (r, M')) : me_Met l yX1_at wsX1_at rmX1_at D cI ad L [.ref (ad t), .int x1] (some (.int r)) M M' :=
  me_ofW (by decide) rfl (Nat.le_of_ble_eq_true rfl) (fun p e s m below meth c C0 => w_X1_at C0 t hT x1 M h)
abbrev rmX1_figureAt : Room := { frames := 1, cells := 0, slots := 0, locals := 21 }
theorem hd_X1_figureAt : yX1_figureAt.cls = RX1 ∧ yX1_figureAt.cls ≠ "java/lang/invoke/MethodHandle" ∧ yX1_figureAt.cls ≠ "java/lang/invoke/VarHandle" ∧ (parseMethodDescriptor yX1_figureAt.desc).map (fun d => d.parameters.length) = some 1 := by decide +kernel
set_option maxRecDepth 100000 in
set_option maxHeartbeats 4000000 in
theorem w_X1_figureAt {p : Program} {l : Launch} {e : Env} {s : State} {m : MethodId} {args : Array Value} {below : List Frame} {meth : Method} {c : Code} {D : va_G} {cI : ClassId} {ad : Nat → Nat} {L : List CDs} {r : Int32} {M' : Mem} (C0 : me_X p s m args meth c cX1_figureAt 3 (some .int) wsX1_figureAt RX1 D cI ad L) (t : Nat) (hT : is_X1 L t) (x1 : Int32) : ∀  (M : Mem), X1_figureAt t x1 M = some (r, M') → me_W p l e rmX1_figureAt s m args below meth c D cI ad L (some (.int r)) M' 3 0 [(0, .ref (ad t)), (1, .int x1)] [] M := by
  obtain ⟨hx, hb, hr, hml, hown, hts, hlk, hK, hI⟩ := id C0
  intro M h
  unfold X1_figureAt at h
  intro H locs ls hP hS hl
  refine lv_aload_n hx hb dX1_figureAt_0 rfl (lv_at hl 0 rfl) ?_
  refine lv_iload_n hx hb dX1_figureAt_1 rfl (lv_at hl 1 rfl) ?_
  obtain ⟨v2, M2, h1, h⟩ := s_call_inv h
  refine me_callVi (As := [.int x1]) (rest := []) ⟨hx, hb, hml, hown, hts⟩ (c_X1_at hT h1) (cwV 1 hts gX1_figureAt_X1_at rfl rfl rfl hd_X1_at ⟨(Nat.le_of_ble_eq_true rfl), (Nat.le_of_ble_eq_true rfl)⟩) hK hI hP hS hT.1 rfl rfl hl.1 rfl (Nat.le_of_ble_eq_true rfl) dX1_figureAt_2 ⟨Nat.zero_le _, Nat.zero_le _⟩ (fun H locs hP hS => ?_)
  refine lv_istore_n (lv' := [(2, .int v2), (0, .ref (ad t)), (1, .int x1)]) hx hb dX1_figureAt_5 rfl hl (by decide) rfl (fun ls hl => ?_)
  refine lv_iload_n hx hb dX1_figureAt_6 rfl (lv_at hl 0 rfl) ?_
  refine lv_bipush (v := (48 : Int32)) hx hb dX1_figureAt_7 (by decide) ?_
  refine lv_icmp_lt (tgt := 25) hx hb dX1_figureAt_9 (by decide) (fun q => ?_) (fun q => ?_)
  · rw [if_pos q] at h
    refine lv_iconst (v := (-1 : Int32)) hx hb dX1_figureAt_25 (by decide) ?_
    exact me_iret hx hb hr hlk hP hS h dX1_figureAt_26
  · rw [if_neg q] at h
    refine lv_iload_n hx hb dX1_figureAt_12 rfl (lv_at hl 0 rfl) ?_
    refine lv_bipush (v := (57 : Int32)) hx hb dX1_figureAt_13 (by decide) ?_
    refine lv_icmp_gt (tgt := 25) hx hb dX1_figureAt_15 (by decide) (fun q => ?_) (fun q => ?_)
    · rw [if_pos q] at h
      refine lv_iconst (v := (-1 : Int32)) hx hb dX1_figureAt_25 (by decide) ?_
      exact me_iret hx hb hr hlk hP hS h dX1_figureAt_26
    · rw [if_neg q] at h
      refine lv_iload_n hx hb dX1_figureAt_18 rfl (lv_at hl 0 rfl) ?_
      refine lv_bipush (v := (48 : Int32)) hx hb dX1_figureAt_19 (by decide) ?_
      refine lv_isub hx hb dX1_figureAt_21 ?_
      refine lv_goto (tgt := 26) hx hb dX1_figureAt_22 (by decide) ?_
      exact me_iret hx hb hr hlk hP hS h dX1_figureAt_26
theorem c_X1_figureAt {l : Launch} {D : va_G} {cI : ClassId} {ad : Nat → Nat} {L : List CDs} {t : Nat} (hT : is_X1 L t) {x1 : Int32} {M M' : Mem} {r : Int32} (h : X1_figureAt t x1 M = some (r, M')) : me_Met l yX1_figureAt wsX1_figureAt rmX1_figureAt D cI ad L [.ref (ad t), .int x1] (some (.int r)) M M' :=
  me_ofW (by decide) rfl (Nat.le_of_ble_eq_true rfl) (fun p e s m below meth c C0 => w_X1_figureAt C0 t hT x1 M h)
abbrev rmX2_clear : Room := { frames := 1, cells := 0, slots := 0, locals := 23 }
theorem kX2_clear_m18 : (Cond.methodLink RX2 18 Lib.Math.min.name) ∈ wsX2_clear := List.mem_of_getElem? (i := 1) rfl
theorem kX2_clear_st_min : (Cond.static Lib.Math.min.name) ∈ wsX2_clear := List.mem_of_getElem? (i := 2) rfl
theorem kX2_clear_iniMath : (Cond.initialized "java/lang/Math") ∈ wsX2_clear := List.mem_of_getElem? (i := 3) rfl
theorem kX2_clear_cd_min : (Cond.code Lib.Math.min.name Lib.Math.min.code 2 (some .int)) ∈ wsX2_clear := List.mem_of_getElem? (i := 4) rfl
theorem kX2_clear_f24 : (Cond.fieldLink RX2 24 "LadderOfBows$Links" "persons" "I") ∈ wsX2_clear := List.mem_of_getElem? (i := 5) rfl
theorem kX2_clear_f9 : (Cond.fieldLink RX2 9 "LadderOfBows$Links" "rows" "[I") ∈ wsX2_clear := List.mem_of_getElem? (i := 6) rfl
theorem in_X2_clear_X2 : ∀ w ∈ wsX20, w ∈ wsX2_clear := by decide +kernel
theorem hd_X2_clear : yX2_clear.cls = RX2 ∧ yX2_clear.cls ≠ "java/lang/invoke/MethodHandle" ∧ yX2_clear.cls ≠ "java/lang/invoke/VarHandle" ∧ (parseMethodDescriptor yX2_clear.desc).map (fun d => d.parameters.length) = some 1 := by decide +kernel
set_option maxRecDepth 100000 in
set_option maxHeartbeats 4000000 in
theorem w_X2_clear {p : Program} {l : Launch} {e : Env} {s : State} {m : MethodId} {args : Array Value} {below : List Frame} {meth : Method} {c : Code} {D : va_G} {cI : ClassId} {ad : Nat → Nat} {L : List CDs} {r : Unit} {M' : Mem} (C0 : me_X p s m args meth c cX2_clear 2 none wsX2_clear RX2 D cI ad L) (t : Nat) (hT : is_X2 L t) (x1 : Int32) : ∀  (M : Mem), X2_clear t x1 M = some (r, M') → me_W p l e rmX2_clear s m args below meth c D cI ad L none M' 2 0 [(0, .ref (ad t)), (1, .int x1)] [] M := by
  obtain ⟨hx, hb, hr, hml, hown, hts, hlk, hK, hI⟩ := id C0
  intro M h
  unfold X2_clear at h
  intro H locs ls hP hS hl
  refine lv_aload_n hx hb dX2_clear_0 rfl (lv_at hl 0 rfl) ?_
  refine lv_iload_n hx hb dX2_clear_1 rfl (lv_at hl 1 rfl) ?_
  refine lv_bipush (v := (7 : Int32)) hx hb dX2_clear_2 (by decide) ?_
  refine va_mmin (rest := [.ref (ad t)]) hx hb (hml.trans hl.1.symm) hown (hts _ kX2_clear_m18) (hts _ kX2_clear_st_min) (hts _ kX2_clear_iniMath) (hts _ kX2_clear_cd_min) (Nat.le_of_ble_eq_true rfl) (Nat.le_of_ble_eq_true rfl) (Nat.zero_le _) (Nat.zero_le _) dX2_clear_4 ?_
  refine me_put (ci := 2) (C := RX2) (T := TX2) (N := 3) hx hb hts in_X2_clear_X2 tyX2_ok nmX2 hown hK hI hP hS hT.1 rfl 2 (by decide) (hts _ kX2_clear_f24) rfl rfl rfl dX2_clear_7 (fun H locs M7 eM hP hS => ?_)
  replace h := s_put_inv h M7 eM
  refine lv_aload_n hx hb dX2_clear_10 rfl (lv_at hl 0 rfl) ?_
  refine me_getr (ci := 2) (C := RX2) (T := TX2) (N := 3) hx hb hts in_X2_clear_X2 hown hK hP hT.1 rfl 0 (by decide) (hts _ kX2_clear_f9) rfl dX2_clear_11 ?_
  refine lv_iconst (v := (0 : Int32)) hx hb dX2_clear_14 (by decide) ?_
  obtain ⟨u15, M15, h1, h⟩ := s_call_inv h
  refine me_callSv (As := [.ref (ad (t + 1)), .int (0 : Int32)]) (rest := []) ⟨hx, hb, hml, hown, hts⟩ (c_J7_fill_53178 hT.2.1 h1) (va_cwS 2 hts gX2_clear_J7_fill_53178 rfl rfl rfl hd_J7_fill_53178.2 ⟨(Nat.le_of_ble_eq_true rfl), (Nat.le_of_ble_eq_true rfl)⟩) hK hI hP hS rfl hl.1 rfl (Nat.le_of_ble_eq_true rfl) dX2_clear_15 ⟨Nat.zero_le _, Nat.zero_le _⟩ (fun H locs hP hS => ?_)
  exact me_vret hx hb hr hlk hP hS h dX2_clear_18
theorem c_X2_clear {l : Launch} {D : va_G} {cI : ClassId} {ad : Nat → Nat} {L : List CDs} {t : Nat} (hT : is_X2 L t) {x1 : Int32} {M M' : Mem} {r : Unit} (h : X2_clear t x1 M = some (r, M')) : me_Met l yX2_clear wsX2_clear rmX2_clear D cI ad L [.ref (ad t), .int x1] none M M' :=
  me_ofW (by decide) rfl (Nat.le_of_ble_eq_true rfl) (fun p e s m below meth c C0 => w_X2_clear C0 t hT x1 M h)
abbrev rmX2_link : Room := { frames := 0, cells := 0, slots := 0, locals := 0 }
theorem kX2_link_f24 : (Cond.fieldLink RX2 24 "LadderOfBows$Links" "persons" "I") ∈ wsX2_link := List.mem_of_getElem? (i := 1) rfl
theorem kX2_link_f9 : (Cond.fieldLink RX2 9 "LadderOfBows$Links" "rows" "[I") ∈ wsX2_link := List.mem_of_getElem? (i := 2) rfl
theorem in_X2_link_X2 : ∀ w ∈ wsX20, w ∈ wsX2_link := by decide +kernel
theorem hd_X2_link : yX2_link.cls = RX2 ∧ yX2_link.cls ≠ "java/lang/invoke/MethodHandle" ∧ yX2_link.cls ≠ "java/lang/invoke/VarHandle" ∧ (parseMethodDescriptor yX2_link.desc).map (fun d => d.parameters.length) = some 2 := by decide +kernel
set_option maxRecDepth 100000 in
set_option maxHeartbeats 4000000 in
theorem w_X2_link {p : Program} {l : Launch} {e : Env} {s : State} {m : MethodId} {args : Array Value} {below : List Frame} {meth : Method} {c : Code} {D : va_G} {cI : ClassId} {ad : Nat → Nat} {L : List CDs} {r : Unit} {M' : Mem} (C0 : me_X p s m args meth c cX2_link 3 none wsX2_link RX2 D cI ad L) (t : Nat) (hT : is_X2 L t) (x1 : Int32) (x2 : Int32) : ∀  (M : Mem), X2_link t x1 x2 M = some (r, M') → me_W p l e rmX2_link s m args below meth c D cI ad L none M' 3 0 [(0, .ref (ad t)), (1, .int x1), (2, .int x2)] [] M := by
  obtain ⟨hx, hb, hr, hml, hown, hts, hlk, hK, hI⟩ := id C0
  intro M h
  unfold X2_link at h
  intro H locs ls hP hS hl
  refine lv_iload_n hx hb dX2_link_0 rfl (lv_at hl 1 rfl) ?_
  refine lv_aload_n hx hb dX2_link_1 rfl (lv_at hl 0 rfl) ?_
  refine me_get (ci := 2) (C := RX2) (T := TX2) (N := 3) hx hb hts in_X2_link_X2 hown hK hP hT.1 rfl 2 (by decide) (hts _ kX2_link_f24) rfl dX2_link_2 ?_
  refine lv_icmp_ge (tgt := 28) hx hb dX2_link_5 (by decide) (fun q => ?_) (fun q => ?_)
  · rw [if_pos q] at h
    exact me_vret hx hb hr hlk hP hS h dX2_link_28
  · rw [if_neg q] at h
    refine lv_iload_n hx hb dX2_link_8 rfl (lv_at hl 2 rfl) ?_
    refine lv_aload_n hx hb dX2_link_9 rfl (lv_at hl 0 rfl) ?_
    refine me_get (ci := 2) (C := RX2) (T := TX2) (N := 3) hx hb hts in_X2_link_X2 hown hK hP hT.1 rfl 2 (by decide) (hts _ kX2_link_f24) rfl dX2_link_10 ?_
    refine lv_icmp_ge (tgt := 28) hx hb dX2_link_13 (by decide) (fun q => ?_) (fun q => ?_)
    · rw [if_pos q] at h
      exact me_vret hx hb hr hlk hP hS h dX2_link_28
    · rw [if_neg q] at h
      refine lv_aload_n hx hb dX2_link_16 rfl (lv_at hl 0 rfl) ?_
      refine me_getr (ci := 2) (C := RX2) (T := TX2) (N := 3) hx hb hts in_X2_link_X2 hown hK hP hT.1 rfl 0 (by decide) (hts _ kX2_link_f9) rfl dX2_link_17 ?_
      refine lv_iload_n hx hb dX2_link_20 rfl (lv_at hl 1 rfl) ?_
      refine lv_dup2_11 hx hb dX2_link_21 rfl rfl ?_
      obtain ⟨hi, h⟩ := s_ald_inv h
      refine me_ald hx hb hK hP hT.2.1 hi dX2_link_22 (fun v22 ev => ?_)
      replace h := h v22 ev
      refine lv_iconst (v := (1 : Int32)) hx hb dX2_link_23 (by decide) ?_
      refine lv_iload_n hx hb dX2_link_24 rfl (lv_at hl 2 rfl) ?_
      refine lv_ishl hx hb dX2_link_25 ?_
      refine lv_ior hx hb dX2_link_26 ?_
      obtain ⟨hi, h⟩ := s_ast_inv h
      refine me_ast hx hb hK hI hP hS hT.2.1 hi dX2_link_27 (fun H locs M27 eM hP hS => ?_)
      replace h := h M27 eM
      exact me_vret hx hb hr hlk hP hS h dX2_link_28
theorem c_X2_link {l : Launch} {D : va_G} {cI : ClassId} {ad : Nat → Nat} {L : List CDs} {t : Nat} (hT : is_X2 L t) {x1 : Int32} {x2 : Int32} {M M' : Mem} {r : Unit} (h : X2_link t x1 x2 M = some (r, M')) : me_Met l yX2_link wsX2_link rmX2_link D cI ad L [.ref (ad t), .int x1, .int x2] none M M' :=
  me_ofW (by decide) rfl (Nat.le_of_ble_eq_true rfl) (fun p e s m below meth c C0 => w_X2_link C0 t hT x1 x2 M h)
abbrev rmX2_areLinked : Room := { frames := 0, cells := 0, slots := 0, locals := 0 }
theorem kX2_areLinked_f9 : (Cond.fieldLink RX2 9 "LadderOfBows$Links" "rows" "[I") ∈ wsX2_areLinked := List.mem_of_getElem? (i := 1) rfl
theorem in_X2_areLinked_X2 : ∀ w ∈ wsX20, w ∈ wsX2_areLinked := by decide +kernel
theorem hd_X2_areLinked : yX2_areLinked.cls = RX2 ∧ yX2_areLinked.cls ≠ "java/lang/invoke/MethodHandle" ∧ yX2_areLinked.cls ≠ "java/lang/invoke/VarHandle" ∧ (parseMethodDescriptor yX2_areLinked.desc).map (fun d => d.parameters.length) = some 2 := by decide +kernel
set_option maxRecDepth 100000 in
set_option maxHeartbeats 4000000 in
theorem w_X2_areLinked {p : Program} {l : Launch} {e : Env} {s : State} {m : MethodId} {args : Array Value} {below : List Frame} {meth : Method} {c : Code} {D : va_G} {cI : ClassId} {ad : Nat → Nat} {L : List CDs} {r : Int32} {M' : Mem} (C0 : me_X p s m args meth c cX2_areLinked 3 (some .boolean) wsX2_areLinked RX2 D cI ad L) (t : Nat) (hT : is_X2 L t) (x1 : Int32) (x2 : Int32) : ∀  (M : Mem), X2_areLinked t x1 x2 M = some (r, M') → me_W p l e rmX2_areLinked s m args below meth c D cI ad L (some (.int r)) M' 3 0 [(0, .ref (ad t)), (1, .int x1), (2, .int x2)] [] M := by
  obtain ⟨hx, hb, hr, hml, hown, hts, hlk, hK, hI⟩ := id C0
  intro M h
  unfold X2_areLinked at h
  intro H locs ls hP hS hl
  refine lv_aload_n hx hb dX2_areLinked_0 rfl (lv_at hl 0 rfl) ?_
  refine me_getr (ci := 2) (C := RX2) (T := TX2) (N := 3) hx hb hts in_X2_areLinked_X2 hown hK hP hT.1 rfl 0 (by decide) (hts _ kX2_areLinked_f9) rfl dX2_areLinked_1 ?_
  refine lv_iload_n hx hb dX2_areLinked_4 rfl (lv_at hl 1 rfl) ?_
  obtain ⟨hi, h⟩ := s_ald_inv h
  refine me_ald hx hb hK hP hT.2.1 hi dX2_areLinked_5 (fun v5 ev => ?_)
  replace h := h v5 ev
  refine lv_iload_n hx hb dX2_areLinked_6 rfl (lv_at hl 2 rfl) ?_
  refine lv_ishr hx hb dX2_areLinked_7 ?_
  refine lv_iconst (v := (1 : Int32)) hx hb dX2_areLinked_8 (by decide) ?_
  refine lv_iand hx hb dX2_areLinked_9 ?_
  refine lv_iconst (v := (1 : Int32)) hx hb dX2_areLinked_10 (by decide) ?_
  refine lv_icmp_ne (tgt := 18) hx hb dX2_areLinked_11 (by decide) (fun q => ?_) (fun q => ?_)
  · rw [if_pos q] at h
    refine lv_iconst (v := (0 : Int32)) hx hb dX2_areLinked_18 (by decide) ?_
    exact me_zret hx hb hr hlk hP hS h dX2_areLinked_19
  · rw [if_neg (not_not_intro q)] at h
    refine lv_iconst (v := (1 : Int32)) hx hb dX2_areLinked_14 (by decide) ?_
    refine lv_goto (tgt := 19) hx hb dX2_areLinked_15 (by decide) ?_
    exact me_zret hx hb hr hlk hP hS h dX2_areLinked_19
theorem c_X2_areLinked {l : Launch} {D : va_G} {cI : ClassId} {ad : Nat → Nat} {L : List CDs} {t : Nat} (hT : is_X2 L t) {x1 : Int32} {x2 : Int32} {M M' : Mem} {r : Int32} (h : X2_areLinked t x1 x2 M = some (r, M')) : me_Met l yX2_areLinked wsX2_areLinked rmX2_areLinked D cI ad L [.ref (ad t), .int x1, .int x2] (some (.int r)) M M' :=
  me_ofW (by decide) rfl (Nat.le_of_ble_eq_true rfl) (fun p e s m below meth c C0 => w_X2_areLinked C0 t hT x1 x2 M h)
abbrev rmX2_linkedTo : Room := { frames := 0, cells := 0, slots := 0, locals := 0 }
theorem kX2_linkedTo_f9 : (Cond.fieldLink RX2 9 "LadderOfBows$Links" "rows" "[I") ∈ wsX2_linkedTo := List.mem_of_getElem? (i := 1) rfl
theorem in_X2_linkedTo_X2 : ∀ w ∈ wsX20, w ∈ wsX2_linkedTo := by decide +kernel
theorem hd_X2_linkedTo : yX2_linkedTo.cls = RX2 ∧ yX2_linkedTo.cls ≠ "java/lang/invoke/MethodHandle" ∧ yX2_linkedTo.cls ≠ "java/lang/invoke/VarHandle" ∧ (parseMethodDescriptor yX2_linkedTo.desc).map (fun d => d.parameters.length) = some 1 := by decide +kernel
set_option maxRecDepth 100000 in
set_option maxHeartbeats 4000000 in
theorem w_X2_linkedTo {p : Program} {l : Launch} {e : Env} {s : State} {m : MethodId} {args : Array Value} {below : List Frame} {meth : Method} {c : Code} {D : va_G} {cI : ClassId} {ad : Nat → Nat} {L : List CDs} {r : Int32} {M' : Mem} (C0 : me_X p s m args meth c cX2_linkedTo 2 (some .int) wsX2_linkedTo RX2 D cI ad L) (t : Nat) (hT : is_X2 L t) (x1 : Int32) : ∀  (M : Mem), X2_linkedTo t x1 M = some (r, M') → me_W p l e rmX2_linkedTo s m args below meth c D cI ad L (some (.int r)) M' 2 0 [(0, .ref (ad t)), (1, .int x1)] [] M := by
  obtain ⟨hx, hb, hr, hml, hown, hts, hlk, hK, hI⟩ := id C0
  intro M h
  unfold X2_linkedTo at h
  intro H locs ls hP hS hl
  refine lv_aload_n hx hb dX2_linkedTo_0 rfl (lv_at hl 0 rfl) ?_
  refine me_getr (ci := 2) (C := RX2) (T := TX2) (N := 3) hx hb hts in_X2_linkedTo_X2 hown hK hP hT.1 rfl 0 (by decide) (hts _ kX2_linkedTo_f9) rfl dX2_linkedTo_1 ?_
  refine lv_iload_n hx hb dX2_linkedTo_4 rfl (lv_at hl 1 rfl) ?_
  obtain ⟨hi, h⟩ := s_ald_inv h
  refine me_ald hx hb hK hP hT.2.1 hi dX2_linkedTo_5 (fun v5 ev => ?_)
  replace h := h v5 ev
  exact me_iret hx hb hr hlk hP hS h dX2_linkedTo_6
theorem c_X2_linkedTo {l : Launch} {D : va_G} {cI : ClassId} {ad : Nat → Nat} {L : List CDs} {t : Nat} (hT : is_X2 L t) {x1 : Int32} {M M' : Mem} {r : Int32} (h : X2_linkedTo t x1 M = some (r, M')) : me_Met l yX2_linkedTo wsX2_linkedTo rmX2_linkedTo D cI ad L [.ref (ad t), .int x1] (some (.int r)) M M' :=
  me_ofW (by decide) rfl (Nat.le_of_ble_eq_true rfl) (fun p e s m below meth c C0 => w_X2_linkedTo C0 t hT x1 M h)
abbrev rmX2_linkedToAny : Room := { frames := 0, cells := 0, slots := 0, locals := 0 }
theorem kX2_linkedToAny_f24 : (Cond.fieldLink RX2 24 "LadderOfBows$Links" "persons" "I") ∈ wsX2_linkedToAny := List.mem_of_getElem? (i := 1) rfl
theorem kX2_linkedToAny_f9 : (Cond.fieldLink RX2 9 "LadderOfBows$Links" "rows" "[I") ∈ wsX2_linkedToAny := List.mem_of_getElem? (i := 2) rfl
theorem in_X2_linkedToAny_X2 : ∀ w ∈ wsX20, w ∈ wsX2_linkedToAny := by decide +kernel
theorem hd_X2_linkedToAny : yX2_linkedToAny.cls = RX2 ∧ yX2_linkedToAny.cls ≠ "java/lang/invoke/MethodHandle" ∧ yX2_linkedToAny.cls ≠ "java/lang/invoke/VarHandle" ∧ (parseMethodDescriptor yX2_linkedToAny.desc).map (fun d => d.parameters.length) = some 1 := by decide +kernel
set_option maxRecDepth 100000 in
set_option maxHeartbeats 4000000 in
theorem w_X2_linkedToAny_4 {p : Program} {l : Launch} {e : Env} {s : State} {m : MethodId} {args : Array Value} {below : List Frame} {meth : Method} {c : Code} {D : va_G} {cI : ClassId} {ad : Nat → Nat} {L : List CDs} {r : Int32} {M' : Mem} (C0 : me_X p s m args meth c cX2_linkedToAny 4 (some .int) wsX2_linkedToAny RX2 D cI ad L) (t : Nat) (hT : is_X2 L t) (x1 : Int32) : ∀ (n : Nat) (x2 : Int32) (x3 : Int32) (M : Mem), X2_linkedToAny_4 t x1 n x2 x3 M = some (r, M') → me_W p l e rmX2_linkedToAny s m args below meth c D cI ad L (some (.int r)) M' 4 4 [(0, .ref (ad t)), (1, .int x1), (2, .int x2), (3, .int x3)] [] M := by
  obtain ⟨hx, hb, hr, hml, hown, hts, hlk, hK, hI⟩ := id C0
  intro n
  induction n with
  | zero =>
    intro x2 x3 M h
    rw [X2_linkedToAny_4] at h
    cases h
  | succ n ih =>
    intro x2 x3 M h
    rw [X2_linkedToAny_4] at h
    intro H locs ls hP hS hl
    refine lv_iload_n hx hb dX2_linkedToAny_4 rfl (lv_at hl 3 rfl) ?_
    refine lv_aload_n hx hb dX2_linkedToAny_5 rfl (lv_at hl 0 rfl) ?_
    refine me_get (ci := 2) (C := RX2) (T := TX2) (N := 3) hx hb hts in_X2_linkedToAny_X2 hown hK hP hT.1 rfl 2 (by decide) (hts _ kX2_linkedToAny_f24) rfl dX2_linkedToAny_6 ?_
    refine lv_icmp_ge (tgt := 36) hx hb dX2_linkedToAny_9 (by decide) (fun q => ?_) (fun q => ?_)
    · rw [if_pos q] at h
      refine lv_iload_n hx hb dX2_linkedToAny_36 rfl (lv_at hl 2 rfl) ?_
      exact me_iret hx hb hr hlk hP hS h dX2_linkedToAny_37
    · rw [if_neg q] at h
      refine lv_iload_n hx hb dX2_linkedToAny_12 rfl (lv_at hl 1 rfl) ?_
      refine lv_iload_n hx hb dX2_linkedToAny_13 rfl (lv_at hl 3 rfl) ?_
      refine lv_ishr hx hb dX2_linkedToAny_14 ?_
      refine lv_iconst (v := (1 : Int32)) hx hb dX2_linkedToAny_15 (by decide) ?_
      refine lv_iand hx hb dX2_linkedToAny_16 ?_
      refine lv_iconst (v := (1 : Int32)) hx hb dX2_linkedToAny_17 (by decide) ?_
      refine lv_icmp_ne (tgt := 30) hx hb dX2_linkedToAny_18 (by decide) (fun q => ?_) (fun q => ?_)
      · rw [if_pos q] at h
        refine lv_iinc (k := 3) (v := (x3 + (1 : Int32))) (lv' := [(3, .int (x3 + (1 : Int32))), (0, .ref (ad t)), (1, .int x1), (2, .int x2)]) hx hb dX2_linkedToAny_30 hl rfl rfl (by decide) rfl (fun ls hl => ?_)
        refine lv_goto (tgt := 4) hx hb dX2_linkedToAny_33 (by decide) ?_
        exact ih x2 (x3 + (1 : Int32)) M h H locs ls hP hS (lv_sub hl [1, 2, 3, 0] rfl)
      · rw [if_neg (not_not_intro q)] at h
        refine lv_iload_n hx hb dX2_linkedToAny_21 rfl (lv_at hl 2 rfl) ?_
        refine lv_aload_n hx hb dX2_linkedToAny_22 rfl (lv_at hl 0 rfl) ?_
        refine me_getr (ci := 2) (C := RX2) (T := TX2) (N := 3) hx hb hts in_X2_linkedToAny_X2 hown hK hP hT.1 rfl 0 (by decide) (hts _ kX2_linkedToAny_f9) rfl dX2_linkedToAny_23 ?_
        refine lv_iload_n hx hb dX2_linkedToAny_26 rfl (lv_at hl 3 rfl) ?_
        obtain ⟨hi, h⟩ := s_ald_inv h
        refine me_ald hx hb hK hP hT.2.1 hi dX2_linkedToAny_27 (fun v27 ev => ?_)
        replace h := h v27 ev
        refine lv_ior hx hb dX2_linkedToAny_28 ?_
        refine lv_topi (fun x2_29 ev => ?_)
        replace h := s_let_inv h x2_29 ev
        refine lv_istore_n (lv' := [(2, .int x2_29), (0, .ref (ad t)), (1, .int x1), (3, .int x3)]) hx hb dX2_linkedToAny_29 rfl hl (by decide) rfl (fun ls hl => ?_)
        refine lv_iinc (k := 3) (v := (x3 + (1 : Int32))) (lv' := [(3, .int (x3 + (1 : Int32))), (2, .int x2_29), (0, .ref (ad t)), (1, .int x1)]) hx hb dX2_linkedToAny_30 hl rfl rfl (by decide) rfl (fun ls hl => ?_)
        refine lv_goto (tgt := 4) hx hb dX2_linkedToAny_33 (by decide) ?_
        exact ih x2_29 (x3 + (1 : Int32)) M h H locs ls hP hS (lv_sub hl [2, 3, 1, 0] rfl)
set_option maxRecDepth 100000 in
set_option maxHeartbeats 4000000 in
theorem w_X2_linkedToAny {p : Program} {l : Launch} {e : Env} {s : State} {m : MethodId} {args : Array Value} {below : List Frame} {meth : Method} {c : Code} {D : va_G} {cI : ClassId} {ad : Nat → Nat} {L : List CDs} {r : Int32} {M' : Mem} (C0 : me_X p s m args meth c cX2_linkedToAny 4 (some .int) wsX2_linkedToAny RX2 D cI ad L) (t : Nat) (hT : is_X2 L t) (x1 : Int32) : ∀  (M : Mem), X2_linkedToAny t x1 M = some (r, M') → me_W p l e rmX2_linkedToAny s m args below meth c D cI ad L (some (.int r)) M' 4 0 [(0, .ref (ad t)), (1, .int x1)] [] M := by
  obtain ⟨hx, hb, hr, hml, hown, hts, hlk, hK, hI⟩ := id C0
  intro M h
  unfold X2_linkedToAny at h
  intro H locs ls hP hS hl
  refine lv_iconst (v := (0 : Int32)) hx hb dX2_linkedToAny_0 (by decide) ?_
  refine lv_istore_n (lv' := [(2, .int (0 : Int32)), (0, .ref (ad t)), (1, .int x1)]) hx hb dX2_linkedToAny_1 rfl hl (by decide) rfl (fun ls hl => ?_)
  refine lv_iconst (v := (0 : Int32)) hx hb dX2_linkedToAny_2 (by decide) ?_
  refine lv_istore_n (lv' := [(3, .int (0 : Int32)), (2, .int (0 : Int32)), (0, .ref (ad t)), (1, .int x1)]) hx hb dX2_linkedToAny_3 rfl hl (by decide) rfl (fun ls hl => ?_)
  exact w_X2_linkedToAny_4 C0 t hT x1 FU (0 : Int32) (0 : Int32) M h H locs ls hP hS (lv_sub hl [2, 3, 1, 0] rfl)
theorem c_X2_linkedToAny {l : Launch} {D : va_G} {cI : ClassId} {ad : Nat → Nat} {L : List CDs} {t : Nat} (hT : is_X2 L t) {x1 : Int32} {M M' : Mem} {r : Int32} (h : X2_linkedToAny t x1 M = some (r, M')) : me_Met l yX2_linkedToAny wsX2_linkedToAny rmX2_linkedToAny D cI ad L [.ref (ad t), .int x1] (some (.int r)) M M' :=
  me_ofW (by decide) rfl (Nat.le_of_ble_eq_true rfl) (fun p e s m below meth c C0 => w_X2_linkedToAny C0 t hT x1 M h)
abbrev rmX2_steps : Room := { frames := 1, cells := 0, slots := 0, locals := 23 }
theorem kX2_steps_f24 : (Cond.fieldLink RX2 24 "LadderOfBows$Links" "persons" "I") ∈ wsX2_steps := List.mem_of_getElem? (i := 1) rfl
theorem in_X2_steps_X2 : ∀ w ∈ wsX20, w ∈ wsX2_steps := by decide +kernel
theorem hd_X2_steps : yX2_steps.cls = RX2 ∧ yX2_steps.cls ≠ "java/lang/invoke/MethodHandle" ∧ yX2_steps.cls ≠ "java/lang/invoke/VarHandle" ∧ (parseMethodDescriptor yX2_steps.desc).map (fun d => d.parameters.length) = some 2 := by decide +kernel
set_option maxRecDepth 100000 in
set_option maxHeartbeats 4000000 in
theorem w_X2_steps_7 {p : Program} {l : Launch} {e : Env} {s : State} {m : MethodId} {args : Array Value} {below : List Frame} {meth : Method} {c : Code} {D : va_G} {cI : ClassId} {ad : Nat → Nat} {L : List CDs} {r : Int32} {M' : Mem} (C0 : me_X p s m args meth c cX2_steps 5 (some .int) wsX2_steps RX2 D cI ad L) (t : Nat) (hT : is_X2 L t) (x2 : Int32) : ∀ (n : Nat) (x3 : Int32) (x4 : Int32) (M : Mem), X2_steps_7 t x2 n x3 x4 M = some (r, M') → me_W p l e rmX2_steps s m args below meth c D cI ad L (some (.int r)) M' 5 7 [(0, .ref (ad t)), (2, .int x2), (3, .int x3), (4, .int x4)] [] M := by
  obtain ⟨hx, hb, hr, hml, hown, hts, hlk, hK, hI⟩ := id C0
  intro n
  induction n with
  | zero =>
    intro x3 x4 M h
    rw [X2_steps_7] at h
    cases h
  | succ n ih =>
    intro x3 x4 M h
    rw [X2_steps_7] at h
    intro H locs ls hP hS hl
    refine lv_iload hx hb dX2_steps_7 (lv_at hl 3 rfl) ?_
    refine lv_aload_n hx hb dX2_steps_9 rfl (lv_at hl 0 rfl) ?_
    refine me_get (ci := 2) (C := RX2) (T := TX2) (N := 3) hx hb hts in_X2_steps_X2 hown hK hP hT.1 rfl 2 (by decide) (hts _ kX2_steps_f24) rfl dX2_steps_10 ?_
    refine lv_icmp_ge (tgt := 42) hx hb dX2_steps_13 (by decide) (fun q => ?_) (fun q => ?_)
    · rw [if_pos q] at h
      refine lv_bipush (v := (-4 : Int32)) hx hb dX2_steps_42 (by decide) ?_
      exact me_iret hx hb hr hlk hP hS h dX2_steps_44
    · rw [if_neg q] at h
      refine lv_iload_n hx hb dX2_steps_16 rfl (lv_at hl 2 rfl) ?_
      refine lv_iload_n hx hb dX2_steps_17 rfl (lv_at hl 1 rfl) ?_
      refine lv_ishr hx hb dX2_steps_18 ?_
      refine lv_iconst (v := (1 : Int32)) hx hb dX2_steps_19 (by decide) ?_
      refine lv_iand hx hb dX2_steps_20 ?_
      refine lv_iconst (v := (1 : Int32)) hx hb dX2_steps_21 (by decide) ?_
      refine lv_icmp_ne (tgt := 28) hx hb dX2_steps_22 (by decide) (fun q => ?_) (fun q => ?_)
      · rw [if_pos q] at h
        refine lv_iload_n hx hb dX2_steps_28 rfl (lv_at hl 2 rfl) ?_
        refine lv_aload_n hx hb dX2_steps_29 rfl (lv_at hl 0 rfl) ?_
        refine lv_iload_n hx hb dX2_steps_30 rfl (lv_at hl 2 rfl) ?_
        obtain ⟨v31, M31, h1, h⟩ := s_call_inv h
        refine me_callVi (As := [.int x3]) (rest := [.int x3]) ⟨hx, hb, hml, hown, hts⟩ (c_X2_linkedToAny hT h1) (cwV 1 hts gX2_steps_X2_linkedToAny rfl rfl rfl hd_X2_linkedToAny ⟨(Nat.le_of_ble_eq_true rfl), (Nat.le_of_ble_eq_true rfl)⟩) hK hI hP hS hT.1 rfl rfl hl.1 rfl (Nat.le_of_ble_eq_true rfl) dX2_steps_31 ⟨Nat.zero_le _, Nat.zero_le _⟩ (fun H locs hP hS => ?_)
        refine lv_ior hx hb dX2_steps_34 ?_
        refine lv_topi (fun x3_35 ev => ?_)
        replace h := s_let_inv h x3_35 ev
        refine lv_istore_n (lv' := [(3, .int x3_35), (0, .ref (ad t)), (2, .int x2), (4, .int x4)]) hx hb dX2_steps_35 rfl hl (by decide) rfl (fun ls hl => ?_)
        refine lv_iinc (k := 3) (v := (x4 + (1 : Int32))) (lv' := [(4, .int (x4 + (1 : Int32))), (3, .int x3_35), (0, .ref (ad t)), (2, .int x2)]) hx hb dX2_steps_36 hl rfl rfl (by decide) rfl (fun ls hl => ?_)
        refine lv_goto (tgt := 7) hx hb dX2_steps_39 (by decide) ?_
        exact ih x3_35 (x4 + (1 : Int32)) M31 h H locs ls hP hS (lv_sub hl [2, 3, 1, 0] rfl)
      · rw [if_neg (not_not_intro q)] at h
        refine lv_iload hx hb dX2_steps_25 (lv_at hl 3 rfl) ?_
        exact me_iret hx hb hr hlk hP hS h dX2_steps_27
set_option maxRecDepth 100000 in
set_option maxHeartbeats 4000000 in
theorem w_X2_steps {p : Program} {l : Launch} {e : Env} {s : State} {m : MethodId} {args : Array Value} {below : List Frame} {meth : Method} {c : Code} {D : va_G} {cI : ClassId} {ad : Nat → Nat} {L : List CDs} {r : Int32} {M' : Mem} (C0 : me_X p s m args meth c cX2_steps 5 (some .int) wsX2_steps RX2 D cI ad L) (t : Nat) (hT : is_X2 L t) (x1 : Int32) (x2 : Int32) : ∀  (M : Mem), X2_steps t x1 x2 M = some (r, M') → me_W p l e rmX2_steps s m args below meth c D cI ad L (some (.int r)) M' 5 0 [(0, .ref (ad t)), (1, .int x1), (2, .int x2)] [] M := by
  obtain ⟨hx, hb, hr, hml, hown, hts, hlk, hK, hI⟩ := id C0
  intro M h
  unfold X2_steps at h
  intro H locs ls hP hS hl
  refine lv_iconst (v := (1 : Int32)) hx hb dX2_steps_0 (by decide) ?_
  refine lv_iload_n hx hb dX2_steps_1 rfl (lv_at hl 1 rfl) ?_
  refine lv_ishl hx hb dX2_steps_2 ?_
  refine lv_topi (fun x3_3 ev => ?_)
  replace h := s_let_inv h x3_3 ev
  refine lv_istore_n (lv' := [(3, .int x3_3), (0, .ref (ad t)), (1, .int x1), (2, .int x2)]) hx hb dX2_steps_3 rfl hl (by decide) rfl (fun ls hl => ?_)
  refine lv_iconst (v := (0 : Int32)) hx hb dX2_steps_4 (by decide) ?_
  refine lv_istore (lv' := [(4, .int (0 : Int32)), (3, .int x3_3), (0, .ref (ad t)), (1, .int x1), (2, .int x2)]) hx hb dX2_steps_5 hl (by decide) rfl (fun ls hl => ?_)
  exact w_X2_steps_7 C0 t hT x2 FU x3_3 (0 : Int32) M h H locs ls hP hS (lv_sub hl [2, 4, 1, 0] rfl)
theorem c_X2_steps {l : Launch} {D : va_G} {cI : ClassId} {ad : Nat → Nat} {L : List CDs} {t : Nat} (hT : is_X2 L t) {x1 : Int32} {x2 : Int32} {M M' : Mem} {r : Int32} (h : X2_steps t x1 x2 M = some (r, M')) : me_Met l yX2_steps wsX2_steps rmX2_steps D cI ad L [.ref (ad t), .int x1, .int x2] (some (.int r)) M M' :=
  me_ofW (by decide) rfl (Nat.le_of_ble_eq_true rfl) (fun p e s m below meth c C0 => w_X2_steps C0 t hT x1 x2 M h)
abbrev rmX2_areAllLinked : Room := { frames := 0, cells := 0, slots := 0, locals := 0 }
theorem kX2_areAllLinked_f24 : (Cond.fieldLink RX2 24 "LadderOfBows$Links" "persons" "I") ∈ wsX2_areAllLinked := List.mem_of_getElem? (i := 1) rfl
theorem kX2_areAllLinked_f9 : (Cond.fieldLink RX2 9 "LadderOfBows$Links" "rows" "[I") ∈ wsX2_areAllLinked := List.mem_of_getElem? (i := 2) rfl
theorem in_X2_areAllLinked_X2 : ∀ w ∈ wsX20, w ∈ wsX2_areAllLinked := by decide +kernel
theorem hd_X2_areAllLinked : yX2_areAllLinked.cls = RX2 ∧ yX2_areAllLinked.cls ≠ "java/lang/invoke/MethodHandle" ∧ yX2_areAllLinked.cls ≠ "java/lang/invoke/VarHandle" ∧ (parseMethodDescriptor yX2_areAllLinked.desc).map (fun d => d.parameters.length) = some 1 := by decide +kernel
set_option maxRecDepth 100000 in
set_option maxHeartbeats 4000000 in
theorem w_X2_areAllLinked_2 {p : Program} {l : Launch} {e : Env} {s : State} {m : MethodId} {args : Array Value} {below : List Frame} {meth : Method} {c : Code} {D : va_G} {cI : ClassId} {ad : Nat → Nat} {L : List CDs} {r : Int32} {M' : Mem} (C0 : me_X p s m args meth c cX2_areAllLinked 4 (some .boolean) wsX2_areAllLinked RX2 D cI ad L) (t : Nat) (hT : is_X2 L t) (x1 : Int32) : ∀ (n : Nat) (x2 : Int32) (M : Mem), X2_areAllLinked_2 t x1 n x2 M = some (r, M') → me_W p l e rmX2_areAllLinked s m args below meth c D cI ad L (some (.int r)) M' 4 2 [(0, .ref (ad t)), (1, .int x1), (2, .int x2)] [] M := by
  obtain ⟨hx, hb, hr, hml, hown, hts, hlk, hK, hI⟩ := id C0
  intro n
  induction n with
  | zero =>
    intro x2 M h
    rw [X2_areAllLinked_2] at h
    cases h
  | succ n ih =>
    intro x2 M h
    rw [X2_areAllLinked_2] at h
    intro H locs ls hP hS hl
    refine lv_iload_n hx hb dX2_areAllLinked_2 rfl (lv_at hl 2 rfl) ?_
    refine lv_aload_n hx hb dX2_areAllLinked_3 rfl (lv_at hl 0 rfl) ?_
    refine me_get (ci := 2) (C := RX2) (T := TX2) (N := 3) hx hb hts in_X2_areAllLinked_X2 hown hK hP hT.1 rfl 2 (by decide) (hts _ kX2_areAllLinked_f24) rfl dX2_areAllLinked_4 ?_
    refine lv_icmp_ge (tgt := 44) hx hb dX2_areAllLinked_7 (by decide) (fun q => ?_) (fun q => ?_)
    · rw [if_pos q] at h
      refine lv_iconst (v := (1 : Int32)) hx hb dX2_areAllLinked_44 (by decide) ?_
      exact me_zret hx hb hr hlk hP hS h dX2_areAllLinked_45
    · rw [if_neg q] at h
      refine lv_iload_n hx hb dX2_areAllLinked_10 rfl (lv_at hl 1 rfl) ?_
      refine lv_iconst (v := (1 : Int32)) hx hb dX2_areAllLinked_11 (by decide) ?_
      refine lv_iload_n hx hb dX2_areAllLinked_12 rfl (lv_at hl 2 rfl) ?_
      refine lv_ishl hx hb dX2_areAllLinked_13 ?_
      refine lv_iconst (v := (-1 : Int32)) hx hb dX2_areAllLinked_14 (by decide) ?_
      refine lv_ixor hx hb dX2_areAllLinked_15 ?_
      refine lv_iand hx hb dX2_areAllLinked_16 ?_
      refine lv_topi (fun x3_17 ev => ?_)
      replace h := s_let_inv h x3_17 ev
      refine lv_istore_n (lv' := [(3, .int x3_17), (0, .ref (ad t)), (1, .int x1), (2, .int x2)]) hx hb dX2_areAllLinked_17 rfl hl (by decide) rfl (fun ls hl => ?_)
      refine lv_iload_n hx hb dX2_areAllLinked_18 rfl (lv_at hl 0 rfl) ?_
      refine lv_iload_n hx hb dX2_areAllLinked_19 rfl (lv_at hl 2 rfl) ?_
      refine lv_icmp_eq (tgt := 38) hx hb dX2_areAllLinked_20 (by decide) (fun q => ?_) (fun q => ?_)
      · rw [if_pos q] at h
        refine lv_iinc (k := 3) (v := (x2 + (1 : Int32))) (lv' := [(2, .int (x2 + (1 : Int32))), (3, .int x3_17), (0, .ref (ad t)), (1, .int x1)]) hx hb dX2_areAllLinked_38 hl rfl rfl (by decide) rfl (fun ls hl => ?_)
        refine lv_goto (tgt := 2) hx hb dX2_areAllLinked_41 (by decide) ?_
        exact ih (x2 + (1 : Int32)) M h H locs ls hP hS (lv_sub hl [2, 3, 0] rfl)
      · rw [if_neg q] at h
        refine lv_iload_n hx hb dX2_areAllLinked_23 rfl (lv_at hl 0 rfl) ?_
        refine lv_aload_n hx hb dX2_areAllLinked_24 rfl (lv_at hl 1 rfl) ?_
        refine me_getr (ci := 2) (C := RX2) (T := TX2) (N := 3) hx hb hts in_X2_areAllLinked_X2 hown hK hP hT.1 rfl 0 (by decide) (hts _ kX2_areAllLinked_f9) rfl dX2_areAllLinked_25 ?_
        refine lv_iload_n hx hb dX2_areAllLinked_28 rfl (lv_at hl 3 rfl) ?_
        obtain ⟨hi, h⟩ := s_ald_inv h
        refine me_ald hx hb hK hP hT.2.1 hi dX2_areAllLinked_29 (fun v29 ev => ?_)
        replace h := h v29 ev
        refine lv_iconst (v := (-1 : Int32)) hx hb dX2_areAllLinked_30 (by decide) ?_
        refine lv_ixor hx hb dX2_areAllLinked_31 ?_
        refine lv_iand hx hb dX2_areAllLinked_32 ?_
        refine lv_if_eq (tgt := 38) hx hb dX2_areAllLinked_33 (by decide) (fun q => ?_) (fun q => ?_)
        · rw [if_pos q] at h
          refine lv_iinc (k := 3) (v := (x2 + (1 : Int32))) (lv' := [(2, .int (x2 + (1 : Int32))), (3, .int x3_17), (0, .ref (ad t)), (1, .int x1)]) hx hb dX2_areAllLinked_38 hl rfl rfl (by decide) rfl (fun ls hl => ?_)
          refine lv_goto (tgt := 2) hx hb dX2_areAllLinked_41 (by decide) ?_
          exact ih (x2 + (1 : Int32)) M h H locs ls hP hS (lv_sub hl [2, 3, 0] rfl)
        · rw [if_neg q] at h
          refine lv_iconst (v := (0 : Int32)) hx hb dX2_areAllLinked_36 (by decide) ?_
          exact me_zret hx hb hr hlk hP hS h dX2_areAllLinked_37
set_option maxRecDepth 100000 in
set_option maxHeartbeats 4000000 in
theorem w_X2_areAllLinked {p : Program} {l : Launch} {e : Env} {s : State} {m : MethodId} {args : Array Value} {below : List Frame} {meth : Method} {c : Code} {D : va_G} {cI : ClassId} {ad : Nat → Nat} {L : List CDs} {r : Int32} {M' : Mem} (C0 : me_X p s m args meth c cX2_areAllLinked 4 (some .boolean) wsX2_areAllLinked RX2 D cI ad L) (t : Nat) (hT : is_X2 L t) (x1 : Int32) : ∀  (M : Mem), X2_areAllLinked t x1 M = some (r, M') → me_W p l e rmX2_areAllLinked s m args below meth c D cI ad L (some (.int r)) M' 4 0 [(0, .ref (ad t)), (1, .int x1)] [] M := by
  obtain ⟨hx, hb, hr, hml, hown, hts, hlk, hK, hI⟩ := id C0
  intro M h
  unfold X2_areAllLinked at h
  intro H locs ls hP hS hl
  refine lv_iconst (v := (0 : Int32)) hx hb dX2_areAllLinked_0 (by decide) ?_
  refine lv_istore_n (lv' := [(2, .int (0 : Int32)), (0, .ref (ad t)), (1, .int x1)]) hx hb dX2_areAllLinked_1 rfl hl (by decide) rfl (fun ls hl => ?_)
  exact w_X2_areAllLinked_2 C0 t hT x1 FU (0 : Int32) M h H locs ls hP hS (lv_sub hl [1, 2, 0] rfl)
theorem c_X2_areAllLinked {l : Launch} {D : va_G} {cI : ClassId} {ad : Nat → Nat} {L : List CDs} {t : Nat} (hT : is_X2 L t) {x1 : Int32} {M M' : Mem} {r : Int32} (h : X2_areAllLinked t x1 M = some (r, M')) : me_Met l yX2_areAllLinked wsX2_areAllLinked rmX2_areAllLinked D cI ad L [.ref (ad t), .int x1] (some (.int r)) M M' :=
  me_ofW (by decide) rfl (Nat.le_of_ble_eq_true rfl) (fun p e s m below meth c C0 => w_X2_areAllLinked C0 t hT x1 M h)
abbrev rmX2_largestSet : Room := { frames := 1, cells := 0, slots := 0, locals := 23 }
theorem kX2_largestSet_f24 : (Cond.fieldLink RX2 24 "LadderOfBows$Links" "persons" "I") ∈ wsX2_largestSet := List.mem_of_getElem? (i := 1) rfl
theorem in_X2_largestSet_X2 : ∀ w ∈ wsX20, w ∈ wsX2_largestSet := by decide +kernel
theorem hd_X2_largestSet : yX2_largestSet.cls = RX2 ∧ yX2_largestSet.cls ≠ "java/lang/invoke/MethodHandle" ∧ yX2_largestSet.cls ≠ "java/lang/invoke/VarHandle" ∧ (parseMethodDescriptor yX2_largestSet.desc).map (fun d => d.parameters.length) = some 1 := by decide +kernel
set_option maxRecDepth 100000 in
set_option maxHeartbeats 4000000 in
theorem w_X2_largestSet_27 {p : Program} {l : Launch} {e : Env} {s : State} {m : MethodId} {args : Array Value} {below : List Frame} {meth : Method} {c : Code} {D : va_G} {cI : ClassId} {ad : Nat → Nat} {L : List CDs} {r : Int32} {M' : Mem} (C0 : me_X p s m args meth c cX2_largestSet 5 (some .int) wsX2_largestSet RX2 D cI ad L) (t : Nat) (hT : is_X2 L t) (x1 : Int32) (x2 : Int32) (x3 : Int32) (k4 : Int32 → Int32 → Mem → Option (Int32 × Mem)) (hk4 : ∀ (x2 : Int32) (x3 : Int32) (M : Mem), k4 x2 x3 M = some (r, M') → me_W p l e rmX2_largestSet s m args below meth c D cI ad L (some (.int r)) M' 5 4 [(0, .ref (ad t)), (1, .int x1), (2, .int x2), (3, .int x3)] [] M) : ∀ (y0 : Int32) (M : Mem), X2_largestSet_27 t x1 x2 x3 k4 y0 M = some (r, M') → me_W p l e rmX2_largestSet s m args below meth c D cI ad L (some (.int r)) M' 5 27 [(0, .ref (ad t)), (1, .int x1), (2, .int x2), (3, .int x3)] [.int y0] M := by
  obtain ⟨hx, hb, hr, hml, hown, hts, hlk, hK, hI⟩ := id C0
  intro y0 M h
  unfold X2_largestSet_27 at h
  intro H locs ls hP hS hl
  refine lv_istore (lv' := [(4, .int y0), (0, .ref (ad t)), (1, .int x1), (2, .int x2), (3, .int x3)]) hx hb dX2_largestSet_27 hl (by decide) rfl (fun ls hl => ?_)
  refine lv_iload hx hb dX2_largestSet_29 (lv_at hl 0 rfl) ?_
  refine lv_if_eq (tgt := 55) hx hb dX2_largestSet_31 (by decide) (fun q => ?_) (fun q => ?_)
  · rw [if_pos q] at h
    refine lv_iinc (k := 4) (v := (x3 + (1 : Int32))) (lv' := [(3, .int (x3 + (1 : Int32))), (4, .int y0), (0, .ref (ad t)), (1, .int x1), (2, .int x2)]) hx hb dX2_largestSet_55 hl rfl rfl (by decide) rfl (fun ls hl => ?_)
    refine lv_goto (tgt := 4) hx hb dX2_largestSet_58 (by decide) ?_
    exact hk4 x2 (x3 + (1 : Int32)) M h H locs ls hP hS (lv_sub hl [2, 3, 4, 0] rfl)
  · rw [if_neg q] at h
    refine lv_iload_n hx hb dX2_largestSet_34 rfl (lv_at hl 4 rfl) ?_
    obtain ⟨v35, M35, h1, h⟩ := s_call_inv h
    refine me_callSi (As := [.int x3]) (rest := []) ⟨hx, hb, hml, hown, hts⟩ (c_J6_bitCount_0f7a4 h1) (va_cwS 1 hts gX2_largestSet_J6_bitCount_0f7a4 rfl rfl rfl hd_J6_bitCount_0f7a4.2 ⟨(Nat.le_of_ble_eq_true rfl), (Nat.le_of_ble_eq_true rfl)⟩) hK hI hP hS rfl hl.1 rfl (Nat.le_of_ble_eq_true rfl) dX2_largestSet_35 ⟨Nat.zero_le _, Nat.zero_le _⟩ (fun H locs hP hS => ?_)
    refine lv_iload_n hx hb dX2_largestSet_38 rfl (lv_at hl 3 rfl) ?_
    obtain ⟨v39, M39, h1, h⟩ := s_call_inv h
    refine me_callSi (As := [.int x2]) (rest := [.int v35]) ⟨hx, hb, hml, hown, hts⟩ (c_J6_bitCount_0f7a4 h1) (va_cwS 1 hts gX2_largestSet_J6_bitCount_0f7a4 rfl rfl rfl hd_J6_bitCount_0f7a4.2 ⟨(Nat.le_of_ble_eq_true rfl), (Nat.le_of_ble_eq_true rfl)⟩) hK hI hP hS rfl hl.1 rfl (Nat.le_of_ble_eq_true rfl) dX2_largestSet_39 ⟨Nat.zero_le _, Nat.zero_le _⟩ (fun H locs hP hS => ?_)
    refine lv_icmp_le (tgt := 55) hx hb dX2_largestSet_42 (by decide) (fun q => ?_) (fun q => ?_)
    · rw [if_pos q] at h
      refine lv_iinc (k := 4) (v := (x3 + (1 : Int32))) (lv' := [(3, .int (x3 + (1 : Int32))), (4, .int y0), (0, .ref (ad t)), (1, .int x1), (2, .int x2)]) hx hb dX2_largestSet_55 hl rfl rfl (by decide) rfl (fun ls hl => ?_)
      refine lv_goto (tgt := 4) hx hb dX2_largestSet_58 (by decide) ?_
      exact hk4 x2 (x3 + (1 : Int32)) M39 h H locs ls hP hS (lv_sub hl [2, 3, 4, 0] rfl)
    · rw [if_neg q] at h
      refine lv_aload_n hx hb dX2_largestSet_45 rfl (lv_at hl 1 rfl) ?_
      refine lv_iload_n hx hb dX2_largestSet_46 rfl (lv_at hl 4 rfl) ?_
      obtain ⟨v47, M47, h1, h⟩ := s_call_inv h
      refine me_callVi (As := [.int x3]) (rest := []) ⟨hx, hb, hml, hown, hts⟩ (c_X2_areAllLinked hT h1) (cwV 1 hts gX2_largestSet_X2_areAllLinked rfl rfl rfl hd_X2_areAllLinked ⟨(Nat.le_of_ble_eq_true rfl), (Nat.le_of_ble_eq_true rfl)⟩) hK hI hP hS hT.1 rfl rfl hl.1 rfl (Nat.le_of_ble_eq_true rfl) dX2_largestSet_47 ⟨Nat.zero_le _, Nat.zero_le _⟩ (fun H locs hP hS => ?_)
      refine lv_if_eq (tgt := 55) hx hb dX2_largestSet_50 (by decide) (fun q => ?_) (fun q => ?_)
      · rw [if_pos q] at h
        refine lv_iinc (k := 4) (v := (x3 + (1 : Int32))) (lv' := [(3, .int (x3 + (1 : Int32))), (4, .int y0), (0, .ref (ad t)), (1, .int x1), (2, .int x2)]) hx hb dX2_largestSet_55 hl rfl rfl (by decide) rfl (fun ls hl => ?_)
        refine lv_goto (tgt := 4) hx hb dX2_largestSet_58 (by decide) ?_
        exact hk4 x2 (x3 + (1 : Int32)) M47 h H locs ls hP hS (lv_sub hl [2, 3, 4, 0] rfl)
      · rw [if_neg q] at h
        refine lv_iload_n hx hb dX2_largestSet_53 rfl (lv_at hl 4 rfl) ?_
        refine lv_istore_n (lv' := [(2, .int x3), (4, .int y0), (0, .ref (ad t)), (1, .int x1), (3, .int x3)]) hx hb dX2_largestSet_54 rfl hl (by decide) rfl (fun ls hl => ?_)
        refine lv_iinc (k := 4) (v := (x3 + (1 : Int32))) (lv' := [(3, .int (x3 + (1 : Int32))), (2, .int x3), (4, .int y0), (0, .ref (ad t)), (1, .int x1)]) hx hb dX2_largestSet_55 hl rfl rfl (by decide) rfl (fun ls hl => ?_)
        refine lv_goto (tgt := 4) hx hb dX2_largestSet_58 (by decide) ?_
        exact hk4 x3 (x3 + (1 : Int32)) M47 h H locs ls hP hS (lv_sub hl [3, 4, 1, 0] rfl)
set_option maxRecDepth 100000 in
set_option maxHeartbeats 4000000 in
theorem w_X2_largestSet_4 {p : Program} {l : Launch} {e : Env} {s : State} {m : MethodId} {args : Array Value} {below : List Frame} {meth : Method} {c : Code} {D : va_G} {cI : ClassId} {ad : Nat → Nat} {L : List CDs} {r : Int32} {M' : Mem} (C0 : me_X p s m args meth c cX2_largestSet 5 (some .int) wsX2_largestSet RX2 D cI ad L) (t : Nat) (hT : is_X2 L t) (x1 : Int32) : ∀ (n : Nat) (x2 : Int32) (x3 : Int32) (M : Mem), X2_largestSet_4 t x1 n x2 x3 M = some (r, M') → me_W p l e rmX2_largestSet s m args below meth c D cI ad L (some (.int r)) M' 5 4 [(0, .ref (ad t)), (1, .int x1), (2, .int x2), (3, .int x3)] [] M := by
  obtain ⟨hx, hb, hr, hml, hown, hts, hlk, hK, hI⟩ := id C0
  intro n
  induction n with
  | zero =>
    intro x2 x3 M h
    rw [X2_largestSet_4] at h
    cases h
  | succ n ih =>
    intro x2 x3 M h
    rw [X2_largestSet_4] at h
    intro H locs ls hP hS hl
    refine lv_iload_n hx hb dX2_largestSet_4 rfl (lv_at hl 3 rfl) ?_
    refine lv_iconst (v := (1 : Int32)) hx hb dX2_largestSet_5 (by decide) ?_
    refine lv_aload_n hx hb dX2_largestSet_6 rfl (lv_at hl 0 rfl) ?_
    refine me_get (ci := 2) (C := RX2) (T := TX2) (N := 3) hx hb hts in_X2_largestSet_X2 hown hK hP hT.1 rfl 2 (by decide) (hts _ kX2_largestSet_f24) rfl dX2_largestSet_7 ?_
    refine lv_ishl hx hb dX2_largestSet_10 ?_
    refine lv_icmp_ge (tgt := 61) hx hb dX2_largestSet_11 (by decide) (fun q => ?_) (fun q => ?_)
    · rw [if_pos q] at h
      refine lv_iload_n hx hb dX2_largestSet_61 rfl (lv_at hl 2 rfl) ?_
      exact me_iret hx hb hr hlk hP hS h dX2_largestSet_62
    · rw [if_neg q] at h
      refine lv_iload_n hx hb dX2_largestSet_14 rfl (lv_at hl 3 rfl) ?_
      refine lv_iload_n hx hb dX2_largestSet_15 rfl (lv_at hl 1 rfl) ?_
      refine lv_iconst (v := (-1 : Int32)) hx hb dX2_largestSet_16 (by decide) ?_
      refine lv_ixor hx hb dX2_largestSet_17 ?_
      refine lv_iand hx hb dX2_largestSet_18 ?_
      refine lv_if_ne (tgt := 26) hx hb dX2_largestSet_19 (by decide) (fun q => ?_) (fun q => ?_)
      · rw [if_pos q] at h
        refine lv_iconst (v := (0 : Int32)) hx hb dX2_largestSet_26 (by decide) ?_
        exact w_X2_largestSet_27 C0 t hT x1 x2 x3 (X2_largestSet_4 t x1 n) (fun x2 x3 M h => ih x2 x3 M h) (0 : Int32) M h H locs ls hP hS (lv_sub hl [0, 1, 2, 3] rfl)
      · rw [if_neg (not_not_intro q)] at h
        refine lv_iconst (v := (1 : Int32)) hx hb dX2_largestSet_22 (by decide) ?_
        refine lv_goto (tgt := 27) hx hb dX2_largestSet_23 (by decide) ?_
        exact w_X2_largestSet_27 C0 t hT x1 x2 x3 (X2_largestSet_4 t x1 n) (fun x2 x3 M h => ih x2 x3 M h) (1 : Int32) M h H locs ls hP hS (lv_sub hl [0, 1, 2, 3] rfl)
set_option maxRecDepth 100000 in
set_option maxHeartbeats 4000000 in
theorem w_X2_largestSet {p : Program} {l : Launch} {e : Env} {s : State} {m : MethodId} {args : Array Value} {below : List Frame} {meth : Method} {c : Code} {D : va_G} {cI : ClassId} {ad : Nat → Nat} {L : List CDs} {r : Int32} {M' : Mem} (C0 : me_X p s m args meth c cX2_largestSet 5 (some .int) wsX2_largestSet RX2 D cI ad L) (t : Nat) (hT : is_X2 L t) (x1 : Int32) : ∀  (M : Mem), X2_largestSet t x1 M = some (r, M') → me_W p l e rmX2_largestSet s m args below meth c D cI ad L (some (.int r)) M' 5 0 [(0, .ref (ad t)), (1, .int x1)] [] M := by
  obtain ⟨hx, hb, hr, hml, hown, hts, hlk, hK, hI⟩ := id C0
  intro M h
  unfold X2_largestSet at h
  intro H locs ls hP hS hl
  refine lv_iconst (v := (0 : Int32)) hx hb dX2_largestSet_0 (by decide) ?_
  refine lv_istore_n (lv' := [(2, .int (0 : Int32)), (0, .ref (ad t)), (1, .int x1)]) hx hb dX2_largestSet_1 rfl hl (by decide) rfl (fun ls hl => ?_)
  refine lv_iconst (v := (1 : Int32)) hx hb dX2_largestSet_2 (by decide) ?_
  refine lv_istore_n (lv' := [(3, .int (1 : Int32)), (2, .int (0 : Int32)), (0, .ref (ad t)), (1, .int x1)]) hx hb dX2_largestSet_3 rfl hl (by decide) rfl (fun ls hl => ?_)
  exact w_X2_largestSet_4 C0 t hT x1 FU (0 : Int32) (1 : Int32) M h H locs ls hP hS (lv_sub hl [2, 3, 1, 0] rfl)
theorem c_X2_largestSet {l : Launch} {D : va_G} {cI : ClassId} {ad : Nat → Nat} {L : List CDs} {t : Nat} (hT : is_X2 L t) {x1 : Int32} {M M' : Mem} {r : Int32} (h : X2_largestSet t x1 M = some (r, M')) : me_Met l yX2_largestSet wsX2_largestSet rmX2_largestSet D cI ad L [.ref (ad t), .int x1] (some (.int r)) M M' :=
  me_ofW (by decide) rfl (Nat.le_of_ble_eq_true rfl) (fun p e s m below meth c C0 => w_X2_largestSet C0 t hT x1 M h)
abbrev rmX2_mostTwosWithin : Room := { frames := 1, cells := 0, slots := 0, locals := 21 }
theorem kX2_mostTwosWithin_f15 : (Cond.fieldLink RX2 15 "LadderOfBows$Links" "twosWithin" "[I") ∈ wsX2_mostTwosWithin := List.mem_of_getElem? (i := 1) rfl
theorem kX2_mostTwosWithin_f24 : (Cond.fieldLink RX2 24 "LadderOfBows$Links" "persons" "I") ∈ wsX2_mostTwosWithin := List.mem_of_getElem? (i := 2) rfl
theorem kX2_mostTwosWithin_f9 : (Cond.fieldLink RX2 9 "LadderOfBows$Links" "rows" "[I") ∈ wsX2_mostTwosWithin := List.mem_of_getElem? (i := 3) rfl
theorem kX2_mostTwosWithin_m50 : (Cond.methodLink RX2 50 Lib.Math.max.name) ∈ wsX2_mostTwosWithin := List.mem_of_getElem? (i := 4) rfl
theorem kX2_mostTwosWithin_st_max : (Cond.static Lib.Math.max.name) ∈ wsX2_mostTwosWithin := List.mem_of_getElem? (i := 5) rfl
theorem kX2_mostTwosWithin_iniMath : (Cond.initialized "java/lang/Math") ∈ wsX2_mostTwosWithin := List.mem_of_getElem? (i := 6) rfl
theorem kX2_mostTwosWithin_cd_max : (Cond.code Lib.Math.max.name Lib.Math.max.code 2 (some .int)) ∈ wsX2_mostTwosWithin := List.mem_of_getElem? (i := 7) rfl
theorem in_X2_mostTwosWithin_X2 : ∀ w ∈ wsX20, w ∈ wsX2_mostTwosWithin := by decide +kernel
theorem hd_X2_mostTwosWithin : yX2_mostTwosWithin.cls = RX2 ∧ yX2_mostTwosWithin.cls ≠ "java/lang/invoke/MethodHandle" ∧ yX2_mostTwosWithin.cls ≠ "java/lang/invoke/VarHandle" ∧ (parseMethodDescriptor yX2_mostTwosWithin.desc).map (fun d => d.parameters.length) = some 1 := by decide +kernel
set_option maxRecDepth 100000 in
set_option maxHeartbeats 4000000 in
theorem w_X2_mostTwosWithin_31 {p : Program} {l : Launch} {e : Env} {s : State} {m : MethodId} {args : Array Value} {below : List Frame} {meth : Method} {c : Code} {D : va_G} {cI : ClassId} {ad : Nat → Nat} {L : List CDs} {r : Int32} {M' : Mem} (C0 : me_X p s m args meth c cX2_mostTwosWithin 6 (some .int) wsX2_mostTwosWithin RX2 D cI ad L) (t : Nat) (hT : is_X2 L t) (x2 : Int32) (x3 : Int32) : ∀ (n : Nat) (x4 : Int32) (x5 : Int32) (M : Mem), X2_mostTwosWithin_31 t x2 x3 n x4 x5 M = some (r, M') → me_W p l e rmX2_mostTwosWithin s m args below meth c D cI ad L (some (.int r)) M' 6 31 [(0, .ref (ad t)), (2, .int x2), (3, .int x3), (4, .int x4), (5, .int x5)] [] M := by
  obtain ⟨hx, hb, hr, hml, hown, hts, hlk, hK, hI⟩ := id C0
  intro n
  induction n with
  | zero =>
    intro x4 x5 M h
    rw [X2_mostTwosWithin_31] at h
    cases h
  | succ n ih =>
    intro x4 x5 M h
    rw [X2_mostTwosWithin_31] at h
    intro H locs ls hP hS hl
    refine lv_iload hx hb dX2_mostTwosWithin_31 (lv_at hl 4 rfl) ?_
    refine lv_aload_n hx hb dX2_mostTwosWithin_33 rfl (lv_at hl 0 rfl) ?_
    refine me_get (ci := 2) (C := RX2) (T := TX2) (N := 3) hx hb hts in_X2_mostTwosWithin_X2 hown hK hP hT.1 rfl 2 (by decide) (hts _ kX2_mostTwosWithin_f24) rfl dX2_mostTwosWithin_34 ?_
    refine lv_icmp_ge (tgt := 84) hx hb dX2_mostTwosWithin_37 (by decide) (fun q => ?_) (fun q => ?_)
    · rw [if_pos q] at h
      refine lv_iload hx hb dX2_mostTwosWithin_84 (lv_at hl 3 rfl) ?_
      exact me_iret hx hb hr hlk hP hS h dX2_mostTwosWithin_86
    · rw [if_neg q] at h
      refine lv_iload_n hx hb dX2_mostTwosWithin_40 rfl (lv_at hl 2 rfl) ?_
      refine lv_aload_n hx hb dX2_mostTwosWithin_41 rfl (lv_at hl 0 rfl) ?_
      refine me_getr (ci := 2) (C := RX2) (T := TX2) (N := 3) hx hb hts in_X2_mostTwosWithin_X2 hown hK hP hT.1 rfl 0 (by decide) (hts _ kX2_mostTwosWithin_f9) rfl dX2_mostTwosWithin_42 ?_
      refine lv_iload_n hx hb dX2_mostTwosWithin_45 rfl (lv_at hl 1 rfl) ?_
      obtain ⟨hi, h⟩ := s_ald_inv h
      refine me_ald hx hb hK hP hT.2.1 hi dX2_mostTwosWithin_46 (fun v46 ev => ?_)
      replace h := h v46 ev
      refine lv_iand hx hb dX2_mostTwosWithin_47 ?_
      refine lv_iconst (v := (1 : Int32)) hx hb dX2_mostTwosWithin_48 (by decide) ?_
      refine lv_iload hx hb dX2_mostTwosWithin_49 (lv_at hl 4 rfl) ?_
      refine lv_ishl hx hb dX2_mostTwosWithin_51 ?_
      refine lv_iand hx hb dX2_mostTwosWithin_52 ?_
      refine lv_if_eq (tgt := 78) hx hb dX2_mostTwosWithin_53 (by decide) (fun q => ?_) (fun q => ?_)
      · rw [if_pos q] at h
        refine lv_iinc (k := 4) (v := (x5 + (1 : Int32))) (lv' := [(5, .int (x5 + (1 : Int32))), (0, .ref (ad t)), (2, .int x2), (3, .int x3), (4, .int x4)]) hx hb dX2_mostTwosWithin_78 hl rfl rfl (by decide) rfl (fun ls hl => ?_)
        refine lv_goto (tgt := 31) hx hb dX2_mostTwosWithin_81 (by decide) ?_
        exact ih x4 (x5 + (1 : Int32)) M h H locs ls hP hS (lv_sub hl [1, 2, 3, 4, 0] rfl)
      · rw [if_neg q] at h
        refine lv_iload hx hb dX2_mostTwosWithin_56 (lv_at hl 3 rfl) ?_
        refine lv_iconst (v := (1 : Int32)) hx hb dX2_mostTwosWithin_58 (by decide) ?_
        refine lv_aload_n hx hb dX2_mostTwosWithin_59 rfl (lv_at hl 0 rfl) ?_
        refine me_getr (ci := 2) (C := RX2) (T := TX2) (N := 3) hx hb hts in_X2_mostTwosWithin_X2 hown hK hP hT.1 rfl 1 (by decide) (hts _ kX2_mostTwosWithin_f15) rfl dX2_mostTwosWithin_60 ?_
        refine lv_iload_n hx hb dX2_mostTwosWithin_63 rfl (lv_at hl 2 rfl) ?_
        refine lv_iconst (v := (1 : Int32)) hx hb dX2_mostTwosWithin_64 (by decide) ?_
        refine lv_iload hx hb dX2_mostTwosWithin_65 (lv_at hl 4 rfl) ?_
        refine lv_ishl hx hb dX2_mostTwosWithin_67 ?_
        refine lv_iconst (v := (-1 : Int32)) hx hb dX2_mostTwosWithin_68 (by decide) ?_
        refine lv_ixor hx hb dX2_mostTwosWithin_69 ?_
        refine lv_iand hx hb dX2_mostTwosWithin_70 ?_
        obtain ⟨hi, h⟩ := s_ald_inv h
        refine me_ald hx hb hK hP hT.2.2 hi dX2_mostTwosWithin_71 (fun v71 ev => ?_)
        replace h := h v71 ev
        refine lv_iadd hx hb dX2_mostTwosWithin_72 ?_
        refine va_mmax (rest := []) hx hb (hml.trans hl.1.symm) hown (hts _ kX2_mostTwosWithin_m50) (hts _ kX2_mostTwosWithin_st_max) (hts _ kX2_mostTwosWithin_iniMath) (hts _ kX2_mostTwosWithin_cd_max) (Nat.le_of_ble_eq_true rfl) (Nat.le_of_ble_eq_true rfl) (Nat.zero_le _) (Nat.zero_le _) dX2_mostTwosWithin_73 ?_
        refine lv_topi (fun x4_76 ev => ?_)
        replace h := s_let_inv h x4_76 ev
        refine lv_istore (lv' := [(4, .int x4_76), (0, .ref (ad t)), (2, .int x2), (3, .int x3), (5, .int x5)]) hx hb dX2_mostTwosWithin_76 hl (by decide) rfl (fun ls hl => ?_)
        refine lv_iinc (k := 4) (v := (x5 + (1 : Int32))) (lv' := [(5, .int (x5 + (1 : Int32))), (4, .int x4_76), (0, .ref (ad t)), (2, .int x2), (3, .int x3)]) hx hb dX2_mostTwosWithin_78 hl rfl rfl (by decide) rfl (fun ls hl => ?_)
        refine lv_goto (tgt := 31) hx hb dX2_mostTwosWithin_81 (by decide) ?_
        exact ih x4_76 (x5 + (1 : Int32)) M h H locs ls hP hS (lv_sub hl [2, 3, 4, 1, 0] rfl)
set_option maxRecDepth 100000 in
set_option maxHeartbeats 4000000 in
theorem w_X2_mostTwosWithin {p : Program} {l : Launch} {e : Env} {s : State} {m : MethodId} {args : Array Value} {below : List Frame} {meth : Method} {c : Code} {D : va_G} {cI : ClassId} {ad : Nat → Nat} {L : List CDs} {r : Int32} {M' : Mem} (C0 : me_X p s m args meth c cX2_mostTwosWithin 6 (some .int) wsX2_mostTwosWithin RX2 D cI ad L) (t : Nat) (hT : is_X2 L t) (x1 : Int32) : ∀  (M : Mem), X2_mostTwosWithin t x1 M = some (r, M') → me_W p l e rmX2_mostTwosWithin s m args below meth c D cI ad L (some (.int r)) M' 6 0 [(0, .ref (ad t)), (1, .int x1)] [] M := by
  obtain ⟨hx, hb, hr, hml, hown, hts, hlk, hK, hI⟩ := id C0
  intro M h
  unfold X2_mostTwosWithin at h
  intro H locs ls hP hS hl
  refine lv_iload_n hx hb dX2_mostTwosWithin_0 rfl (lv_at hl 1 rfl) ?_
  refine lv_iload_n hx hb dX2_mostTwosWithin_1 rfl (lv_at hl 1 rfl) ?_
  refine lv_ineg hx hb dX2_mostTwosWithin_2 ?_
  refine lv_iand hx hb dX2_mostTwosWithin_3 ?_
  refine lv_iconst (v := (1 : Int32)) hx hb dX2_mostTwosWithin_4 (by decide) ?_
  refine lv_isub hx hb dX2_mostTwosWithin_5 ?_
  obtain ⟨v6, M6, h1, h⟩ := s_call_inv h
  refine me_callSi (As := [.int ((x1 &&& (-x1)) - (1 : Int32))]) (rest := []) ⟨hx, hb, hml, hown, hts⟩ (c_J6_bitCount_0f7a4 h1) (va_cwS 1 hts gX2_mostTwosWithin_J6_bitCount_0f7a4 rfl rfl rfl hd_J6_bitCount_0f7a4.2 ⟨(Nat.le_of_ble_eq_true rfl), (Nat.le_of_ble_eq_true rfl)⟩) hK hI hP hS rfl hl.1 rfl (Nat.le_of_ble_eq_true rfl) dX2_mostTwosWithin_6 ⟨Nat.zero_le _, Nat.zero_le _⟩ (fun H locs hP hS => ?_)
  refine lv_istore_n (lv' := [(2, .int v6), (0, .ref (ad t)), (1, .int x1)]) hx hb dX2_mostTwosWithin_9 rfl hl (by decide) rfl (fun ls hl => ?_)
  refine lv_iload_n hx hb dX2_mostTwosWithin_10 rfl (lv_at hl 2 rfl) ?_
  refine lv_iconst (v := (1 : Int32)) hx hb dX2_mostTwosWithin_11 (by decide) ?_
  refine lv_iload_n hx hb dX2_mostTwosWithin_12 rfl (lv_at hl 0 rfl) ?_
  refine lv_ishl hx hb dX2_mostTwosWithin_13 ?_
  refine lv_iconst (v := (-1 : Int32)) hx hb dX2_mostTwosWithin_14 (by decide) ?_
  refine lv_ixor hx hb dX2_mostTwosWithin_15 ?_
  refine lv_iand hx hb dX2_mostTwosWithin_16 ?_
  refine lv_topi (fun x3_17 ev => ?_)
  replace h := s_let_inv h x3_17 ev
  refine lv_istore_n (lv' := [(3, .int x3_17), (2, .int v6), (0, .ref (ad t)), (1, .int x1)]) hx hb dX2_mostTwosWithin_17 rfl hl (by decide) rfl (fun ls hl => ?_)
  refine lv_aload_n hx hb dX2_mostTwosWithin_18 rfl (lv_at hl 2 rfl) ?_
  refine me_getr (ci := 2) (C := RX2) (T := TX2) (N := 3) hx hb hts in_X2_mostTwosWithin_X2 hown hK hP hT.1 rfl 1 (by decide) (hts _ kX2_mostTwosWithin_f15) rfl dX2_mostTwosWithin_19 ?_
  refine lv_iload_n hx hb dX2_mostTwosWithin_22 rfl (lv_at hl 0 rfl) ?_
  obtain ⟨hi, h⟩ := s_ald_inv h
  refine me_ald hx hb hK hP hT.2.2 hi dX2_mostTwosWithin_23 (fun v23 ev => ?_)
  replace h := h v23 ev
  refine lv_istore (lv' := [(4, .int v23), (3, .int x3_17), (2, .int v6), (0, .ref (ad t)), (1, .int x1)]) hx hb dX2_mostTwosWithin_24 hl (by decide) rfl (fun ls hl => ?_)
  refine lv_iload_n hx hb dX2_mostTwosWithin_26 rfl (lv_at hl 2 rfl) ?_
  refine lv_iconst (v := (1 : Int32)) hx hb dX2_mostTwosWithin_27 (by decide) ?_
  refine lv_iadd hx hb dX2_mostTwosWithin_28 ?_
  refine lv_topi (fun x5_29 ev => ?_)
  replace h := s_let_inv h x5_29 ev
  refine lv_istore (lv' := [(5, .int x5_29), (4, .int v23), (3, .int x3_17), (2, .int v6), (0, .ref (ad t)), (1, .int x1)]) hx hb dX2_mostTwosWithin_29 hl (by decide) rfl (fun ls hl => ?_)
  exact w_X2_mostTwosWithin_31 C0 t hT v6 x3_17 FU v23 x5_29 M6 h H locs ls hP hS (lv_sub hl [4, 3, 2, 1, 0] rfl)
theorem c_X2_mostTwosWithin {l : Launch} {D : va_G} {cI : ClassId} {ad : Nat → Nat} {L : List CDs} {t : Nat} (hT : is_X2 L t) {x1 : Int32} {M M' : Mem} {r : Int32} (h : X2_mostTwosWithin t x1 M = some (r, M')) : me_Met l yX2_mostTwosWithin wsX2_mostTwosWithin rmX2_mostTwosWithin D cI ad L [.ref (ad t), .int x1] (some (.int r)) M M' :=
  me_ofW (by decide) rfl (Nat.le_of_ble_eq_true rfl) (fun p e s m below meth c C0 => w_X2_mostTwosWithin C0 t hT x1 M h)
abbrev rmX2_mostTwos : Room := { frames := 2, cells := 0, slots := 0, locals := 46 }
theorem kX2_mostTwos_f15 : (Cond.fieldLink RX2 15 "LadderOfBows$Links" "twosWithin" "[I") ∈ wsX2_mostTwos := List.mem_of_getElem? (i := 1) rfl
theorem kX2_mostTwos_f24 : (Cond.fieldLink RX2 24 "LadderOfBows$Links" "persons" "I") ∈ wsX2_mostTwos := List.mem_of_getElem? (i := 2) rfl
theorem in_X2_mostTwos_X2 : ∀ w ∈ wsX20, w ∈ wsX2_mostTwos := by decide +kernel
theorem hd_X2_mostTwos : yX2_mostTwos.cls = RX2 ∧ yX2_mostTwos.cls ≠ "java/lang/invoke/MethodHandle" ∧ yX2_mostTwos.cls ≠ "java/lang/invoke/VarHandle" ∧ (parseMethodDescriptor yX2_mostTwos.desc).map (fun d => d.parameters.length) = some 0 := by decide +kernel
set_option maxRecDepth 100000 in
set_option maxHeartbeats 4000000 in
theorem w_X2_mostTwos_16 {p : Program} {l : Launch} {e : Env} {s : State} {m : MethodId} {args : Array Value} {below : List Frame} {meth : Method} {c : Code} {D : va_G} {cI : ClassId} {ad : Nat → Nat} {L : List CDs} {r : Int32} {M' : Mem} (C0 : me_X p s m args meth c cX2_mostTwos 3 (some .int) wsX2_mostTwos RX2 D cI ad L) (t : Nat) (hT : is_X2 L t) (x1 : Int32) : ∀ (n : Nat) (x2 : Int32) (M : Mem), X2_mostTwos_16 t x1 n x2 M = some (r, M') → me_W p l e rmX2_mostTwos s m args below meth c D cI ad L (some (.int r)) M' 3 16 [(0, .ref (ad t)), (1, .int x1), (2, .int x2)] [] M := by
  obtain ⟨hx, hb, hr, hml, hown, hts, hlk, hK, hI⟩ := id C0
  intro n
  induction n with
  | zero =>
    intro x2 M h
    rw [X2_mostTwos_16] at h
    cases h
  | succ n ih =>
    intro x2 M h
    rw [X2_mostTwos_16] at h
    intro H locs ls hP hS hl
    refine lv_iload_n hx hb dX2_mostTwos_16 rfl (lv_at hl 2 rfl) ?_
    refine lv_iload_n hx hb dX2_mostTwos_17 rfl (lv_at hl 1 rfl) ?_
    refine lv_icmp_ge (tgt := 38) hx hb dX2_mostTwos_18 (by decide) (fun q => ?_) (fun q => ?_)
    · rw [if_pos q] at h
      refine lv_aload_n hx hb dX2_mostTwos_38 rfl (lv_at hl 0 rfl) ?_
      refine me_getr (ci := 2) (C := RX2) (T := TX2) (N := 3) hx hb hts in_X2_mostTwos_X2 hown hK hP hT.1 rfl 1 (by decide) (hts _ kX2_mostTwos_f15) rfl dX2_mostTwos_39 ?_
      refine lv_iload_n hx hb dX2_mostTwos_42 rfl (lv_at hl 1 rfl) ?_
      refine lv_iconst (v := (1 : Int32)) hx hb dX2_mostTwos_43 (by decide) ?_
      refine lv_isub hx hb dX2_mostTwos_44 ?_
      obtain ⟨hi, h⟩ := s_ald_inv h
      refine me_ald hx hb hK hP hT.2.2 hi dX2_mostTwos_45 (fun v45 ev => ?_)
      replace h := h v45 ev
      exact me_iret hx hb hr hlk hP hS h dX2_mostTwos_46
    · rw [if_neg q] at h
      refine lv_aload_n hx hb dX2_mostTwos_21 rfl (lv_at hl 0 rfl) ?_
      refine me_getr (ci := 2) (C := RX2) (T := TX2) (N := 3) hx hb hts in_X2_mostTwos_X2 hown hK hP hT.1 rfl 1 (by decide) (hts _ kX2_mostTwos_f15) rfl dX2_mostTwos_22 ?_
      refine lv_iload_n hx hb dX2_mostTwos_25 rfl (lv_at hl 2 rfl) ?_
      refine lv_aload_n hx hb dX2_mostTwos_26 rfl (lv_at hl 0 rfl) ?_
      refine lv_iload_n hx hb dX2_mostTwos_27 rfl (lv_at hl 2 rfl) ?_
      obtain ⟨v28, M28, h1, h⟩ := s_call_inv h
      refine me_callVi (As := [.int x2]) (rest := [.int x2, .ref (ad (t + 2))]) ⟨hx, hb, hml, hown, hts⟩ (c_X2_mostTwosWithin hT h1) (cwV 1 hts gX2_mostTwos_X2_mostTwosWithin rfl rfl rfl hd_X2_mostTwosWithin ⟨(Nat.le_of_ble_eq_true rfl), (Nat.le_of_ble_eq_true rfl)⟩) hK hI hP hS hT.1 rfl rfl hl.1 rfl (Nat.le_of_ble_eq_true rfl) dX2_mostTwos_28 ⟨Nat.zero_le _, Nat.zero_le _⟩ (fun H locs hP hS => ?_)
      obtain ⟨hi, h⟩ := s_ast_inv h
      refine me_ast hx hb hK hI hP hS hT.2.2 hi dX2_mostTwos_31 (fun H locs M31 eM hP hS => ?_)
      replace h := h M31 eM
      refine lv_iinc (k := 2) (v := (x2 + (1 : Int32))) (lv' := [(2, .int (x2 + (1 : Int32))), (0, .ref (ad t)), (1, .int x1)]) hx hb dX2_mostTwos_32 hl rfl rfl (by decide) rfl (fun ls hl => ?_)
      refine lv_goto (tgt := 16) hx hb dX2_mostTwos_35 (by decide) ?_
      exact ih (x2 + (1 : Int32)) M31 h H locs ls hP hS (lv_sub hl [1, 2, 0] rfl)
set_option maxRecDepth 100000 in
set_option maxHeartbeats 4000000 in
theorem w_X2_mostTwos {p : Program} {l : Launch} {e : Env} {s : State} {m : MethodId} {args : Array Value} {below : List Frame} {meth : Method} {c : Code} {D : va_G} {cI : ClassId} {ad : Nat → Nat} {L : List CDs} {r : Int32} {M' : Mem} (C0 : me_X p s m args meth c cX2_mostTwos 3 (some .int) wsX2_mostTwos RX2 D cI ad L) (t : Nat) (hT : is_X2 L t) : ∀  (M : Mem), X2_mostTwos t M = some (r, M') → me_W p l e rmX2_mostTwos s m args below meth c D cI ad L (some (.int r)) M' 3 0 [(0, .ref (ad t))] [] M := by
  obtain ⟨hx, hb, hr, hml, hown, hts, hlk, hK, hI⟩ := id C0
  intro M h
  unfold X2_mostTwos at h
  intro H locs ls hP hS hl
  refine lv_aload_n hx hb dX2_mostTwos_0 rfl (lv_at hl 0 rfl) ?_
  refine me_getr (ci := 2) (C := RX2) (T := TX2) (N := 3) hx hb hts in_X2_mostTwos_X2 hown hK hP hT.1 rfl 1 (by decide) (hts _ kX2_mostTwos_f15) rfl dX2_mostTwos_1 ?_
  refine lv_iconst (v := (0 : Int32)) hx hb dX2_mostTwos_4 (by decide) ?_
  refine lv_iconst (v := (0 : Int32)) hx hb dX2_mostTwos_5 (by decide) ?_
  obtain ⟨hi, h⟩ := s_ast_inv h
  refine me_ast hx hb hK hI hP hS hT.2.2 hi dX2_mostTwos_6 (fun H locs M6 eM hP hS => ?_)
  replace h := h M6 eM
  refine lv_iconst (v := (1 : Int32)) hx hb dX2_mostTwos_7 (by decide) ?_
  refine lv_aload_n hx hb dX2_mostTwos_8 rfl (lv_at hl 0 rfl) ?_
  refine me_get (ci := 2) (C := RX2) (T := TX2) (N := 3) hx hb hts in_X2_mostTwos_X2 hown hK hP hT.1 rfl 2 (by decide) (hts _ kX2_mostTwos_f24) rfl dX2_mostTwos_9 ?_
  refine lv_ishl hx hb dX2_mostTwos_12 ?_
  refine lv_topi (fun x1_13 ev => ?_)
  replace h := s_let_inv h x1_13 ev
  refine lv_istore_n (lv' := [(1, .int x1_13), (0, .ref (ad t))]) hx hb dX2_mostTwos_13 rfl hl (by decide) rfl (fun ls hl => ?_)
  refine lv_iconst (v := (1 : Int32)) hx hb dX2_mostTwos_14 (by decide) ?_
  refine lv_istore_n (lv' := [(2, .int (1 : Int32)), (1, .int x1_13), (0, .ref (ad t))]) hx hb dX2_mostTwos_15 rfl hl (by decide) rfl (fun ls hl => ?_)
  exact w_X2_mostTwos_16 C0 t hT x1_13 FU (1 : Int32) M6 h H locs ls hP hS (lv_sub hl [2, 1, 0] rfl)
theorem c_X2_mostTwos {l : Launch} {D : va_G} {cI : ClassId} {ad : Nat → Nat} {L : List CDs} {t : Nat} (hT : is_X2 L t)  {M M' : Mem} {r : Int32} (h : X2_mostTwos t M = some (r, M')) : me_Met l yX2_mostTwos wsX2_mostTwos rmX2_mostTwos D cI ad L [.ref (ad t)] (some (.int r)) M M' :=
  me_ofW (by decide) rfl (Nat.le_of_ble_eq_true rfl) (fun p e s m below meth c C0 => w_X2_mostTwos C0 t hT M h)
abbrev rmX4_clear : Room := { frames := 1, cells := 0, slots := 0, locals := 23 }
theorem kX4_clear_f24 : (Cond.fieldLink RX4 24 "LadderOfBows$Town" "persons" "I") ∈ wsX4_clear := List.mem_of_getElem? (i := 1) rfl
theorem kX4_clear_f28 : (Cond.fieldLink RX4 28 "LadderOfBows$Town" "day" "I") ∈ wsX4_clear := List.mem_of_getElem? (i := 2) rfl
theorem kX4_clear_f31 : (Cond.fieldLink RX4 31 "LadderOfBows$Town" "easterDay" "I") ∈ wsX4_clear := List.mem_of_getElem? (i := 3) rfl
theorem kX4_clear_f34 : (Cond.fieldLink RX4 34 "LadderOfBows$Town" "aliveBits" "I") ∈ wsX4_clear := List.mem_of_getElem? (i := 4) rfl
theorem kX4_clear_f18 : (Cond.fieldLink RX4 18 "LadderOfBows$Town" "debts" "[I") ∈ wsX4_clear := List.mem_of_getElem? (i := 5) rfl
theorem kX4_clear_f21 : (Cond.fieldLink RX4 21 "LadderOfBows$Town" "owing" "[I") ∈ wsX4_clear := List.mem_of_getElem? (i := 6) rfl
theorem in_X4_clear_X4 : ∀ w ∈ wsX40, w ∈ wsX4_clear := by decide +kernel
theorem hd_X4_clear : yX4_clear.cls = RX4 ∧ yX4_clear.cls ≠ "java/lang/invoke/MethodHandle" ∧ yX4_clear.cls ≠ "java/lang/invoke/VarHandle" ∧ (parseMethodDescriptor yX4_clear.desc).map (fun d => d.parameters.length) = some 0 := by decide +kernel
set_option maxRecDepth 100000 in
set_option maxHeartbeats 4000000 in
theorem w_X4_clear {p : Program} {l : Launch} {e : Env} {s : State} {m : MethodId} {args : Array Value} {below : List Frame} {meth : Method} {c : Code} {D : va_G} {cI : ClassId} {ad : Nat → Nat} {L : List CDs} {r : Unit} {M' : Mem} (C0 : me_X p s m args meth c cX4_clear 1 none wsX4_clear RX4 D cI ad L) (t : Nat) (hT : is_X4 L t) : ∀  (M : Mem), X4_clear t M = some (r, M') → me_W p l e rmX4_clear s m args below meth c D cI ad L none M' 1 0 [(0, .ref (ad t))] [] M := by
  obtain ⟨hx, hb, hr, hml, hown, hts, hlk, hK, hI⟩ := id C0
  intro M h
  unfold X4_clear at h
  intro H locs ls hP hS hl
  refine lv_aload_n hx hb dX4_clear_0 rfl (lv_at hl 0 rfl) ?_
  refine lv_iconst (v := (0 : Int32)) hx hb dX4_clear_1 (by decide) ?_
  refine me_put (ci := 4) (C := RX4) (T := TX4) (N := 8) hx hb hts in_X4_clear_X4 tyX4_ok nmX4 hown hK hI hP hS hT.1 rfl 0 (by decide) (hts _ kX4_clear_f24) rfl rfl rfl dX4_clear_2 (fun H locs M2 eM hP hS => ?_)
  replace h := s_put_inv h M2 eM
  refine lv_aload_n hx hb dX4_clear_5 rfl (lv_at hl 0 rfl) ?_
  refine lv_iconst (v := (0 : Int32)) hx hb dX4_clear_6 (by decide) ?_
  refine me_put (ci := 4) (C := RX4) (T := TX4) (N := 8) hx hb hts in_X4_clear_X4 tyX4_ok nmX4 hown hK hI hP hS hT.1 rfl 1 (by decide) (hts _ kX4_clear_f28) rfl rfl rfl dX4_clear_7 (fun H locs M7 eM hP hS => ?_)
  replace h := s_put_inv h M7 eM
  refine lv_aload_n hx hb dX4_clear_10 rfl (lv_at hl 0 rfl) ?_
  refine lv_bipush (v := (40 : Int32)) hx hb dX4_clear_11 (by decide) ?_
  refine me_put (ci := 4) (C := RX4) (T := TX4) (N := 8) hx hb hts in_X4_clear_X4 tyX4_ok nmX4 hown hK hI hP hS hT.1 rfl 2 (by decide) (hts _ kX4_clear_f31) rfl rfl rfl dX4_clear_13 (fun H locs M13 eM hP hS => ?_)
  replace h := s_put_inv h M13 eM
  refine lv_aload_n hx hb dX4_clear_16 rfl (lv_at hl 0 rfl) ?_
  refine lv_iconst (v := (0 : Int32)) hx hb dX4_clear_17 (by decide) ?_
  refine me_put (ci := 4) (C := RX4) (T := TX4) (N := 8) hx hb hts in_X4_clear_X4 tyX4_ok nmX4 hown hK hI hP hS hT.1 rfl 3 (by decide) (hts _ kX4_clear_f34) rfl rfl rfl dX4_clear_18 (fun H locs M18 eM hP hS => ?_)
  replace h := s_put_inv h M18 eM
  refine lv_aload_n hx hb dX4_clear_21 rfl (lv_at hl 0 rfl) ?_
  refine me_getr (ci := 4) (C := RX4) (T := TX4) (N := 8) hx hb hts in_X4_clear_X4 hown hK hP hT.1 rfl 6 (by decide) (hts _ kX4_clear_f18) rfl dX4_clear_22 ?_
  refine lv_iconst (v := (0 : Int32)) hx hb dX4_clear_25 (by decide) ?_
  obtain ⟨u26, M26, h1, h⟩ := s_call_inv h
  refine me_callSv (As := [.ref (ad (t + 3)), .int (0 : Int32)]) (rest := []) ⟨hx, hb, hml, hown, hts⟩ (c_J7_fill_53178 hT.2.2.2.1 h1) (va_cwS 2 hts gX4_clear_J7_fill_53178 rfl rfl rfl hd_J7_fill_53178.2 ⟨(Nat.le_of_ble_eq_true rfl), (Nat.le_of_ble_eq_true rfl)⟩) hK hI hP hS rfl hl.1 rfl (Nat.le_of_ble_eq_true rfl) dX4_clear_26 ⟨Nat.zero_le _, Nat.zero_le _⟩ (fun H locs hP hS => ?_)
  refine lv_aload_n hx hb dX4_clear_29 rfl (lv_at hl 0 rfl) ?_
  refine me_getr (ci := 4) (C := RX4) (T := TX4) (N := 8) hx hb hts in_X4_clear_X4 hown hK hP hT.1 rfl 7 (by decide) (hts _ kX4_clear_f21) rfl dX4_clear_30 ?_
  refine lv_iconst (v := (0 : Int32)) hx hb dX4_clear_33 (by decide) ?_
  obtain ⟨u34, M34, h1, h⟩ := s_call_inv h
  refine me_callSv (As := [.ref (ad (t + 4)), .int (0 : Int32)]) (rest := []) ⟨hx, hb, hml, hown, hts⟩ (c_J7_fill_53178 hT.2.2.2.2 h1) (va_cwS 2 hts gX4_clear_J7_fill_53178 rfl rfl rfl hd_J7_fill_53178.2 ⟨(Nat.le_of_ble_eq_true rfl), (Nat.le_of_ble_eq_true rfl)⟩) hK hI hP hS rfl hl.1 rfl (Nat.le_of_ble_eq_true rfl) dX4_clear_34 ⟨Nat.zero_le _, Nat.zero_le _⟩ (fun H locs hP hS => ?_)
  exact me_vret hx hb hr hlk hP hS h dX4_clear_37
theorem c_X4_clear {l : Launch} {D : va_G} {cI : ClassId} {ad : Nat → Nat} {L : List CDs} {t : Nat} (hT : is_X4 L t)  {M M' : Mem} {r : Unit} (h : X4_clear t M = some (r, M')) : me_Met l yX4_clear wsX4_clear rmX4_clear D cI ad L [.ref (ad t)] none M M' :=
  me_ofW (by decide) rfl (Nat.le_of_ble_eq_true rfl) (fun p e s m below meth c C0 => w_X4_clear C0 t hT M h)
abbrev rmX3_numbersBehind : Room := { frames := 0, cells := 0, slots := 0, locals := 0 }
theorem hd_X3_numbersBehind : yX3_numbersBehind.cls = RX3 ∧ yX3_numbersBehind.cls ≠ "java/lang/invoke/MethodHandle" ∧ yX3_numbersBehind.cls ≠ "java/lang/invoke/VarHandle" ∧ (parseMethodDescriptor yX3_numbersBehind.desc).map (fun d => d.parameters.length) = some 1 := by decide +kernel
set_option maxRecDepth 100000 in
set_option maxHeartbeats 4000000 in
theorem w_X3_numbersBehind {p : Program} {l : Launch} {e : Env} {s : State} {m : MethodId} {args : Array Value} {below : List Frame} {meth : Method} {c : Code} {D : va_G} {cI : ClassId} {ad : Nat → Nat} {L : List CDs} {r : Int32} {M' : Mem} (C0 : me_X p s m args meth c cX3_numbersBehind 1 (some .int) wsX3_numbersBehind RX3 D cI ad L)  (x0 : Int32) : ∀  (M : Mem), X3_numbersBehind x0 M = some (r, M') → me_W p l e rmX3_numbersBehind s m args below meth c D cI ad L (some (.int r)) M' 1 0 [(0, .int x0)] [] M := by
  obtain ⟨hx, hb, hr, hml, hown, hts, hlk, hK, hI⟩ := id C0
  intro M h
  unfold X3_numbersBehind at h
  intro H locs ls hP hS hl
  refine lv_iload_n hx hb dX3_numbersBehind_0 rfl (lv_at hl 0 rfl) ?_
  by_cases q0 : x0 = (101 : Int32)
  · rw [if_pos q0] at h
    refine lv_lookup (tgt := 40) (off := 39) hx hb dX3_numbersBehind_1 (by decide) (by rw [q0]; rfl) (by decide) ?_
    refine lv_iconst (v := (1 : Int32)) hx hb dX3_numbersBehind_40 (by decide) ?_
    exact me_iret hx hb hr hlk hP hS h dX3_numbersBehind_41
  rw [if_neg q0] at h
  by_cases q1 : x0 = (111 : Int32)
  · rw [if_pos q1] at h
    refine lv_lookup (tgt := 38) (off := 37) hx hb dX3_numbersBehind_1 (by decide) (by rw [q1]; rfl) (by decide) ?_
    refine lv_iconst (v := (3 : Int32)) hx hb dX3_numbersBehind_38 (by decide) ?_
    exact me_iret hx hb hr hlk hP hS h dX3_numbersBehind_39
  rw [if_neg q1] at h
  by_cases q2 : x0 = (112 : Int32)
  · rw [if_pos q2] at h
    refine lv_lookup (tgt := 36) (off := 35) hx hb dX3_numbersBehind_1 (by decide) (by rw [q2]; rfl) (by decide) ?_
    refine lv_iconst (v := (2 : Int32)) hx hb dX3_numbersBehind_36 (by decide) ?_
    exact me_iret hx hb hr hlk hP hS h dX3_numbersBehind_37
  rw [if_neg q2] at h
  refine lv_lookup (tgt := 42) (off := 41) hx hb dX3_numbersBehind_1 (by decide) ((lv_osw q0 (by decide)).trans ((lv_osw q1 (by decide)).trans ((lv_osw q2 (by decide)).trans rfl))) (by decide) ?_
  refine lv_iconst (v := (0 : Int32)) hx hb dX3_numbersBehind_42 (by decide) ?_
  exact me_iret hx hb hr hlk hP hS h dX3_numbersBehind_43
theorem c_X3_numbersBehind {l : Launch} {D : va_G} {cI : ClassId} {ad : Nat → Nat} {L : List CDs}  {x0 : Int32} {M M' : Mem} {r : Int32} (h : X3_numbersBehind x0 M = some (r, M')) : me_Met l yX3_numbersBehind wsX3_numbersBehind rmX3_numbersBehind D cI ad L [.int x0] (some (.int r)) M M' :=
  me_ofW (by decide) rfl (Nat.le_of_ble_eq_true rfl) (fun p e s m below meth c C0 => w_X3_numbersBehind C0 x0 M h)
abbrev rmX3_readNumbers : Room := { frames := 2, cells := 0, slots := 0, locals := 43 }
theorem kX3_readNumbers_f11 : (Cond.fieldLink RX3 11 "LadderOfBows$Reader" "numbers" "[I") ∈ wsX3_readNumbers := List.mem_of_getElem? (i := 1) rfl
theorem in_X3_readNumbers_X3 : ∀ w ∈ wsX30, w ∈ wsX3_readNumbers := by decide +kernel
theorem hd_X3_readNumbers : yX3_readNumbers.cls = RX3 ∧ yX3_readNumbers.cls ≠ "java/lang/invoke/MethodHandle" ∧ yX3_readNumbers.cls ≠ "java/lang/invoke/VarHandle" ∧ (parseMethodDescriptor yX3_readNumbers.desc).map (fun d => d.parameters.length) = some 3 := by decide +kernel
set_option maxRecDepth 100000 in
set_option maxHeartbeats 4000000 in
theorem w_X3_readNumbers_67 {p : Program} {l : Launch} {e : Env} {s : State} {m : MethodId} {args : Array Value} {below : List Frame} {meth : Method} {c : Code} {D : va_G} {cI : ClassId} {ad : Nat → Nat} {L : List CDs} {r : Int32} {M' : Mem} (C0 : me_X p s m args meth c cX3_readNumbers 10 (some .int) wsX3_readNumbers RX3 D cI ad L) (t : Nat) (hT : is_X3 L t) (t1 : Nat) (hT1 : is_X1 L t1) (x3 : Int32) (x5 : Int32) (x6 : Int32) (x7 : Int32) (x8 : Int32) (k6 : Int32 → Int32 → Mem → Option (Int32 × Mem)) (hk6 : ∀ (x4 : Int32) (x5 : Int32) (M : Mem), k6 x4 x5 M = some (r, M') → me_W p l e rmX3_readNumbers s m args below meth c D cI ad L (some (.int r)) M' 10 6 [(0, .ref (ad t)), (1, .ref (ad t1)), (3, .int x3), (4, .int x4), (5, .int x5)] [] M) : ∀ (y0 : Int32) (M : Mem), X3_readNumbers_67 t t1 x3 x5 x6 x7 x8 k6 y0 M = some (r, M') → me_W p l e rmX3_readNumbers s m args below meth c D cI ad L (some (.int r)) M' 10 67 [(0, .ref (ad t)), (1, .ref (ad t1)), (3, .int x3), (5, .int x5), (6, .int x6), (7, .int x7), (8, .int x8)] [.int y0] M := by
  obtain ⟨hx, hb, hr, hml, hown, hts, hlk, hK, hI⟩ := id C0
  intro y0 M h
  unfold X3_readNumbers_67 at h
  intro H locs ls hP hS hl
  refine lv_istore (lv' := [(9, .int y0), (0, .ref (ad t)), (1, .ref (ad t1)), (3, .int x3), (5, .int x5), (6, .int x6), (7, .int x7), (8, .int x8)]) hx hb dX3_readNumbers_67 hl (by decide) rfl (fun ls hl => ?_)
  refine lv_iload hx hb dX3_readNumbers_69 (lv_at hl 5 rfl) ?_
  refine lv_iconst (v := (-1 : Int32)) hx hb dX3_readNumbers_71 (by decide) ?_
  refine lv_icmp_eq (tgt := 86) hx hb dX3_readNumbers_72 (by decide) (fun q => ?_) (fun q => ?_)
  · rw [if_pos q] at h
    refine lv_iconst (v := (-1 : Int32)) hx hb dX3_readNumbers_86 (by decide) ?_
    exact me_iret hx hb hr hlk hP hS h dX3_readNumbers_87
  · rw [if_neg q] at h
    refine lv_aload_n hx hb dX3_readNumbers_75 rfl (lv_at hl 2 rfl) ?_
    refine lv_iload hx hb dX3_readNumbers_76 (lv_at hl 7 rfl) ?_
    obtain ⟨v78, M78, h1, h⟩ := s_call_inv h
    refine me_callVi (As := [.int x8]) (rest := []) ⟨hx, hb, hml, hown, hts⟩ (c_X1_at hT1 h1) (cwV 1 hts gX3_readNumbers_X1_at rfl rfl rfl hd_X1_at ⟨(Nat.le_of_ble_eq_true rfl), (Nat.le_of_ble_eq_true rfl)⟩) hK hI hP hS hT1.1 rfl rfl hl.1 rfl (Nat.le_of_ble_eq_true rfl) dX3_readNumbers_78 ⟨Nat.zero_le _, Nat.zero_le _⟩ (fun H locs hP hS => ?_)
    refine lv_iload hx hb dX3_readNumbers_81 (lv_at hl 0 rfl) ?_
    refine lv_icmp_eq (tgt := 88) hx hb dX3_readNumbers_83 (by decide) (fun q => ?_) (fun q => ?_)
    · rw [if_pos q] at h
      refine lv_aload_n hx hb dX3_readNumbers_88 rfl (lv_at hl 1 rfl) ?_
      refine me_getr (ci := 3) (C := RX3) (T := TX3) (N := 1) hx hb hts in_X3_readNumbers_X3 hown hK hP hT.1 rfl 0 (by decide) (hts _ kX3_readNumbers_f11) rfl dX3_readNumbers_89 ?_
      refine lv_iload hx hb dX3_readNumbers_92 (lv_at hl 4 rfl) ?_
      refine lv_iload hx hb dX3_readNumbers_94 (lv_at hl 6 rfl) ?_
      refine lv_iconst (v := (-1 : Int32)) hx hb dX3_readNumbers_96 (by decide) ?_
      refine lv_icmp_ne (tgt := 105) hx hb dX3_readNumbers_97 (by decide) (fun q => ?_) (fun q => ?_)
      · rw [if_pos q] at h
        refine lv_bipush (v := (10 : Int32)) hx hb dX3_readNumbers_105 (by decide) ?_
        refine lv_iload hx hb dX3_readNumbers_107 (lv_at hl 5 rfl) ?_
        refine lv_imul hx hb dX3_readNumbers_109 ?_
        refine lv_iload hx hb dX3_readNumbers_110 (lv_at hl 6 rfl) ?_
        refine lv_iadd hx hb dX3_readNumbers_112 ?_
        obtain ⟨hi, h⟩ := s_ast_inv h
        refine me_ast hx hb hK hI hP hS hT.2 hi dX3_readNumbers_113 (fun H locs M113 eM hP hS => ?_)
        replace h := h M113 eM
        refine lv_iload hx hb dX3_readNumbers_114 (lv_at hl 7 rfl) ?_
        refine lv_iconst (v := (1 : Int32)) hx hb dX3_readNumbers_116 (by decide) ?_
        refine lv_iadd hx hb dX3_readNumbers_117 ?_
        refine lv_topi (fun x4_118 ev => ?_)
        replace h := s_let_inv h x4_118 ev
        refine lv_istore (lv' := [(4, .int x4_118), (9, .int y0), (0, .ref (ad t)), (1, .ref (ad t1)), (3, .int x3), (5, .int x5), (6, .int x6), (7, .int x7), (8, .int x8)]) hx hb dX3_readNumbers_118 hl (by decide) rfl (fun ls hl => ?_)
        refine lv_iinc (k := 5) (v := (x5 + (1 : Int32))) (lv' := [(5, .int (x5 + (1 : Int32))), (4, .int x4_118), (9, .int y0), (0, .ref (ad t)), (1, .ref (ad t1)), (3, .int x3), (6, .int x6), (7, .int x7), (8, .int x8)]) hx hb dX3_readNumbers_120 hl rfl rfl (by decide) rfl (fun ls hl => ?_)
        refine lv_goto (tgt := 6) hx hb dX3_readNumbers_123 (by decide) ?_
        exact hk6 x4_118 (x5 + (1 : Int32)) M113 h H locs ls hP hS (lv_sub hl [3, 4, 5, 1, 0] rfl)
      · rw [if_neg (not_not_intro q)] at h
        refine lv_iload hx hb dX3_readNumbers_100 (lv_at hl 5 rfl) ?_
        refine lv_goto (tgt := 113) hx hb dX3_readNumbers_102 (by decide) ?_
        obtain ⟨hi, h⟩ := s_ast_inv h
        refine me_ast hx hb hK hI hP hS hT.2 hi dX3_readNumbers_113 (fun H locs M113 eM hP hS => ?_)
        replace h := h M113 eM
        refine lv_iload hx hb dX3_readNumbers_114 (lv_at hl 7 rfl) ?_
        refine lv_iconst (v := (1 : Int32)) hx hb dX3_readNumbers_116 (by decide) ?_
        refine lv_iadd hx hb dX3_readNumbers_117 ?_
        refine lv_topi (fun x4_118 ev => ?_)
        replace h := s_let_inv h x4_118 ev
        refine lv_istore (lv' := [(4, .int x4_118), (9, .int y0), (0, .ref (ad t)), (1, .ref (ad t1)), (3, .int x3), (5, .int x5), (6, .int x6), (7, .int x7), (8, .int x8)]) hx hb dX3_readNumbers_118 hl (by decide) rfl (fun ls hl => ?_)
        refine lv_iinc (k := 5) (v := (x5 + (1 : Int32))) (lv' := [(5, .int (x5 + (1 : Int32))), (4, .int x4_118), (9, .int y0), (0, .ref (ad t)), (1, .ref (ad t1)), (3, .int x3), (6, .int x6), (7, .int x7), (8, .int x8)]) hx hb dX3_readNumbers_120 hl rfl rfl (by decide) rfl (fun ls hl => ?_)
        refine lv_goto (tgt := 6) hx hb dX3_readNumbers_123 (by decide) ?_
        exact hk6 x4_118 (x5 + (1 : Int32)) M113 h H locs ls hP hS (lv_sub hl [3, 4, 5, 1, 0] rfl)
    · rw [if_neg q] at h
      refine lv_iconst (v := (-1 : Int32)) hx hb dX3_readNumbers_86 (by decide) ?_
      exact me_iret hx hb hr hlk hP hS h dX3_readNumbers_87
set_option maxRecDepth 100000 in
set_option maxHeartbeats 4000000 in
theorem w_X3_readNumbers_6 {p : Program} {l : Launch} {e : Env} {s : State} {m : MethodId} {args : Array Value} {below : List Frame} {meth : Method} {c : Code} {D : va_G} {cI : ClassId} {ad : Nat → Nat} {L : List CDs} {r : Int32} {M' : Mem} (C0 : me_X p s m args meth c cX3_readNumbers 10 (some .int) wsX3_readNumbers RX3 D cI ad L) (t : Nat) (hT : is_X3 L t) (t1 : Nat) (hT1 : is_X1 L t1) (x3 : Int32) : ∀ (n : Nat) (x4 : Int32) (x5 : Int32) (M : Mem), X3_readNumbers_6 t t1 x3 n x4 x5 M = some (r, M') → me_W p l e rmX3_readNumbers s m args below meth c D cI ad L (some (.int r)) M' 10 6 [(0, .ref (ad t)), (1, .ref (ad t1)), (3, .int x3), (4, .int x4), (5, .int x5)] [] M := by
  obtain ⟨hx, hb, hr, hml, hown, hts, hlk, hK, hI⟩ := id C0
  intro n
  induction n with
  | zero =>
    intro x4 x5 M h
    rw [X3_readNumbers_6] at h
    cases h
  | succ n ih =>
    intro x4 x5 M h
    rw [X3_readNumbers_6] at h
    intro H locs ls hP hS hl
    refine lv_iload hx hb dX3_readNumbers_6 (lv_at hl 4 rfl) ?_
    refine lv_iload_n hx hb dX3_readNumbers_8 rfl (lv_at hl 2 rfl) ?_
    refine lv_icmp_ge (tgt := 126) hx hb dX3_readNumbers_9 (by decide) (fun q => ?_) (fun q => ?_)
    · rw [if_pos q] at h
      refine lv_iload_n hx hb dX3_readNumbers_126 rfl (lv_at hl 2 rfl) ?_
      refine lv_if_le (tgt := 135) hx hb dX3_readNumbers_127 (by decide) (fun q => ?_) (fun q => ?_)
      · rw [if_pos q] at h
        refine lv_iconst (v := (-1 : Int32)) hx hb dX3_readNumbers_135 (by decide) ?_
        exact me_iret hx hb hr hlk hP hS h dX3_readNumbers_136
      · rw [if_neg q] at h
        refine lv_iload hx hb dX3_readNumbers_130 (lv_at hl 3 rfl) ?_
        refine lv_goto (tgt := 136) hx hb dX3_readNumbers_132 (by decide) ?_
        exact me_iret hx hb hr hlk hP hS h dX3_readNumbers_136
    · rw [if_neg q] at h
      refine lv_iload hx hb dX3_readNumbers_12 (lv_at hl 4 rfl) ?_
      refine lv_iconst (v := (3 : Int32)) hx hb dX3_readNumbers_14 (by decide) ?_
      refine lv_icmp_ge (tgt := 126) hx hb dX3_readNumbers_15 (by decide) (fun q => ?_) (fun q => ?_)
      · rw [if_pos q] at h
        refine lv_iload_n hx hb dX3_readNumbers_126 rfl (lv_at hl 2 rfl) ?_
        refine lv_if_le (tgt := 135) hx hb dX3_readNumbers_127 (by decide) (fun q => ?_) (fun q => ?_)
        · rw [if_pos q] at h
          refine lv_iconst (v := (-1 : Int32)) hx hb dX3_readNumbers_135 (by decide) ?_
          exact me_iret hx hb hr hlk hP hS h dX3_readNumbers_136
        · rw [if_neg q] at h
          refine lv_iload hx hb dX3_readNumbers_130 (lv_at hl 3 rfl) ?_
          refine lv_goto (tgt := 136) hx hb dX3_readNumbers_132 (by decide) ?_
          exact me_iret hx hb hr hlk hP hS h dX3_readNumbers_136
      · rw [if_neg q] at h
        refine lv_aload_n hx hb dX3_readNumbers_18 rfl (lv_at hl 1 rfl) ?_
        refine lv_iload hx hb dX3_readNumbers_19 (lv_at hl 3 rfl) ?_
        obtain ⟨v21, M21, h1, h⟩ := s_call_inv h
        refine me_callVi (As := [.int x4]) (rest := []) ⟨hx, hb, hml, hown, hts⟩ (c_X1_figureAt hT1 h1) (cwV 1 hts gX3_readNumbers_X1_figureAt rfl rfl rfl hd_X1_figureAt ⟨(Nat.le_of_ble_eq_true rfl), (Nat.le_of_ble_eq_true rfl)⟩) hK hI hP hS hT1.1 rfl rfl hl.1 rfl (Nat.le_of_ble_eq_true rfl) dX3_readNumbers_21 ⟨Nat.zero_le _, Nat.zero_le _⟩ (fun H locs hP hS => ?_)
        refine lv_istore (lv' := [(6, .int v21), (0, .ref (ad t)), (1, .ref (ad t1)), (3, .int x3), (4, .int x4), (5, .int x5)]) hx hb dX3_readNumbers_24 hl (by decide) rfl (fun ls hl => ?_)
        refine lv_aload_n hx hb dX3_readNumbers_26 rfl (lv_at hl 2 rfl) ?_
        refine lv_iload hx hb dX3_readNumbers_27 (lv_at hl 4 rfl) ?_
        refine lv_iconst (v := (1 : Int32)) hx hb dX3_readNumbers_29 (by decide) ?_
        refine lv_iadd hx hb dX3_readNumbers_30 ?_
        obtain ⟨v31, M31, h1, h⟩ := s_call_inv h
        refine me_callVi (As := [.int (x4 + (1 : Int32))]) (rest := []) ⟨hx, hb, hml, hown, hts⟩ (c_X1_figureAt hT1 h1) (cwV 1 hts gX3_readNumbers_X1_figureAt rfl rfl rfl hd_X1_figureAt ⟨(Nat.le_of_ble_eq_true rfl), (Nat.le_of_ble_eq_true rfl)⟩) hK hI hP hS hT1.1 rfl rfl hl.1 rfl (Nat.le_of_ble_eq_true rfl) dX3_readNumbers_31 ⟨Nat.zero_le _, Nat.zero_le _⟩ (fun H locs hP hS => ?_)
        refine lv_istore (lv' := [(7, .int v31), (6, .int v21), (0, .ref (ad t)), (1, .ref (ad t1)), (3, .int x3), (4, .int x4), (5, .int x5)]) hx hb dX3_readNumbers_34 hl (by decide) rfl (fun ls hl => ?_)
        refine lv_iload hx hb dX3_readNumbers_36 (lv_at hl 5 rfl) ?_
        refine lv_iload hx hb dX3_readNumbers_38 (lv_at hl 0 rfl) ?_
        refine lv_iconst (v := (-1 : Int32)) hx hb dX3_readNumbers_40 (by decide) ?_
        refine lv_icmp_ne (tgt := 48) hx hb dX3_readNumbers_41 (by decide) (fun q => ?_) (fun q => ?_)
        · rw [if_pos q] at h
          refine lv_iconst (v := (2 : Int32)) hx hb dX3_readNumbers_48 (by decide) ?_
          refine lv_iadd hx hb dX3_readNumbers_49 ?_
          refine lv_topi (fun x8_50 ev => ?_)
          replace h := s_let_inv h x8_50 ev
          refine lv_istore (lv' := [(8, .int x8_50), (7, .int v31), (6, .int v21), (0, .ref (ad t)), (1, .ref (ad t1)), (3, .int x3), (4, .int x4), (5, .int x5)]) hx hb dX3_readNumbers_50 hl (by decide) rfl (fun ls hl => ?_)
          refine lv_iload hx hb dX3_readNumbers_52 (lv_at hl 7 rfl) ?_
          refine lv_iconst (v := (1 : Int32)) hx hb dX3_readNumbers_54 (by decide) ?_
          refine lv_iadd hx hb dX3_readNumbers_55 ?_
          refine lv_iload_n hx hb dX3_readNumbers_56 rfl (lv_at hl 5 rfl) ?_
          refine lv_icmp_ge (tgt := 65) hx hb dX3_readNumbers_57 (by decide) (fun q => ?_) (fun q => ?_)
          · rw [if_pos q] at h
            refine lv_bipush (v := (59 : Int32)) hx hb dX3_readNumbers_65 (by decide) ?_
            exact w_X3_readNumbers_67 C0 t hT t1 hT1 x3 x5 v21 v31 x8_50 (X3_readNumbers_6 t t1 x3 n) (fun x4 x5 M h => ih x4 x5 M h) (59 : Int32) M31 h H locs ls hP hS (lv_sub hl [3, 4, 5, 7, 2, 1, 0] rfl)
          · rw [if_neg q] at h
            refine lv_bipush (v := (44 : Int32)) hx hb dX3_readNumbers_60 (by decide) ?_
            refine lv_goto (tgt := 67) hx hb dX3_readNumbers_62 (by decide) ?_
            exact w_X3_readNumbers_67 C0 t hT t1 hT1 x3 x5 v21 v31 x8_50 (X3_readNumbers_6 t t1 x3 n) (fun x4 x5 M h => ih x4 x5 M h) (44 : Int32) M31 h H locs ls hP hS (lv_sub hl [3, 4, 5, 7, 2, 1, 0] rfl)
        · rw [if_neg (not_not_intro q)] at h
          refine lv_iconst (v := (1 : Int32)) hx hb dX3_readNumbers_44 (by decide) ?_
          refine lv_goto (tgt := 49) hx hb dX3_readNumbers_45 (by decide) ?_
          refine lv_iadd hx hb dX3_readNumbers_49 ?_
          refine lv_topi (fun x8_50 ev => ?_)
          replace h := s_let_inv h x8_50 ev
          refine lv_istore (lv' := [(8, .int x8_50), (7, .int v31), (6, .int v21), (0, .ref (ad t)), (1, .ref (ad t1)), (3, .int x3), (4, .int x4), (5, .int x5)]) hx hb dX3_readNumbers_50 hl (by decide) rfl (fun ls hl => ?_)
          refine lv_iload hx hb dX3_readNumbers_52 (lv_at hl 7 rfl) ?_
          refine lv_iconst (v := (1 : Int32)) hx hb dX3_readNumbers_54 (by decide) ?_
          refine lv_iadd hx hb dX3_readNumbers_55 ?_
          refine lv_iload_n hx hb dX3_readNumbers_56 rfl (lv_at hl 5 rfl) ?_
          refine lv_icmp_ge (tgt := 65) hx hb dX3_readNumbers_57 (by decide) (fun q => ?_) (fun q => ?_)
          · rw [if_pos q] at h
            refine lv_bipush (v := (59 : Int32)) hx hb dX3_readNumbers_65 (by decide) ?_
            exact w_X3_readNumbers_67 C0 t hT t1 hT1 x3 x5 v21 v31 x8_50 (X3_readNumbers_6 t t1 x3 n) (fun x4 x5 M h => ih x4 x5 M h) (59 : Int32) M31 h H locs ls hP hS (lv_sub hl [3, 4, 5, 7, 2, 1, 0] rfl)
          · rw [if_neg q] at h
            refine lv_bipush (v := (44 : Int32)) hx hb dX3_readNumbers_60 (by decide) ?_
            refine lv_goto (tgt := 67) hx hb dX3_readNumbers_62 (by decide) ?_
            exact w_X3_readNumbers_67 C0 t hT t1 hT1 x3 x5 v21 v31 x8_50 (X3_readNumbers_6 t t1 x3 n) (fun x4 x5 M h => ih x4 x5 M h) (44 : Int32) M31 h H locs ls hP hS (lv_sub hl [3, 4, 5, 7, 2, 1, 0] rfl)
set_option maxRecDepth 100000 in
set_option maxHeartbeats 4000000 in
theorem w_X3_readNumbers {p : Program} {l : Launch} {e : Env} {s : State} {m : MethodId} {args : Array Value} {below : List Frame} {meth : Method} {c : Code} {D : va_G} {cI : ClassId} {ad : Nat → Nat} {L : List CDs} {r : Int32} {M' : Mem} (C0 : me_X p s m args meth c cX3_readNumbers 10 (some .int) wsX3_readNumbers RX3 D cI ad L) (t : Nat) (hT : is_X3 L t) (t1 : Nat) (hT1 : is_X1 L t1) (x2 : Int32) (x3 : Int32) : ∀  (M : Mem), X3_readNumbers t t1 x2 x3 M = some (r, M') → me_W p l e rmX3_readNumbers s m args below meth c D cI ad L (some (.int r)) M' 10 0 [(0, .ref (ad t)), (1, .ref (ad t1)), (2, .int x2), (3, .int x3)] [] M := by
  obtain ⟨hx, hb, hr, hml, hown, hts, hlk, hK, hI⟩ := id C0
  intro M h
  unfold X3_readNumbers at h
  intro H locs ls hP hS hl
  refine lv_iload_n hx hb dX3_readNumbers_0 rfl (lv_at hl 2 rfl) ?_
  refine lv_istore (lv' := [(4, .int x2), (0, .ref (ad t)), (1, .ref (ad t1)), (2, .int x2), (3, .int x3)]) hx hb dX3_readNumbers_1 hl (by decide) rfl (fun ls hl => ?_)
  refine lv_iconst (v := (0 : Int32)) hx hb dX3_readNumbers_3 (by decide) ?_
  refine lv_istore (lv' := [(5, .int (0 : Int32)), (4, .int x2), (0, .ref (ad t)), (1, .ref (ad t1)), (2, .int x2), (3, .int x3)]) hx hb dX3_readNumbers_4 hl (by decide) rfl (fun ls hl => ?_)
  exact w_X3_readNumbers_6 C0 t hT t1 hT1 x3 FU x2 (0 : Int32) M h H locs ls hP hS (lv_sub hl [2, 3, 5, 1, 0] rfl)
theorem c_X3_readNumbers {l : Launch} {D : va_G} {cI : ClassId} {ad : Nat → Nat} {L : List CDs} {t : Nat} (hT : is_X3 L t) {t1 : Nat} (hT1 : is_X1 L t1) {x2 : Int32} {x3 : Int32} {M M' : Mem} {r : Int32} (h : X3_readNumbers t t1 x2 x3 M = some (r, M')) : me_Met l yX3_readNumbers wsX3_readNumbers rmX3_readNumbers D cI ad L [.ref (ad t), .ref (ad t1), .int x2, .int x3] (some (.int r)) M M' :=
  me_ofW (by decide) rfl (Nat.le_of_ble_eq_true rfl) (fun p e s m below meth c C0 => w_X3_readNumbers C0 t hT t1 hT1 x2 x3 M h)
abbrev rmX4_persons : Room := { frames := 0, cells := 0, slots := 0, locals := 0 }
theorem kX4_persons_f24 : (Cond.fieldLink RX4 24 "LadderOfBows$Town" "persons" "I") ∈ wsX4_persons := List.mem_of_getElem? (i := 1) rfl
theorem in_X4_persons_X4 : ∀ w ∈ wsX40, w ∈ wsX4_persons := by decide +kernel
theorem hd_X4_persons : yX4_persons.cls = RX4 ∧ yX4_persons.cls ≠ "java/lang/invoke/MethodHandle" ∧ yX4_persons.cls ≠ "java/lang/invoke/VarHandle" ∧ (parseMethodDescriptor yX4_persons.desc).map (fun d => d.parameters.length) = some 0 := by decide +kernel
set_option maxRecDepth 100000 in
set_option maxHeartbeats 4000000 in
theorem w_X4_persons {p : Program} {l : Launch} {e : Env} {s : State} {m : MethodId} {args : Array Value} {below : List Frame} {meth : Method} {c : Code} {D : va_G} {cI : ClassId} {ad : Nat → Nat} {L : List CDs} {r : Int32} {M' : Mem} (C0 : me_X p s m args meth c cX4_persons 1 (some .int) wsX4_persons RX4 D cI ad L) (t : Nat) (hT : is_X4 L t) : ∀  (M : Mem), X4_persons t M = some (r, M') → me_W p l e rmX4_persons s m args below meth c D cI ad L (some (.int r)) M' 1 0 [(0, .ref (ad t))] [] M := by
  obtain ⟨hx, hb, hr, hml, hown, hts, hlk, hK, hI⟩ := id C0
  intro M h
  unfold X4_persons at h
  intro H locs ls hP hS hl
  refine lv_aload_n hx hb dX4_persons_0 rfl (lv_at hl 0 rfl) ?_
  refine me_get (ci := 4) (C := RX4) (T := TX4) (N := 8) hx hb hts in_X4_persons_X4 hown hK hP hT.1 rfl 0 (by decide) (hts _ kX4_persons_f24) rfl dX4_persons_1 ?_
  exact me_iret hx hb hr hlk hP hS h dX4_persons_4
theorem c_X4_persons {l : Launch} {D : va_G} {cI : ClassId} {ad : Nat → Nat} {L : List CDs} {t : Nat} (hT : is_X4 L t)  {M M' : Mem} {r : Int32} (h : X4_persons t M = some (r, M')) : me_Met l yX4_persons wsX4_persons rmX4_persons D cI ad L [.ref (ad t)] (some (.int r)) M M' :=
  me_ofW (by decide) rfl (Nat.le_of_ble_eq_true rfl) (fun p e s m below meth c C0 => w_X4_persons C0 t hT M h)
abbrev rmX4_addPerson : Room := { frames := 0, cells := 0, slots := 0, locals := 0 }
theorem kX4_addPerson_f24 : (Cond.fieldLink RX4 24 "LadderOfBows$Town" "persons" "I") ∈ wsX4_addPerson := List.mem_of_getElem? (i := 1) rfl
theorem kX4_addPerson_f9 : (Cond.fieldLink RX4 9 "LadderOfBows$Town" "kinds" "[I") ∈ wsX4_addPerson := List.mem_of_getElem? (i := 2) rfl
theorem kX4_addPerson_f15 : (Cond.fieldLink RX4 15 "LadderOfBows$Town" "streets" "[I") ∈ wsX4_addPerson := List.mem_of_getElem? (i := 3) rfl
theorem kX4_addPerson_f34 : (Cond.fieldLink RX4 34 "LadderOfBows$Town" "aliveBits" "I") ∈ wsX4_addPerson := List.mem_of_getElem? (i := 4) rfl
theorem in_X4_addPerson_X4 : ∀ w ∈ wsX40, w ∈ wsX4_addPerson := by decide +kernel
theorem hd_X4_addPerson : yX4_addPerson.cls = RX4 ∧ yX4_addPerson.cls ≠ "java/lang/invoke/MethodHandle" ∧ yX4_addPerson.cls ≠ "java/lang/invoke/VarHandle" ∧ (parseMethodDescriptor yX4_addPerson.desc).map (fun d => d.parameters.length) = some 2 := by decide +kernel
set_option maxRecDepth 100000 in
set_option maxHeartbeats 4000000 in
theorem w_X4_addPerson {p : Program} {l : Launch} {e : Env} {s : State} {m : MethodId} {args : Array Value} {below : List Frame} {meth : Method} {c : Code} {D : va_G} {cI : ClassId} {ad : Nat → Nat} {L : List CDs} {r : Unit} {M' : Mem} (C0 : me_X p s m args meth c cX4_addPerson 3 none wsX4_addPerson RX4 D cI ad L) (t : Nat) (hT : is_X4 L t) (x1 : Int32) (x2 : Int32) : ∀  (M : Mem), X4_addPerson t x1 x2 M = some (r, M') → me_W p l e rmX4_addPerson s m args below meth c D cI ad L none M' 3 0 [(0, .ref (ad t)), (1, .int x1), (2, .int x2)] [] M := by
  obtain ⟨hx, hb, hr, hml, hown, hts, hlk, hK, hI⟩ := id C0
  intro M h
  unfold X4_addPerson at h
  intro H locs ls hP hS hl
  refine lv_aload_n hx hb dX4_addPerson_0 rfl (lv_at hl 0 rfl) ?_
  refine me_get (ci := 4) (C := RX4) (T := TX4) (N := 8) hx hb hts in_X4_addPerson_X4 hown hK hP hT.1 rfl 0 (by decide) (hts _ kX4_addPerson_f24) rfl dX4_addPerson_1 ?_
  refine lv_bipush (v := (8 : Int32)) hx hb dX4_addPerson_4 (by decide) ?_
  refine lv_icmp_ge (tgt := 54) hx hb dX4_addPerson_6 (by decide) (fun q => ?_) (fun q => ?_)
  · rw [if_pos q] at h
    exact me_vret hx hb hr hlk hP hS h dX4_addPerson_54
  · rw [if_neg q] at h
    refine lv_aload_n hx hb dX4_addPerson_9 rfl (lv_at hl 0 rfl) ?_
    refine me_getr (ci := 4) (C := RX4) (T := TX4) (N := 8) hx hb hts in_X4_addPerson_X4 hown hK hP hT.1 rfl 4 (by decide) (hts _ kX4_addPerson_f9) rfl dX4_addPerson_10 ?_
    refine lv_aload_n hx hb dX4_addPerson_13 rfl (lv_at hl 0 rfl) ?_
    refine me_get (ci := 4) (C := RX4) (T := TX4) (N := 8) hx hb hts in_X4_addPerson_X4 hown hK hP hT.1 rfl 0 (by decide) (hts _ kX4_addPerson_f24) rfl dX4_addPerson_14 ?_
    refine lv_iload_n hx hb dX4_addPerson_17 rfl (lv_at hl 1 rfl) ?_
    obtain ⟨hi, h⟩ := s_ast_inv h
    refine me_ast hx hb hK hI hP hS hT.2.1 hi dX4_addPerson_18 (fun H locs M18 eM hP hS => ?_)
    replace h := h M18 eM
    refine lv_aload_n hx hb dX4_addPerson_19 rfl (lv_at hl 0 rfl) ?_
    refine me_getr (ci := 4) (C := RX4) (T := TX4) (N := 8) hx hb hts in_X4_addPerson_X4 hown hK hP hT.1 rfl 5 (by decide) (hts _ kX4_addPerson_f15) rfl dX4_addPerson_20 ?_
    refine lv_aload_n hx hb dX4_addPerson_23 rfl (lv_at hl 0 rfl) ?_
    refine me_get (ci := 4) (C := RX4) (T := TX4) (N := 8) hx hb hts in_X4_addPerson_X4 hown hK hP hT.1 rfl 0 (by decide) (hts _ kX4_addPerson_f24) rfl dX4_addPerson_24 ?_
    refine lv_iload_n hx hb dX4_addPerson_27 rfl (lv_at hl 2 rfl) ?_
    obtain ⟨hi, h⟩ := s_ast_inv h
    refine me_ast hx hb hK hI hP hS hT.2.2.1 hi dX4_addPerson_28 (fun H locs M28 eM hP hS => ?_)
    replace h := h M28 eM
    refine lv_aload_n hx hb dX4_addPerson_29 rfl (lv_at hl 0 rfl) ?_
    refine lv_dup hx hb dX4_addPerson_30 rfl ?_
    refine me_get (ci := 4) (C := RX4) (T := TX4) (N := 8) hx hb hts in_X4_addPerson_X4 hown hK hP hT.1 rfl 3 (by decide) (hts _ kX4_addPerson_f34) rfl dX4_addPerson_31 ?_
    refine lv_iconst (v := (1 : Int32)) hx hb dX4_addPerson_34 (by decide) ?_
    refine lv_aload_n hx hb dX4_addPerson_35 rfl (lv_at hl 0 rfl) ?_
    refine me_get (ci := 4) (C := RX4) (T := TX4) (N := 8) hx hb hts in_X4_addPerson_X4 hown hK hP hT.1 rfl 0 (by decide) (hts _ kX4_addPerson_f24) rfl dX4_addPerson_36 ?_
    refine lv_ishl hx hb dX4_addPerson_39 ?_
    refine lv_ior hx hb dX4_addPerson_40 ?_
    refine me_put (ci := 4) (C := RX4) (T := TX4) (N := 8) hx hb hts in_X4_addPerson_X4 tyX4_ok nmX4 hown hK hI hP hS hT.1 rfl 3 (by decide) (hts _ kX4_addPerson_f34) rfl rfl rfl dX4_addPerson_41 (fun H locs M41 eM hP hS => ?_)
    replace h := s_put_inv h M41 eM
    refine lv_aload_n hx hb dX4_addPerson_44 rfl (lv_at hl 0 rfl) ?_
    refine lv_dup hx hb dX4_addPerson_45 rfl ?_
    refine me_get (ci := 4) (C := RX4) (T := TX4) (N := 8) hx hb hts in_X4_addPerson_X4 hown hK hP hT.1 rfl 0 (by decide) (hts _ kX4_addPerson_f24) rfl dX4_addPerson_46 ?_
    refine lv_iconst (v := (1 : Int32)) hx hb dX4_addPerson_49 (by decide) ?_
    refine lv_iadd hx hb dX4_addPerson_50 ?_
    refine me_put (ci := 4) (C := RX4) (T := TX4) (N := 8) hx hb hts in_X4_addPerson_X4 tyX4_ok nmX4 hown hK hI hP hS hT.1 rfl 0 (by decide) (hts _ kX4_addPerson_f24) rfl rfl rfl dX4_addPerson_51 (fun H locs M51 eM hP hS => ?_)
    replace h := s_put_inv h M51 eM
    exact me_vret hx hb hr hlk hP hS h dX4_addPerson_54
theorem c_X4_addPerson {l : Launch} {D : va_G} {cI : ClassId} {ad : Nat → Nat} {L : List CDs} {t : Nat} (hT : is_X4 L t) {x1 : Int32} {x2 : Int32} {M M' : Mem} {r : Unit} (h : X4_addPerson t x1 x2 M = some (r, M')) : me_Met l yX4_addPerson wsX4_addPerson rmX4_addPerson D cI ad L [.ref (ad t), .int x1, .int x2] none M M' :=
  me_ofW (by decide) rfl (Nat.le_of_ble_eq_true rfl) (fun p e s m below meth c C0 => w_X4_addPerson C0 t hT x1 x2 M h)
abbrev rmX3_takePerson : Room := { frames := 1, cells := 0, slots := 0, locals := 22 }
theorem kX3_takePerson_f11 : (Cond.fieldLink RX3 11 "LadderOfBows$Reader" "numbers" "[I") ∈ wsX3_takePerson := List.mem_of_getElem? (i := 1) rfl
theorem in_X3_takePerson_X3 : ∀ w ∈ wsX30, w ∈ wsX3_takePerson := by decide +kernel
theorem hd_X3_takePerson : yX3_takePerson.cls = RX3 ∧ yX3_takePerson.cls ≠ "java/lang/invoke/MethodHandle" ∧ yX3_takePerson.cls ≠ "java/lang/invoke/VarHandle" ∧ (parseMethodDescriptor yX3_takePerson.desc).map (fun d => d.parameters.length) = some 1 := by decide +kernel
set_option maxRecDepth 100000 in
set_option maxHeartbeats 4000000 in
theorem w_X3_takePerson_34 {p : Program} {l : Launch} {e : Env} {s : State} {m : MethodId} {args : Array Value} {below : List Frame} {meth : Method} {c : Code} {D : va_G} {cI : ClassId} {ad : Nat → Nat} {L : List CDs} {r : Int32} {M' : Mem} (C0 : me_X p s m args meth c cX3_takePerson 3 (some .boolean) wsX3_takePerson RX3 D cI ad L) (t : Nat) (hT : is_X3 L t) (t1 : Nat) (hT1 : is_X4 L t1) : ∀ (y0 : Int32) (M : Mem), X3_takePerson_34 t t1 y0 M = some (r, M') → me_W p l e rmX3_takePerson s m args below meth c D cI ad L (some (.int r)) M' 3 34 [(0, .ref (ad t)), (1, .ref (ad t1))] [.int y0] M := by
  obtain ⟨hx, hb, hr, hml, hown, hts, hlk, hK, hI⟩ := id C0
  intro y0 M h
  unfold X3_takePerson_34 at h
  intro H locs ls hP hS hl
  refine lv_istore_n (lv' := [(2, .int y0), (0, .ref (ad t)), (1, .ref (ad t1))]) hx hb dX3_takePerson_34 rfl hl (by decide) rfl (fun ls hl => ?_)
  refine lv_iload_n hx hb dX3_takePerson_35 rfl (lv_at hl 0 rfl) ?_
  refine lv_if_eq (tgt := 55) hx hb dX3_takePerson_36 (by decide) (fun q => ?_) (fun q => ?_)
  · rw [if_pos q] at h
    refine lv_iload_n hx hb dX3_takePerson_55 rfl (lv_at hl 0 rfl) ?_
    exact me_zret hx hb hr hlk hP hS h dX3_takePerson_56
  · rw [if_neg q] at h
    refine lv_aload_n hx hb dX3_takePerson_39 rfl (lv_at hl 2 rfl) ?_
    refine lv_aload_n hx hb dX3_takePerson_40 rfl (lv_at hl 1 rfl) ?_
    refine me_getr (ci := 3) (C := RX3) (T := TX3) (N := 1) hx hb hts in_X3_takePerson_X3 hown hK hP hT.1 rfl 0 (by decide) (hts _ kX3_takePerson_f11) rfl dX3_takePerson_41 ?_
    refine lv_iconst (v := (0 : Int32)) hx hb dX3_takePerson_44 (by decide) ?_
    obtain ⟨hi, h⟩ := s_ald_inv h
    refine me_ald hx hb hK hP hT.2 hi dX3_takePerson_45 (fun v45 ev => ?_)
    replace h := h v45 ev
    refine lv_aload_n hx hb dX3_takePerson_46 rfl (lv_at hl 1 rfl) ?_
    refine me_getr (ci := 3) (C := RX3) (T := TX3) (N := 1) hx hb hts in_X3_takePerson_X3 hown hK hP hT.1 rfl 0 (by decide) (hts _ kX3_takePerson_f11) rfl dX3_takePerson_47 ?_
    refine lv_iconst (v := (1 : Int32)) hx hb dX3_takePerson_50 (by decide) ?_
    obtain ⟨hi, h⟩ := s_ald_inv h
    refine me_ald hx hb hK hP hT.2 hi dX3_takePerson_51 (fun v51 ev => ?_)
    replace h := h v51 ev
    obtain ⟨u52, M52, h1, h⟩ := s_call_inv h
    refine me_callVv (As := [.int v45, .int v51]) (rest := []) ⟨hx, hb, hml, hown, hts⟩ (c_X4_addPerson hT1 h1) (cwV 2 hts gX3_takePerson_X4_addPerson rfl rfl rfl hd_X4_addPerson ⟨(Nat.le_of_ble_eq_true rfl), (Nat.le_of_ble_eq_true rfl)⟩) hK hI hP hS hT1.1 rfl rfl hl.1 rfl (Nat.le_of_ble_eq_true rfl) dX3_takePerson_52 ⟨Nat.zero_le _, Nat.zero_le _⟩ (fun H locs hP hS => ?_)
    refine lv_iload_n hx hb dX3_takePerson_55 rfl (lv_at hl 0 rfl) ?_
    exact me_zret hx hb hr hlk hP hS h dX3_takePerson_56
set_option maxRecDepth 100000 in
set_option maxHeartbeats 4000000 in
theorem w_X3_takePerson {p : Program} {l : Launch} {e : Env} {s : State} {m : MethodId} {args : Array Value} {below : List Frame} {meth : Method} {c : Code} {D : va_G} {cI : ClassId} {ad : Nat → Nat} {L : List CDs} {r : Int32} {M' : Mem} (C0 : me_X p s m args meth c cX3_takePerson 3 (some .boolean) wsX3_takePerson RX3 D cI ad L) (t : Nat) (hT : is_X3 L t) (t1 : Nat) (hT1 : is_X4 L t1) : ∀  (M : Mem), X3_takePerson t t1 M = some (r, M') → me_W p l e rmX3_takePerson s m args below meth c D cI ad L (some (.int r)) M' 3 0 [(0, .ref (ad t)), (1, .ref (ad t1))] [] M := by
  obtain ⟨hx, hb, hr, hml, hown, hts, hlk, hK, hI⟩ := id C0
  intro M h
  unfold X3_takePerson at h
  intro H locs ls hP hS hl
  refine lv_aload_n hx hb dX3_takePerson_0 rfl (lv_at hl 0 rfl) ?_
  refine me_getr (ci := 3) (C := RX3) (T := TX3) (N := 1) hx hb hts in_X3_takePerson_X3 hown hK hP hT.1 rfl 0 (by decide) (hts _ kX3_takePerson_f11) rfl dX3_takePerson_1 ?_
  refine lv_iconst (v := (0 : Int32)) hx hb dX3_takePerson_4 (by decide) ?_
  obtain ⟨hi, h⟩ := s_ald_inv h
  refine me_ald hx hb hK hP hT.2 hi dX3_takePerson_5 (fun v5 ev => ?_)
  replace h := h v5 ev
  refine lv_iconst (v := (4 : Int32)) hx hb dX3_takePerson_6 (by decide) ?_
  refine lv_icmp_ge (tgt := 33) hx hb dX3_takePerson_7 (by decide) (fun q => ?_) (fun q => ?_)
  · rw [if_pos q] at h
    refine lv_iconst (v := (0 : Int32)) hx hb dX3_takePerson_33 (by decide) ?_
    exact w_X3_takePerson_34 C0 t hT t1 hT1 (0 : Int32) M h H locs ls hP hS (lv_sub hl [0, 1] rfl)
  · rw [if_neg q] at h
    refine lv_aload_n hx hb dX3_takePerson_10 rfl (lv_at hl 0 rfl) ?_
    refine me_getr (ci := 3) (C := RX3) (T := TX3) (N := 1) hx hb hts in_X3_takePerson_X3 hown hK hP hT.1 rfl 0 (by decide) (hts _ kX3_takePerson_f11) rfl dX3_takePerson_11 ?_
    refine lv_iconst (v := (1 : Int32)) hx hb dX3_takePerson_14 (by decide) ?_
    obtain ⟨hi, h⟩ := s_ald_inv h
    refine me_ald hx hb hK hP hT.2 hi dX3_takePerson_15 (fun v15 ev => ?_)
    replace h := h v15 ev
    refine lv_iconst (v := (4 : Int32)) hx hb dX3_takePerson_16 (by decide) ?_
    refine lv_icmp_ge (tgt := 33) hx hb dX3_takePerson_17 (by decide) (fun q => ?_) (fun q => ?_)
    · rw [if_pos q] at h
      refine lv_iconst (v := (0 : Int32)) hx hb dX3_takePerson_33 (by decide) ?_
      exact w_X3_takePerson_34 C0 t hT t1 hT1 (0 : Int32) M h H locs ls hP hS (lv_sub hl [0, 1] rfl)
    · rw [if_neg q] at h
      refine lv_aload_n hx hb dX3_takePerson_20 rfl (lv_at hl 1 rfl) ?_
      obtain ⟨v21, M21, h1, h⟩ := s_call_inv h
      refine me_callVi (As := []) (rest := []) ⟨hx, hb, hml, hown, hts⟩ (c_X4_persons hT1 h1) (cwV 0 hts gX3_takePerson_X4_persons rfl rfl rfl hd_X4_persons ⟨(Nat.le_of_ble_eq_true rfl), (Nat.le_of_ble_eq_true rfl)⟩) hK hI hP hS hT1.1 rfl rfl hl.1 rfl (Nat.le_of_ble_eq_true rfl) dX3_takePerson_21 ⟨Nat.zero_le _, Nat.zero_le _⟩ (fun H locs hP hS => ?_)
      refine lv_bipush (v := (7 : Int32)) hx hb dX3_takePerson_24 (by decide) ?_
      refine lv_icmp_ge (tgt := 33) hx hb dX3_takePerson_26 (by decide) (fun q => ?_) (fun q => ?_)
      · rw [if_pos q] at h
        refine lv_iconst (v := (0 : Int32)) hx hb dX3_takePerson_33 (by decide) ?_
        exact w_X3_takePerson_34 C0 t hT t1 hT1 (0 : Int32) M21 h H locs ls hP hS (lv_sub hl [0, 1] rfl)
      · rw [if_neg q] at h
        refine lv_iconst (v := (1 : Int32)) hx hb dX3_takePerson_29 (by decide) ?_
        refine lv_goto (tgt := 34) hx hb dX3_takePerson_30 (by decide) ?_
        exact w_X3_takePerson_34 C0 t hT t1 hT1 (1 : Int32) M21 h H locs ls hP hS (lv_sub hl [0, 1] rfl)
theorem c_X3_takePerson {l : Launch} {D : va_G} {cI : ClassId} {ad : Nat → Nat} {L : List CDs} {t : Nat} (hT : is_X3 L t) {t1 : Nat} (hT1 : is_X4 L t1)  {M M' : Mem} {r : Int32} (h : X3_takePerson t t1 M = some (r, M')) : me_Met l yX3_takePerson wsX3_takePerson rmX3_takePerson D cI ad L [.ref (ad t), .ref (ad t1)] (some (.int r)) M M' :=
  me_ofW (by decide) rfl (Nat.le_of_ble_eq_true rfl) (fun p e s m below meth c C0 => w_X3_takePerson C0 t hT t1 hT1 M h)
abbrev rmX4_setDebt : Room := { frames := 0, cells := 0, slots := 0, locals := 0 }
theorem kX4_setDebt_f21 : (Cond.fieldLink RX4 21 "LadderOfBows$Town" "owing" "[I") ∈ wsX4_setDebt := List.mem_of_getElem? (i := 1) rfl
theorem kX4_setDebt_f18 : (Cond.fieldLink RX4 18 "LadderOfBows$Town" "debts" "[I") ∈ wsX4_setDebt := List.mem_of_getElem? (i := 2) rfl
theorem in_X4_setDebt_X4 : ∀ w ∈ wsX40, w ∈ wsX4_setDebt := by decide +kernel
theorem hd_X4_setDebt : yX4_setDebt.cls = RX4 ∧ yX4_setDebt.cls ≠ "java/lang/invoke/MethodHandle" ∧ yX4_setDebt.cls ≠ "java/lang/invoke/VarHandle" ∧ (parseMethodDescriptor yX4_setDebt.desc).map (fun d => d.parameters.length) = some 3 := by decide +kernel
set_option maxRecDepth 100000 in
set_option maxHeartbeats 4000000 in
theorem w_X4_setDebt {p : Program} {l : Launch} {e : Env} {s : State} {m : MethodId} {args : Array Value} {below : List Frame} {meth : Method} {c : Code} {D : va_G} {cI : ClassId} {ad : Nat → Nat} {L : List CDs} {r : Unit} {M' : Mem} (C0 : me_X p s m args meth c cX4_setDebt 5 none wsX4_setDebt RX4 D cI ad L) (t : Nat) (hT : is_X4 L t) (x1 : Int32) (x2 : Int32) (x3 : Int32) : ∀  (M : Mem), X4_setDebt t x1 x2 x3 M = some (r, M') → me_W p l e rmX4_setDebt s m args below meth c D cI ad L none M' 5 0 [(0, .ref (ad t)), (1, .int x1), (2, .int x2), (3, .int x3)] [] M := by
  obtain ⟨hx, hb, hr, hml, hown, hts, hlk, hK, hI⟩ := id C0
  intro M h
  unfold X4_setDebt at h
  intro H locs ls hP hS hl
  refine lv_bipush (v := (8 : Int32)) hx hb dX4_setDebt_0 (by decide) ?_
  refine lv_iload_n hx hb dX4_setDebt_2 rfl (lv_at hl 1 rfl) ?_
  refine lv_imul hx hb dX4_setDebt_3 ?_
  refine lv_iload_n hx hb dX4_setDebt_4 rfl (lv_at hl 2 rfl) ?_
  refine lv_iadd hx hb dX4_setDebt_5 ?_
  refine lv_topi (fun x4_6 ev => ?_)
  replace h := s_let_inv h x4_6 ev
  refine lv_istore (lv' := [(4, .int x4_6), (0, .ref (ad t)), (1, .int x1), (2, .int x2), (3, .int x3)]) hx hb dX4_setDebt_6 hl (by decide) rfl (fun ls hl => ?_)
  refine lv_aload_n hx hb dX4_setDebt_8 rfl (lv_at hl 1 rfl) ?_
  refine me_getr (ci := 4) (C := RX4) (T := TX4) (N := 8) hx hb hts in_X4_setDebt_X4 hown hK hP hT.1 rfl 7 (by decide) (hts _ kX4_setDebt_f21) rfl dX4_setDebt_9 ?_
  refine lv_iload_n hx hb dX4_setDebt_12 rfl (lv_at hl 2 rfl) ?_
  refine lv_dup2_11 hx hb dX4_setDebt_13 rfl rfl ?_
  obtain ⟨hi, h⟩ := s_ald_inv h
  refine me_ald hx hb hK hP hT.2.2.2.2 hi dX4_setDebt_14 (fun v14 ev => ?_)
  replace h := h v14 ev
  refine lv_iload_n hx hb dX4_setDebt_15 rfl (lv_at hl 4 rfl) ?_
  refine lv_aload_n hx hb dX4_setDebt_16 rfl (lv_at hl 1 rfl) ?_
  refine me_getr (ci := 4) (C := RX4) (T := TX4) (N := 8) hx hb hts in_X4_setDebt_X4 hown hK hP hT.1 rfl 6 (by decide) (hts _ kX4_setDebt_f18) rfl dX4_setDebt_17 ?_
  refine lv_iload hx hb dX4_setDebt_20 (lv_at hl 0 rfl) ?_
  obtain ⟨hi, h⟩ := s_ald_inv h
  refine me_ald hx hb hK hP hT.2.2.2.1 hi dX4_setDebt_22 (fun v22 ev => ?_)
  replace h := h v22 ev
  refine lv_isub hx hb dX4_setDebt_23 ?_
  refine lv_iadd hx hb dX4_setDebt_24 ?_
  obtain ⟨hi, h⟩ := s_ast_inv h
  refine me_ast hx hb hK hI hP hS hT.2.2.2.2 hi dX4_setDebt_25 (fun H locs M25 eM hP hS => ?_)
  replace h := h M25 eM
  refine lv_aload_n hx hb dX4_setDebt_26 rfl (lv_at hl 1 rfl) ?_
  refine me_getr (ci := 4) (C := RX4) (T := TX4) (N := 8) hx hb hts in_X4_setDebt_X4 hown hK hP hT.1 rfl 6 (by decide) (hts _ kX4_setDebt_f18) rfl dX4_setDebt_27 ?_
  refine lv_iload hx hb dX4_setDebt_30 (lv_at hl 0 rfl) ?_
  refine lv_iload_n hx hb dX4_setDebt_32 rfl (lv_at hl 4 rfl) ?_
  obtain ⟨hi, h⟩ := s_ast_inv h
  refine me_ast hx hb hK hI hP hS hT.2.2.2.1 hi dX4_setDebt_33 (fun H locs M33 eM hP hS => ?_)
  replace h := h M33 eM
  exact me_vret hx hb hr hlk hP hS h dX4_setDebt_34
theorem c_X4_setDebt {l : Launch} {D : va_G} {cI : ClassId} {ad : Nat → Nat} {L : List CDs} {t : Nat} (hT : is_X4 L t) {x1 : Int32} {x2 : Int32} {x3 : Int32} {M M' : Mem} {r : Unit} (h : X4_setDebt t x1 x2 x3 M = some (r, M')) : me_Met l yX4_setDebt wsX4_setDebt rmX4_setDebt D cI ad L [.ref (ad t), .int x1, .int x2, .int x3] none M M' :=
  me_ofW (by decide) rfl (Nat.le_of_ble_eq_true rfl) (fun p e s m below meth c C0 => w_X4_setDebt C0 t hT x1 x2 x3 M h)
