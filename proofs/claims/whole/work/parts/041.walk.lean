/-! ===== the walks, by program (wip/gen/gen.py) ===== -/
abbrev rmX3_takeDebt : Room := { frames := 1, cells := 0, slots := 0, locals := 24 }
theorem kX3_takeDebt_f11 : (Cond.fieldLink RX3 11 "LadderOfBows$Reader" "numbers" "[I") ∈ wsX3_takeDebt := List.mem_of_getElem? (i := 1) rfl
theorem in_X3_takeDebt_X3 : ∀ w ∈ wsX30, w ∈ wsX3_takeDebt := by decide +kernel
theorem hd_X3_takeDebt : yX3_takeDebt.cls = RX3 ∧ yX3_takeDebt.cls ≠ "java/lang/invoke/MethodHandle" ∧ yX3_takeDebt.cls ≠ "java/lang/invoke/VarHandle" ∧ (parseMethodDescriptor yX3_takeDebt.desc).map (fun d => d.parameters.length) = some 1 := by decide +kernel
set_option maxRecDepth 100000 in
set_option maxHeartbeats 4000000 in
theorem w_X3_takeDebt_51 {p : Program} {l : Launch} {e : Env} {s : State} {m : MethodId} {args : Array Value} {below : List Frame} {meth : Method} {c : Code} {D : va_G} {cI : ClassId} {ad : Nat → Nat} {L : List CDs} {r : Int32} {M' : Mem} (C0 : me_X p s m args meth c cX3_takeDebt 5 (some .boolean) wsX3_takeDebt RX3 D cI ad L) (t : Nat) (hT : is_X3 L t) (t1 : Nat) (hT1 : is_X4 L t1) (x2 : Int32) (x3 : Int32) : ∀ (y0 : Int32) (M : Mem), X3_takeDebt_51 t t1 x2 x3 y0 M = some (r, M') → me_W p l e rmX3_takeDebt s m args below meth c D cI ad L (some (.int r)) M' 5 51 [(0, .ref (ad t)), (1, .ref (ad t1)), (2, .int x2), (3, .int x3)] [.int y0] M := by
  obtain ⟨hx, hb, hr, hml, hown, hts, hlk, hK, hI⟩ := id C0
  intro y0 M h
  unfold X3_takeDebt_51 at h
  intro H locs ls hP hS hl
  refine lv_istore (lv' := [(4, .int y0), (0, .ref (ad t)), (1, .ref (ad t1)), (2, .int x2), (3, .int x3)]) hx hb dX3_takeDebt_51 hl (by decide) rfl (fun ls hl => ?_)
  refine lv_iload hx hb dX3_takeDebt_53 (lv_at hl 0 rfl) ?_
  refine lv_if_eq (tgt := 70) hx hb dX3_takeDebt_55 (by decide) (fun q => ?_) (fun q => ?_)
  · rw [if_pos q] at h
    refine lv_iload hx hb dX3_takeDebt_70 (lv_at hl 0 rfl) ?_
    exact me_zret hx hb hr hlk hP hS h dX3_takeDebt_72
  · rw [if_neg q] at h
    refine lv_aload_n hx hb dX3_takeDebt_58 rfl (lv_at hl 2 rfl) ?_
    refine lv_iload_n hx hb dX3_takeDebt_59 rfl (lv_at hl 3 rfl) ?_
    refine lv_iload_n hx hb dX3_takeDebt_60 rfl (lv_at hl 4 rfl) ?_
    refine lv_aload_n hx hb dX3_takeDebt_61 rfl (lv_at hl 1 rfl) ?_
    refine me_getr (ci := 3) (C := RX3) (T := TX3) (N := 1) hx hb hts in_X3_takeDebt_X3 hown hK hP hT.1 rfl 0 (by decide) (hts _ kX3_takeDebt_f11) rfl dX3_takeDebt_62 ?_
    refine lv_iconst (v := (2 : Int32)) hx hb dX3_takeDebt_65 (by decide) ?_
    obtain ⟨hi, h⟩ := s_ald_inv h
    refine me_ald hx hb hK hP hT.2 hi dX3_takeDebt_66 (fun v66 ev => ?_)
    replace h := h v66 ev
    obtain ⟨u67, M67, h1, h⟩ := s_call_inv h
    refine me_callVv (As := [.int x2, .int x3, .int v66]) (rest := []) ⟨hx, hb, hml, hown, hts⟩ (c_X4_setDebt hT1 h1) (cwV 3 hts gX3_takeDebt_X4_setDebt rfl rfl rfl hd_X4_setDebt ⟨(Nat.le_of_ble_eq_true rfl), (Nat.le_of_ble_eq_true rfl)⟩) hK hI hP hS hT1.1 rfl rfl hl.1 rfl (Nat.le_of_ble_eq_true rfl) dX3_takeDebt_67 ⟨Nat.zero_le _, Nat.zero_le _⟩ (fun H locs hP hS => ?_)
    refine lv_iload hx hb dX3_takeDebt_70 (lv_at hl 0 rfl) ?_
    exact me_zret hx hb hr hlk hP hS h dX3_takeDebt_72
set_option maxRecDepth 100000 in
set_option maxHeartbeats 4000000 in
theorem w_X3_takeDebt {p : Program} {l : Launch} {e : Env} {s : State} {m : MethodId} {args : Array Value} {below : List Frame} {meth : Method} {c : Code} {D : va_G} {cI : ClassId} {ad : Nat → Nat} {L : List CDs} {r : Int32} {M' : Mem} (C0 : me_X p s m args meth c cX3_takeDebt 5 (some .boolean) wsX3_takeDebt RX3 D cI ad L) (t : Nat) (hT : is_X3 L t) (t1 : Nat) (hT1 : is_X4 L t1) : ∀  (M : Mem), X3_takeDebt t t1 M = some (r, M') → me_W p l e rmX3_takeDebt s m args below meth c D cI ad L (some (.int r)) M' 5 0 [(0, .ref (ad t)), (1, .ref (ad t1))] [] M := by
  obtain ⟨hx, hb, hr, hml, hown, hts, hlk, hK, hI⟩ := id C0
  intro M h
  unfold X3_takeDebt at h
  intro H locs ls hP hS hl
  refine lv_aload_n hx hb dX3_takeDebt_0 rfl (lv_at hl 0 rfl) ?_
  refine me_getr (ci := 3) (C := RX3) (T := TX3) (N := 1) hx hb hts in_X3_takeDebt_X3 hown hK hP hT.1 rfl 0 (by decide) (hts _ kX3_takeDebt_f11) rfl dX3_takeDebt_1 ?_
  refine lv_iconst (v := (0 : Int32)) hx hb dX3_takeDebt_4 (by decide) ?_
  obtain ⟨hi, h⟩ := s_ald_inv h
  refine me_ald hx hb hK hP hT.2 hi dX3_takeDebt_5 (fun v5 ev => ?_)
  replace h := h v5 ev
  refine lv_istore_n (lv' := [(2, .int v5), (0, .ref (ad t)), (1, .ref (ad t1))]) hx hb dX3_takeDebt_6 rfl hl (by decide) rfl (fun ls hl => ?_)
  refine lv_aload_n hx hb dX3_takeDebt_7 rfl (lv_at hl 1 rfl) ?_
  refine me_getr (ci := 3) (C := RX3) (T := TX3) (N := 1) hx hb hts in_X3_takeDebt_X3 hown hK hP hT.1 rfl 0 (by decide) (hts _ kX3_takeDebt_f11) rfl dX3_takeDebt_8 ?_
  refine lv_iconst (v := (1 : Int32)) hx hb dX3_takeDebt_11 (by decide) ?_
  obtain ⟨hi, h⟩ := s_ald_inv h
  refine me_ald hx hb hK hP hT.2 hi dX3_takeDebt_12 (fun v12 ev => ?_)
  replace h := h v12 ev
  refine lv_istore_n (lv' := [(3, .int v12), (2, .int v5), (0, .ref (ad t)), (1, .ref (ad t1))]) hx hb dX3_takeDebt_13 rfl hl (by decide) rfl (fun ls hl => ?_)
  refine lv_iload_n hx hb dX3_takeDebt_14 rfl (lv_at hl 1 rfl) ?_
  refine lv_aload_n hx hb dX3_takeDebt_15 rfl (lv_at hl 3 rfl) ?_
  obtain ⟨v16, M16, h1, h⟩ := s_call_inv h
  refine me_callVi (As := []) (rest := [.int v5]) ⟨hx, hb, hml, hown, hts⟩ (c_X4_persons hT1 h1) (cwV 0 hts gX3_takeDebt_X4_persons rfl rfl rfl hd_X4_persons ⟨(Nat.le_of_ble_eq_true rfl), (Nat.le_of_ble_eq_true rfl)⟩) hK hI hP hS hT1.1 rfl rfl hl.1 rfl (Nat.le_of_ble_eq_true rfl) dX3_takeDebt_16 ⟨Nat.zero_le _, Nat.zero_le _⟩ (fun H locs hP hS => ?_)
  refine lv_icmp_ge (tgt := 50) hx hb dX3_takeDebt_19 (by decide) (fun q => ?_) (fun q => ?_)
  · rw [if_pos q] at h
    refine lv_iconst (v := (0 : Int32)) hx hb dX3_takeDebt_50 (by decide) ?_
    exact w_X3_takeDebt_51 C0 t hT t1 hT1 v5 v12 (0 : Int32) M16 h H locs ls hP hS (lv_sub hl [2, 3, 1, 0] rfl)
  · rw [if_neg q] at h
    refine lv_iload_n hx hb dX3_takeDebt_22 rfl (lv_at hl 0 rfl) ?_
    refine lv_aload_n hx hb dX3_takeDebt_23 rfl (lv_at hl 3 rfl) ?_
    obtain ⟨v24, M24, h1, h⟩ := s_call_inv h
    refine me_callVi (As := []) (rest := [.int v12]) ⟨hx, hb, hml, hown, hts⟩ (c_X4_persons hT1 h1) (cwV 0 hts gX3_takeDebt_X4_persons rfl rfl rfl hd_X4_persons ⟨(Nat.le_of_ble_eq_true rfl), (Nat.le_of_ble_eq_true rfl)⟩) hK hI hP hS hT1.1 rfl rfl hl.1 rfl (Nat.le_of_ble_eq_true rfl) dX3_takeDebt_24 ⟨Nat.zero_le _, Nat.zero_le _⟩ (fun H locs hP hS => ?_)
    refine lv_icmp_ge (tgt := 50) hx hb dX3_takeDebt_27 (by decide) (fun q => ?_) (fun q => ?_)
    · rw [if_pos q] at h
      refine lv_iconst (v := (0 : Int32)) hx hb dX3_takeDebt_50 (by decide) ?_
      exact w_X3_takeDebt_51 C0 t hT t1 hT1 v5 v12 (0 : Int32) M24 h H locs ls hP hS (lv_sub hl [2, 3, 1, 0] rfl)
    · rw [if_neg q] at h
      refine lv_iload_n hx hb dX3_takeDebt_30 rfl (lv_at hl 1 rfl) ?_
      refine lv_iload_n hx hb dX3_takeDebt_31 rfl (lv_at hl 0 rfl) ?_
      refine lv_icmp_eq (tgt := 50) hx hb dX3_takeDebt_32 (by decide) (fun q => ?_) (fun q => ?_)
      · rw [if_pos q] at h
        refine lv_iconst (v := (0 : Int32)) hx hb dX3_takeDebt_50 (by decide) ?_
        exact w_X3_takeDebt_51 C0 t hT t1 hT1 v5 v12 (0 : Int32) M24 h H locs ls hP hS (lv_sub hl [2, 3, 1, 0] rfl)
      · rw [if_neg q] at h
        refine lv_aload_n hx hb dX3_takeDebt_35 rfl (lv_at hl 2 rfl) ?_
        refine me_getr (ci := 3) (C := RX3) (T := TX3) (N := 1) hx hb hts in_X3_takeDebt_X3 hown hK hP hT.1 rfl 0 (by decide) (hts _ kX3_takeDebt_f11) rfl dX3_takeDebt_36 ?_
        refine lv_iconst (v := (2 : Int32)) hx hb dX3_takeDebt_39 (by decide) ?_
        obtain ⟨hi, h⟩ := s_ald_inv h
        refine me_ald hx hb hK hP hT.2 hi dX3_takeDebt_40 (fun v40 ev => ?_)
        replace h := h v40 ev
        refine lv_bipush (v := (9 : Int32)) hx hb dX3_takeDebt_41 (by decide) ?_
        refine lv_icmp_gt (tgt := 50) hx hb dX3_takeDebt_43 (by decide) (fun q => ?_) (fun q => ?_)
        · rw [if_pos q] at h
          refine lv_iconst (v := (0 : Int32)) hx hb dX3_takeDebt_50 (by decide) ?_
          exact w_X3_takeDebt_51 C0 t hT t1 hT1 v5 v12 (0 : Int32) M24 h H locs ls hP hS (lv_sub hl [2, 3, 1, 0] rfl)
        · rw [if_neg q] at h
          refine lv_iconst (v := (1 : Int32)) hx hb dX3_takeDebt_46 (by decide) ?_
          refine lv_goto (tgt := 51) hx hb dX3_takeDebt_47 (by decide) ?_
          exact w_X3_takeDebt_51 C0 t hT t1 hT1 v5 v12 (1 : Int32) M24 h H locs ls hP hS (lv_sub hl [2, 3, 1, 0] rfl)
theorem c_X3_takeDebt {l : Launch} {D : va_G} {cI : ClassId} {ad : Nat → Nat} {L : List CDs} {t : Nat} (hT : is_X3 L t) {t1 : Nat} (hT1 : is_X4 L t1)  {M M' : Mem} {r : Int32} (h : X3_takeDebt t t1 M = some (r, M')) : me_Met l yX3_takeDebt wsX3_takeDebt rmX3_takeDebt D cI ad L [.ref (ad t), .ref (ad t1)] (some (.int r)) M M' :=
  me_ofW (by decide) rfl (Nat.le_of_ble_eq_true rfl) (fun p e s m below meth c C0 => w_X3_takeDebt C0 t hT t1 hT1 M h)
abbrev rmX4_setEasterDay : Room := { frames := 0, cells := 0, slots := 0, locals := 0 }
theorem kX4_setEasterDay_f31 : (Cond.fieldLink RX4 31 "LadderOfBows$Town" "easterDay" "I") ∈ wsX4_setEasterDay := List.mem_of_getElem? (i := 1) rfl
theorem in_X4_setEasterDay_X4 : ∀ w ∈ wsX40, w ∈ wsX4_setEasterDay := by decide +kernel
theorem hd_X4_setEasterDay : yX4_setEasterDay.cls = RX4 ∧ yX4_setEasterDay.cls ≠ "java/lang/invoke/MethodHandle" ∧ yX4_setEasterDay.cls ≠ "java/lang/invoke/VarHandle" ∧ (parseMethodDescriptor yX4_setEasterDay.desc).map (fun d => d.parameters.length) = some 1 := by decide +kernel
set_option maxRecDepth 100000 in
set_option maxHeartbeats 4000000 in
theorem w_X4_setEasterDay {p : Program} {l : Launch} {e : Env} {s : State} {m : MethodId} {args : Array Value} {below : List Frame} {meth : Method} {c : Code} {D : va_G} {cI : ClassId} {ad : Nat → Nat} {L : List CDs} {r : Unit} {M' : Mem} (C0 : me_X p s m args meth c cX4_setEasterDay 2 none wsX4_setEasterDay RX4 D cI ad L) (t : Nat) (hT : is_X4 L t) (x1 : Int32) : ∀  (M : Mem), X4_setEasterDay t x1 M = some (r, M') → me_W p l e rmX4_setEasterDay s m args below meth c D cI ad L none M' 2 0 [(0, .ref (ad t)), (1, .int x1)] [] M := by
  obtain ⟨hx, hb, hr, hml, hown, hts, hlk, hK, hI⟩ := id C0
  intro M h
  unfold X4_setEasterDay at h
  intro H locs ls hP hS hl
  refine lv_aload_n hx hb dX4_setEasterDay_0 rfl (lv_at hl 0 rfl) ?_
  refine lv_iload_n hx hb dX4_setEasterDay_1 rfl (lv_at hl 1 rfl) ?_
  refine me_put (ci := 4) (C := RX4) (T := TX4) (N := 8) hx hb hts in_X4_setEasterDay_X4 tyX4_ok nmX4 hown hK hI hP hS hT.1 rfl 2 (by decide) (hts _ kX4_setEasterDay_f31) rfl rfl rfl dX4_setEasterDay_2 (fun H locs M2 eM hP hS => ?_)
  replace h := s_put_inv h M2 eM
  exact me_vret hx hb hr hlk hP hS h dX4_setEasterDay_5
theorem c_X4_setEasterDay {l : Launch} {D : va_G} {cI : ClassId} {ad : Nat → Nat} {L : List CDs} {t : Nat} (hT : is_X4 L t) {x1 : Int32} {M M' : Mem} {r : Unit} (h : X4_setEasterDay t x1 M = some (r, M')) : me_Met l yX4_setEasterDay wsX4_setEasterDay rmX4_setEasterDay D cI ad L [.ref (ad t), .int x1] none M M' :=
  me_ofW (by decide) rfl (Nat.le_of_ble_eq_true rfl) (fun p e s m below meth c C0 => w_X4_setEasterDay C0 t hT x1 M h)
abbrev rmX3_takeEaster : Room := { frames := 1, cells := 0, slots := 0, locals := 21 }
theorem kX3_takeEaster_f11 : (Cond.fieldLink RX3 11 "LadderOfBows$Reader" "numbers" "[I") ∈ wsX3_takeEaster := List.mem_of_getElem? (i := 1) rfl
theorem in_X3_takeEaster_X3 : ∀ w ∈ wsX30, w ∈ wsX3_takeEaster := by decide +kernel
theorem hd_X3_takeEaster : yX3_takeEaster.cls = RX3 ∧ yX3_takeEaster.cls ≠ "java/lang/invoke/MethodHandle" ∧ yX3_takeEaster.cls ≠ "java/lang/invoke/VarHandle" ∧ (parseMethodDescriptor yX3_takeEaster.desc).map (fun d => d.parameters.length) = some 1 := by decide +kernel
set_option maxRecDepth 100000 in
set_option maxHeartbeats 4000000 in
theorem w_X3_takeEaster_26 {p : Program} {l : Launch} {e : Env} {s : State} {m : MethodId} {args : Array Value} {below : List Frame} {meth : Method} {c : Code} {D : va_G} {cI : ClassId} {ad : Nat → Nat} {L : List CDs} {r : Int32} {M' : Mem} (C0 : me_X p s m args meth c cX3_takeEaster 3 (some .boolean) wsX3_takeEaster RX3 D cI ad L) (t : Nat) (hT : is_X3 L t) (t1 : Nat) (hT1 : is_X4 L t1) : ∀ (y0 : Int32) (M : Mem), X3_takeEaster_26 t t1 y0 M = some (r, M') → me_W p l e rmX3_takeEaster s m args below meth c D cI ad L (some (.int r)) M' 3 26 [(0, .ref (ad t)), (1, .ref (ad t1))] [.int y0] M := by
  obtain ⟨hx, hb, hr, hml, hown, hts, hlk, hK, hI⟩ := id C0
  intro y0 M h
  unfold X3_takeEaster_26 at h
  intro H locs ls hP hS hl
  refine lv_istore_n (lv' := [(2, .int y0), (0, .ref (ad t)), (1, .ref (ad t1))]) hx hb dX3_takeEaster_26 rfl hl (by decide) rfl (fun ls hl => ?_)
  refine lv_iload_n hx hb dX3_takeEaster_27 rfl (lv_at hl 0 rfl) ?_
  refine lv_if_eq (tgt := 41) hx hb dX3_takeEaster_28 (by decide) (fun q => ?_) (fun q => ?_)
  · rw [if_pos q] at h
    refine lv_iload_n hx hb dX3_takeEaster_41 rfl (lv_at hl 0 rfl) ?_
    exact me_zret hx hb hr hlk hP hS h dX3_takeEaster_42
  · rw [if_neg q] at h
    refine lv_aload_n hx hb dX3_takeEaster_31 rfl (lv_at hl 2 rfl) ?_
    refine lv_aload_n hx hb dX3_takeEaster_32 rfl (lv_at hl 1 rfl) ?_
    refine me_getr (ci := 3) (C := RX3) (T := TX3) (N := 1) hx hb hts in_X3_takeEaster_X3 hown hK hP hT.1 rfl 0 (by decide) (hts _ kX3_takeEaster_f11) rfl dX3_takeEaster_33 ?_
    refine lv_iconst (v := (0 : Int32)) hx hb dX3_takeEaster_36 (by decide) ?_
    obtain ⟨hi, h⟩ := s_ald_inv h
    refine me_ald hx hb hK hP hT.2 hi dX3_takeEaster_37 (fun v37 ev => ?_)
    replace h := h v37 ev
    obtain ⟨u38, M38, h1, h⟩ := s_call_inv h
    refine me_callVv (As := [.int v37]) (rest := []) ⟨hx, hb, hml, hown, hts⟩ (c_X4_setEasterDay hT1 h1) (cwV 1 hts gX3_takeEaster_X4_setEasterDay rfl rfl rfl hd_X4_setEasterDay ⟨(Nat.le_of_ble_eq_true rfl), (Nat.le_of_ble_eq_true rfl)⟩) hK hI hP hS hT1.1 rfl rfl hl.1 rfl (Nat.le_of_ble_eq_true rfl) dX3_takeEaster_38 ⟨Nat.zero_le _, Nat.zero_le _⟩ (fun H locs hP hS => ?_)
    refine lv_iload_n hx hb dX3_takeEaster_41 rfl (lv_at hl 0 rfl) ?_
    exact me_zret hx hb hr hlk hP hS h dX3_takeEaster_42
set_option maxRecDepth 100000 in
set_option maxHeartbeats 4000000 in
theorem w_X3_takeEaster {p : Program} {l : Launch} {e : Env} {s : State} {m : MethodId} {args : Array Value} {below : List Frame} {meth : Method} {c : Code} {D : va_G} {cI : ClassId} {ad : Nat → Nat} {L : List CDs} {r : Int32} {M' : Mem} (C0 : me_X p s m args meth c cX3_takeEaster 3 (some .boolean) wsX3_takeEaster RX3 D cI ad L) (t : Nat) (hT : is_X3 L t) (t1 : Nat) (hT1 : is_X4 L t1) : ∀  (M : Mem), X3_takeEaster t t1 M = some (r, M') → me_W p l e rmX3_takeEaster s m args below meth c D cI ad L (some (.int r)) M' 3 0 [(0, .ref (ad t)), (1, .ref (ad t1))] [] M := by
  obtain ⟨hx, hb, hr, hml, hown, hts, hlk, hK, hI⟩ := id C0
  intro M h
  unfold X3_takeEaster at h
  intro H locs ls hP hS hl
  refine lv_aload_n hx hb dX3_takeEaster_0 rfl (lv_at hl 0 rfl) ?_
  refine me_getr (ci := 3) (C := RX3) (T := TX3) (N := 1) hx hb hts in_X3_takeEaster_X3 hown hK hP hT.1 rfl 0 (by decide) (hts _ kX3_takeEaster_f11) rfl dX3_takeEaster_1 ?_
  refine lv_iconst (v := (0 : Int32)) hx hb dX3_takeEaster_4 (by decide) ?_
  obtain ⟨hi, h⟩ := s_ald_inv h
  refine me_ald hx hb hK hP hT.2 hi dX3_takeEaster_5 (fun v5 ev => ?_)
  replace h := h v5 ev
  refine lv_iconst (v := (1 : Int32)) hx hb dX3_takeEaster_6 (by decide) ?_
  refine lv_icmp_lt (tgt := 25) hx hb dX3_takeEaster_7 (by decide) (fun q => ?_) (fun q => ?_)
  · rw [if_pos q] at h
    refine lv_iconst (v := (0 : Int32)) hx hb dX3_takeEaster_25 (by decide) ?_
    exact w_X3_takeEaster_26 C0 t hT t1 hT1 (0 : Int32) M h H locs ls hP hS (lv_sub hl [0, 1] rfl)
  · rw [if_neg q] at h
    refine lv_aload_n hx hb dX3_takeEaster_10 rfl (lv_at hl 0 rfl) ?_
    refine me_getr (ci := 3) (C := RX3) (T := TX3) (N := 1) hx hb hts in_X3_takeEaster_X3 hown hK hP hT.1 rfl 0 (by decide) (hts _ kX3_takeEaster_f11) rfl dX3_takeEaster_11 ?_
    refine lv_iconst (v := (0 : Int32)) hx hb dX3_takeEaster_14 (by decide) ?_
    obtain ⟨hi, h⟩ := s_ald_inv h
    refine me_ald hx hb hK hP hT.2 hi dX3_takeEaster_15 (fun v15 ev => ?_)
    replace h := h v15 ev
    refine lv_bipush (v := (60 : Int32)) hx hb dX3_takeEaster_16 (by decide) ?_
    refine lv_icmp_gt (tgt := 25) hx hb dX3_takeEaster_18 (by decide) (fun q => ?_) (fun q => ?_)
    · rw [if_pos q] at h
      refine lv_iconst (v := (0 : Int32)) hx hb dX3_takeEaster_25 (by decide) ?_
      exact w_X3_takeEaster_26 C0 t hT t1 hT1 (0 : Int32) M h H locs ls hP hS (lv_sub hl [0, 1] rfl)
    · rw [if_neg q] at h
      refine lv_iconst (v := (1 : Int32)) hx hb dX3_takeEaster_21 (by decide) ?_
      refine lv_goto (tgt := 26) hx hb dX3_takeEaster_22 (by decide) ?_
      exact w_X3_takeEaster_26 C0 t hT t1 hT1 (1 : Int32) M h H locs ls hP hS (lv_sub hl [0, 1] rfl)
theorem c_X3_takeEaster {l : Launch} {D : va_G} {cI : ClassId} {ad : Nat → Nat} {L : List CDs} {t : Nat} (hT : is_X3 L t) {t1 : Nat} (hT1 : is_X4 L t1)  {M M' : Mem} {r : Int32} (h : X3_takeEaster t t1 M = some (r, M')) : me_Met l yX3_takeEaster wsX3_takeEaster rmX3_takeEaster D cI ad L [.ref (ad t), .ref (ad t1)] (some (.int r)) M M' :=
  me_ofW (by decide) rfl (Nat.le_of_ble_eq_true rfl) (fun p e s m below meth c C0 => w_X3_takeEaster C0 t hT t1 hT1 M h)
abbrev rmX3_readItem : Room := { frames := 3, cells := 0, slots := 0, locals := 72 }
theorem hd_X3_readItem : yX3_readItem.cls = RX3 ∧ yX3_readItem.cls ≠ "java/lang/invoke/MethodHandle" ∧ yX3_readItem.cls ≠ "java/lang/invoke/VarHandle" ∧ (parseMethodDescriptor yX3_readItem.desc).map (fun d => d.parameters.length) = some 3 := by decide +kernel
set_option maxRecDepth 100000 in
set_option maxHeartbeats 4000000 in
theorem w_X3_readItem {p : Program} {l : Launch} {e : Env} {s : State} {m : MethodId} {args : Array Value} {below : List Frame} {meth : Method} {c : Code} {D : va_G} {cI : ClassId} {ad : Nat → Nat} {L : List CDs} {r : Int32} {M' : Mem} (C0 : me_X p s m args meth c cX3_readItem 6 (some .int) wsX3_readItem RX3 D cI ad L) (t : Nat) (hT : is_X3 L t) (t1 : Nat) (hT1 : is_X1 L t1) (t3 : Nat) (hT3 : is_X4 L t3) (x2 : Int32) : ∀  (M : Mem), X3_readItem t t1 t3 x2 M = some (r, M') → me_W p l e rmX3_readItem s m args below meth c D cI ad L (some (.int r)) M' 6 0 [(0, .ref (ad t)), (1, .ref (ad t1)), (2, .int x2), (3, .ref (ad t3))] [] M := by
  obtain ⟨hx, hb, hr, hml, hown, hts, hlk, hK, hI⟩ := id C0
  intro M h
  unfold X3_readItem at h
  intro H locs ls hP hS hl
  refine lv_aload_n hx hb dX3_readItem_0 rfl (lv_at hl 1 rfl) ?_
  refine lv_iload_n hx hb dX3_readItem_1 rfl (lv_at hl 2 rfl) ?_
  obtain ⟨v2, M2, h1, h⟩ := s_call_inv h
  refine me_callVi (As := [.int x2]) (rest := []) ⟨hx, hb, hml, hown, hts⟩ (c_X1_at hT1 h1) (cwV 1 hts gX3_readItem_X1_at rfl rfl rfl hd_X1_at ⟨(Nat.le_of_ble_eq_true rfl), (Nat.le_of_ble_eq_true rfl)⟩) hK hI hP hS hT1.1 rfl rfl hl.1 rfl (Nat.le_of_ble_eq_true rfl) dX3_readItem_2 ⟨Nat.zero_le _, Nat.zero_le _⟩ (fun H locs hP hS => ?_)
  refine lv_istore (lv' := [(4, .int v2), (0, .ref (ad t)), (1, .ref (ad t1)), (2, .int x2), (3, .ref (ad t3))]) hx hb dX3_readItem_5 hl (by decide) rfl (fun ls hl => ?_)
  refine lv_aload_n hx hb dX3_readItem_7 rfl (lv_at hl 1 rfl) ?_
  refine lv_aload_n hx hb dX3_readItem_8 rfl (lv_at hl 2 rfl) ?_
  refine lv_iload_n hx hb dX3_readItem_9 rfl (lv_at hl 3 rfl) ?_
  refine lv_iconst (v := (1 : Int32)) hx hb dX3_readItem_10 (by decide) ?_
  refine lv_iadd hx hb dX3_readItem_11 ?_
  refine lv_iload hx hb dX3_readItem_12 (lv_at hl 0 rfl) ?_
  obtain ⟨v14, M14, h1, h⟩ := s_call_inv h
  refine me_callSi (As := [.int v2]) (rest := [.int (x2 + (1 : Int32)), .ref (ad t1), .ref (ad t)]) ⟨hx, hb, hml, hown, hts⟩ (c_X3_numbersBehind h1) (va_cwS 1 hts gX3_readItem_X3_numbersBehind rfl rfl rfl hd_X3_numbersBehind.2 ⟨(Nat.le_of_ble_eq_true rfl), (Nat.le_of_ble_eq_true rfl)⟩) hK hI hP hS rfl hl.1 rfl (Nat.le_of_ble_eq_true rfl) dX3_readItem_14 ⟨Nat.zero_le _, Nat.zero_le _⟩ (fun H locs hP hS => ?_)
  obtain ⟨v17, M17, h1, h⟩ := s_call_inv h
  refine me_callVi (As := [.ref (ad t1), .int (x2 + (1 : Int32)), .int v14]) (rest := []) ⟨hx, hb, hml, hown, hts⟩ (c_X3_readNumbers hT hT1 h1) (cwV 3 hts gX3_readItem_X3_readNumbers rfl rfl rfl hd_X3_readNumbers ⟨(Nat.le_of_ble_eq_true rfl), (Nat.le_of_ble_eq_true rfl)⟩) hK hI hP hS hT.1 rfl rfl hl.1 rfl (Nat.le_of_ble_eq_true rfl) dX3_readItem_17 ⟨Nat.zero_le _, Nat.zero_le _⟩ (fun H locs hP hS => ?_)
  refine lv_istore (lv' := [(5, .int v17), (4, .int v2), (0, .ref (ad t)), (1, .ref (ad t1)), (2, .int x2), (3, .ref (ad t3))]) hx hb dX3_readItem_20 hl (by decide) rfl (fun ls hl => ?_)
  refine lv_iload hx hb dX3_readItem_22 (lv_at hl 0 rfl) ?_
  refine lv_iconst (v := (-1 : Int32)) hx hb dX3_readItem_24 (by decide) ?_
  refine lv_icmp_ne (tgt := 30) hx hb dX3_readItem_25 (by decide) (fun q => ?_) (fun q => ?_)
  · rw [if_pos q] at h
    refine lv_iload hx hb dX3_readItem_30 (lv_at hl 1 rfl) ?_
    by_cases q0 : v2 = (101 : Int32)
    · rw [if_pos q0] at h
      refine lv_lookup (tgt := 98) (off := 66) hx hb dX3_readItem_32 (by decide) (by rw [q0]; rfl) (by decide) ?_
      refine lv_aload_n hx hb dX3_readItem_98 rfl (lv_at hl 2 rfl) ?_
      refine lv_aload_n hx hb dX3_readItem_99 rfl (lv_at hl 5 rfl) ?_
      obtain ⟨v100, M100, h1, h⟩ := s_call_inv h
      refine me_callVi (As := [.ref (ad t3)]) (rest := []) ⟨hx, hb, hml, hown, hts⟩ (c_X3_takeEaster hT hT3 h1) (cwV 1 hts gX3_readItem_X3_takeEaster rfl rfl rfl hd_X3_takeEaster ⟨(Nat.le_of_ble_eq_true rfl), (Nat.le_of_ble_eq_true rfl)⟩) hK hI hP hS hT.1 rfl rfl hl.1 rfl (Nat.le_of_ble_eq_true rfl) dX3_readItem_100 ⟨Nat.zero_le _, Nat.zero_le _⟩ (fun H locs hP hS => ?_)
      refine lv_if_eq (tgt := 111) hx hb dX3_readItem_103 (by decide) (fun q => ?_) (fun q => ?_)
      · rw [if_pos q] at h
        refine lv_iconst (v := (-1 : Int32)) hx hb dX3_readItem_111 (by decide) ?_
        exact me_iret hx hb hr hlk hP hS h dX3_readItem_112
      · rw [if_neg q] at h
        refine lv_iload hx hb dX3_readItem_106 (lv_at hl 0 rfl) ?_
        refine lv_goto (tgt := 112) hx hb dX3_readItem_108 (by decide) ?_
        exact me_iret hx hb hr hlk hP hS h dX3_readItem_112
    rw [if_neg q0] at h
    by_cases q1 : v2 = (111 : Int32)
    · rw [if_pos q1] at h
      refine lv_lookup (tgt := 83) (off := 51) hx hb dX3_readItem_32 (by decide) (by rw [q1]; rfl) (by decide) ?_
      refine lv_aload_n hx hb dX3_readItem_83 rfl (lv_at hl 2 rfl) ?_
      refine lv_aload_n hx hb dX3_readItem_84 rfl (lv_at hl 5 rfl) ?_
      obtain ⟨v85, M85, h1, h⟩ := s_call_inv h
      refine me_callVi (As := [.ref (ad t3)]) (rest := []) ⟨hx, hb, hml, hown, hts⟩ (c_X3_takeDebt hT hT3 h1) (cwV 1 hts gX3_readItem_X3_takeDebt rfl rfl rfl hd_X3_takeDebt ⟨(Nat.le_of_ble_eq_true rfl), (Nat.le_of_ble_eq_true rfl)⟩) hK hI hP hS hT.1 rfl rfl hl.1 rfl (Nat.le_of_ble_eq_true rfl) dX3_readItem_85 ⟨Nat.zero_le _, Nat.zero_le _⟩ (fun H locs hP hS => ?_)
      refine lv_if_eq (tgt := 96) hx hb dX3_readItem_88 (by decide) (fun q => ?_) (fun q => ?_)
      · rw [if_pos q] at h
        refine lv_iconst (v := (-1 : Int32)) hx hb dX3_readItem_96 (by decide) ?_
        exact me_iret hx hb hr hlk hP hS h dX3_readItem_97
      · rw [if_neg q] at h
        refine lv_iload hx hb dX3_readItem_91 (lv_at hl 0 rfl) ?_
        refine lv_goto (tgt := 97) hx hb dX3_readItem_93 (by decide) ?_
        exact me_iret hx hb hr hlk hP hS h dX3_readItem_97
    rw [if_neg q1] at h
    by_cases q2 : v2 = (112 : Int32)
    · rw [if_pos q2] at h
      refine lv_lookup (tgt := 68) (off := 36) hx hb dX3_readItem_32 (by decide) (by rw [q2]; rfl) (by decide) ?_
      refine lv_aload_n hx hb dX3_readItem_68 rfl (lv_at hl 2 rfl) ?_
      refine lv_aload_n hx hb dX3_readItem_69 rfl (lv_at hl 5 rfl) ?_
      obtain ⟨v70, M70, h1, h⟩ := s_call_inv h
      refine me_callVi (As := [.ref (ad t3)]) (rest := []) ⟨hx, hb, hml, hown, hts⟩ (c_X3_takePerson hT hT3 h1) (cwV 1 hts gX3_readItem_X3_takePerson rfl rfl rfl hd_X3_takePerson ⟨(Nat.le_of_ble_eq_true rfl), (Nat.le_of_ble_eq_true rfl)⟩) hK hI hP hS hT.1 rfl rfl hl.1 rfl (Nat.le_of_ble_eq_true rfl) dX3_readItem_70 ⟨Nat.zero_le _, Nat.zero_le _⟩ (fun H locs hP hS => ?_)
      refine lv_if_eq (tgt := 81) hx hb dX3_readItem_73 (by decide) (fun q => ?_) (fun q => ?_)
      · rw [if_pos q] at h
        refine lv_iconst (v := (-1 : Int32)) hx hb dX3_readItem_81 (by decide) ?_
        exact me_iret hx hb hr hlk hP hS h dX3_readItem_82
      · rw [if_neg q] at h
        refine lv_iload hx hb dX3_readItem_76 (lv_at hl 0 rfl) ?_
        refine lv_goto (tgt := 82) hx hb dX3_readItem_78 (by decide) ?_
        exact me_iret hx hb hr hlk hP hS h dX3_readItem_82
    rw [if_neg q2] at h
    refine lv_lookup (tgt := 113) (off := 81) hx hb dX3_readItem_32 (by decide) ((lv_osw q0 (by decide)).trans ((lv_osw q1 (by decide)).trans ((lv_osw q2 (by decide)).trans rfl))) (by decide) ?_
    refine lv_iconst (v := (-1 : Int32)) hx hb dX3_readItem_113 (by decide) ?_
    exact me_iret hx hb hr hlk hP hS h dX3_readItem_114
  · rw [if_neg (not_not_intro q)] at h
    refine lv_iconst (v := (-1 : Int32)) hx hb dX3_readItem_28 (by decide) ?_
    exact me_iret hx hb hr hlk hP hS h dX3_readItem_29
theorem c_X3_readItem {l : Launch} {D : va_G} {cI : ClassId} {ad : Nat → Nat} {L : List CDs} {t : Nat} (hT : is_X3 L t) {t1 : Nat} (hT1 : is_X1 L t1) {t3 : Nat} (hT3 : is_X4 L t3) {x2 : Int32} {M M' : Mem} {r : Int32} (h : X3_readItem t t1 t3 x2 M = some (r, M')) : me_Met l yX3_readItem wsX3_readItem rmX3_readItem D cI ad L [.ref (ad t), .ref (ad t1), .int x2, .ref (ad t3)] (some (.int r)) M M' :=
  me_ofW (by decide) rfl (Nat.le_of_ble_eq_true rfl) (fun p e s m below meth c C0 => w_X3_readItem C0 t hT t1 hT1 t3 hT3 x2 M h)
abbrev rmX3_readTown : Room := { frames := 4, cells := 0, slots := 0, locals := 97 }
theorem hd_X3_readTown : yX3_readTown.cls = RX3 ∧ yX3_readTown.cls ≠ "java/lang/invoke/MethodHandle" ∧ yX3_readTown.cls ≠ "java/lang/invoke/VarHandle" ∧ (parseMethodDescriptor yX3_readTown.desc).map (fun d => d.parameters.length) = some 2 := by decide +kernel
set_option maxRecDepth 100000 in
set_option maxHeartbeats 4000000 in
theorem w_X3_readTown_9 {p : Program} {l : Launch} {e : Env} {s : State} {m : MethodId} {args : Array Value} {below : List Frame} {meth : Method} {c : Code} {D : va_G} {cI : ClassId} {ad : Nat → Nat} {L : List CDs} {r : Int32} {M' : Mem} (C0 : me_X p s m args meth c cX3_readTown 6 (some .int) wsX3_readTown RX3 D cI ad L) (t : Nat) (hT : is_X3 L t) (t1 : Nat) (hT1 : is_X1 L t1) (t2 : Nat) (hT2 : is_X4 L t2) : ∀ (n : Nat) (x3 : Int32) (x4 : Int32) (M : Mem), X3_readTown_9 t t1 t2 n x3 x4 M = some (r, M') → me_W p l e rmX3_readTown s m args below meth c D cI ad L (some (.int r)) M' 6 9 [(0, .ref (ad t)), (1, .ref (ad t1)), (2, .ref (ad t2)), (3, .int x3), (4, .int x4)] [] M := by
  obtain ⟨hx, hb, hr, hml, hown, hts, hlk, hK, hI⟩ := id C0
  intro n
  induction n with
  | zero =>
    intro x3 x4 M h
    rw [X3_readTown_9] at h
    cases h
  | succ n ih =>
    intro x3 x4 M h
    rw [X3_readTown_9] at h
    intro H locs ls hP hS hl
    refine lv_iload hx hb dX3_readTown_9 (lv_at hl 4 rfl) ?_
    refine lv_sipush (v := (200 : Int32)) hx hb dX3_readTown_11 (by decide) ?_
    refine lv_icmp_ge (tgt := 51) hx hb dX3_readTown_14 (by decide) (fun q => ?_) (fun q => ?_)
    · rw [if_pos q] at h
      refine lv_bipush (v := (-4 : Int32)) hx hb dX3_readTown_51 (by decide) ?_
      exact me_iret hx hb hr hlk hP hS h dX3_readTown_53
    · rw [if_neg q] at h
      refine lv_iload_n hx hb dX3_readTown_17 rfl (lv_at hl 3 rfl) ?_
      refine lv_aload_n hx hb dX3_readTown_18 rfl (lv_at hl 1 rfl) ?_
      obtain ⟨v19, M19, h1, h⟩ := s_call_inv h
      refine me_callVi (As := []) (rest := [.int x3]) ⟨hx, hb, hml, hown, hts⟩ (c_X1_length hT1 h1) (cwV 0 hts gX3_readTown_X1_length rfl rfl rfl hd_X1_length ⟨(Nat.le_of_ble_eq_true rfl), (Nat.le_of_ble_eq_true rfl)⟩) hK hI hP hS hT1.1 rfl rfl hl.1 rfl (Nat.le_of_ble_eq_true rfl) dX3_readTown_19 ⟨Nat.zero_le _, Nat.zero_le _⟩ (fun H locs hP hS => ?_)
      refine lv_icmp_ge (tgt := 51) hx hb dX3_readTown_22 (by decide) (fun q => ?_) (fun q => ?_)
      · rw [if_pos q] at h
        refine lv_bipush (v := (-4 : Int32)) hx hb dX3_readTown_51 (by decide) ?_
        exact me_iret hx hb hr hlk hP hS h dX3_readTown_53
      · rw [if_neg q] at h
        refine lv_aload_n hx hb dX3_readTown_25 rfl (lv_at hl 0 rfl) ?_
        refine lv_aload_n hx hb dX3_readTown_26 rfl (lv_at hl 1 rfl) ?_
        refine lv_iload_n hx hb dX3_readTown_27 rfl (lv_at hl 3 rfl) ?_
        refine lv_aload_n hx hb dX3_readTown_28 rfl (lv_at hl 2 rfl) ?_
        obtain ⟨v29, M29, h1, h⟩ := s_call_inv h
        refine me_callVi (As := [.ref (ad t1), .int x3, .ref (ad t2)]) (rest := []) ⟨hx, hb, hml, hown, hts⟩ (c_X3_readItem hT hT1 hT2 h1) (cwV 3 hts gX3_readTown_X3_readItem rfl rfl rfl hd_X3_readItem ⟨(Nat.le_of_ble_eq_true rfl), (Nat.le_of_ble_eq_true rfl)⟩) hK hI hP hS hT.1 rfl rfl hl.1 rfl (Nat.le_of_ble_eq_true rfl) dX3_readTown_29 ⟨Nat.zero_le _, Nat.zero_le _⟩ (fun H locs hP hS => ?_)
        refine lv_istore (lv' := [(5, .int v29), (0, .ref (ad t)), (1, .ref (ad t1)), (2, .ref (ad t2)), (3, .int x3), (4, .int x4)]) hx hb dX3_readTown_32 hl (by decide) rfl (fun ls hl => ?_)
        refine lv_iload hx hb dX3_readTown_34 (lv_at hl 0 rfl) ?_
        refine lv_iconst (v := (-1 : Int32)) hx hb dX3_readTown_36 (by decide) ?_
        refine lv_icmp_ne (tgt := 42) hx hb dX3_readTown_37 (by decide) (fun q => ?_) (fun q => ?_)
        · rw [if_pos q] at h
          refine lv_iload hx hb dX3_readTown_42 (lv_at hl 0 rfl) ?_
          refine lv_istore_n (lv' := [(3, .int v29), (5, .int v29), (0, .ref (ad t)), (1, .ref (ad t1)), (2, .ref (ad t2)), (4, .int x4)]) hx hb dX3_readTown_44 rfl hl (by decide) rfl (fun ls hl => ?_)
          refine lv_iinc (k := 5) (v := (x4 + (1 : Int32))) (lv' := [(4, .int (x4 + (1 : Int32))), (3, .int v29), (5, .int v29), (0, .ref (ad t)), (1, .ref (ad t1)), (2, .ref (ad t2))]) hx hb dX3_readTown_45 hl rfl rfl (by decide) rfl (fun ls hl => ?_)
          refine lv_goto (tgt := 9) hx hb dX3_readTown_48 (by decide) ?_
          exact ih v29 (x4 + (1 : Int32)) M29 h H locs ls hP hS (lv_sub hl [3, 4, 5, 1, 0] rfl)
        · rw [if_neg (not_not_intro q)] at h
          refine lv_iload_n hx hb dX3_readTown_40 rfl (lv_at hl 4 rfl) ?_
          exact me_iret hx hb hr hlk hP hS h dX3_readTown_41
set_option maxRecDepth 100000 in
set_option maxHeartbeats 4000000 in
theorem w_X3_readTown {p : Program} {l : Launch} {e : Env} {s : State} {m : MethodId} {args : Array Value} {below : List Frame} {meth : Method} {c : Code} {D : va_G} {cI : ClassId} {ad : Nat → Nat} {L : List CDs} {r : Int32} {M' : Mem} (C0 : me_X p s m args meth c cX3_readTown 6 (some .int) wsX3_readTown RX3 D cI ad L) (t : Nat) (hT : is_X3 L t) (t1 : Nat) (hT1 : is_X1 L t1) (t2 : Nat) (hT2 : is_X4 L t2) : ∀  (M : Mem), X3_readTown t t1 t2 M = some (r, M') → me_W p l e rmX3_readTown s m args below meth c D cI ad L (some (.int r)) M' 6 0 [(0, .ref (ad t)), (1, .ref (ad t1)), (2, .ref (ad t2))] [] M := by
  obtain ⟨hx, hb, hr, hml, hown, hts, hlk, hK, hI⟩ := id C0
  intro M h
  unfold X3_readTown at h
  intro H locs ls hP hS hl
  refine lv_aload_n hx hb dX3_readTown_0 rfl (lv_at hl 2 rfl) ?_
  obtain ⟨u1, M1, h1, h⟩ := s_call_inv h
  refine me_callVv (As := []) (rest := []) ⟨hx, hb, hml, hown, hts⟩ (c_X4_clear hT2 h1) (cwV 0 hts gX3_readTown_X4_clear rfl rfl rfl hd_X4_clear ⟨(Nat.le_of_ble_eq_true rfl), (Nat.le_of_ble_eq_true rfl)⟩) hK hI hP hS hT2.1 rfl rfl hl.1 rfl (Nat.le_of_ble_eq_true rfl) dX3_readTown_1 ⟨Nat.zero_le _, Nat.zero_le _⟩ (fun H locs hP hS => ?_)
  refine lv_iconst (v := (0 : Int32)) hx hb dX3_readTown_4 (by decide) ?_
  refine lv_istore_n (lv' := [(3, .int (0 : Int32)), (0, .ref (ad t)), (1, .ref (ad t1)), (2, .ref (ad t2))]) hx hb dX3_readTown_5 rfl hl (by decide) rfl (fun ls hl => ?_)
  refine lv_iconst (v := (0 : Int32)) hx hb dX3_readTown_6 (by decide) ?_
  refine lv_istore (lv' := [(4, .int (0 : Int32)), (3, .int (0 : Int32)), (0, .ref (ad t)), (1, .ref (ad t1)), (2, .ref (ad t2))]) hx hb dX3_readTown_7 hl (by decide) rfl (fun ls hl => ?_)
  exact w_X3_readTown_9 C0 t hT t1 hT1 t2 hT2 FU (0 : Int32) (0 : Int32) M1 h H locs ls hP hS (lv_sub hl [2, 3, 4, 1, 0] rfl)
theorem c_X3_readTown {l : Launch} {D : va_G} {cI : ClassId} {ad : Nat → Nat} {L : List CDs} {t : Nat} (hT : is_X3 L t) {t1 : Nat} (hT1 : is_X1 L t1) {t2 : Nat} (hT2 : is_X4 L t2)  {M M' : Mem} {r : Int32} (h : X3_readTown t t1 t2 M = some (r, M')) : me_Met l yX3_readTown wsX3_readTown rmX3_readTown D cI ad L [.ref (ad t), .ref (ad t1), .ref (ad t2)] (some (.int r)) M M' :=
  me_ofW (by decide) rfl (Nat.le_of_ble_eq_true rfl) (fun p e s m below meth c C0 => w_X3_readTown C0 t hT t1 hT1 t2 hT2 M h)
abbrev rmX4_copyFrom : Room := { frames := 1, cells := 0, slots := 0, locals := 26 }
theorem kX4_copyFrom_f24 : (Cond.fieldLink RX4 24 "LadderOfBows$Town" "persons" "I") ∈ wsX4_copyFrom := List.mem_of_getElem? (i := 1) rfl
theorem kX4_copyFrom_f28 : (Cond.fieldLink RX4 28 "LadderOfBows$Town" "day" "I") ∈ wsX4_copyFrom := List.mem_of_getElem? (i := 2) rfl
theorem kX4_copyFrom_f31 : (Cond.fieldLink RX4 31 "LadderOfBows$Town" "easterDay" "I") ∈ wsX4_copyFrom := List.mem_of_getElem? (i := 3) rfl
theorem kX4_copyFrom_f34 : (Cond.fieldLink RX4 34 "LadderOfBows$Town" "aliveBits" "I") ∈ wsX4_copyFrom := List.mem_of_getElem? (i := 4) rfl
theorem kX4_copyFrom_f9 : (Cond.fieldLink RX4 9 "LadderOfBows$Town" "kinds" "[I") ∈ wsX4_copyFrom := List.mem_of_getElem? (i := 5) rfl
theorem kX4_copyFrom_m43 : (Cond.methodLink RX4 43 arraycopyName) ∈ wsX4_copyFrom := List.mem_of_getElem? (i := 6) rfl
theorem kX4_copyFrom_natcpy : (Cond.native arraycopyName) ∈ wsX4_copyFrom := List.mem_of_getElem? (i := 7) rfl
theorem kX4_copyFrom_stcpy : (Cond.static arraycopyName) ∈ wsX4_copyFrom := List.mem_of_getElem? (i := 8) rfl
theorem kX4_copyFrom_iniSys : (Cond.initialized "java/lang/System") ∈ wsX4_copyFrom := List.mem_of_getElem? (i := 9) rfl
theorem kX4_copyFrom_f15 : (Cond.fieldLink RX4 15 "LadderOfBows$Town" "streets" "[I") ∈ wsX4_copyFrom := List.mem_of_getElem? (i := 10) rfl
theorem kX4_copyFrom_f18 : (Cond.fieldLink RX4 18 "LadderOfBows$Town" "debts" "[I") ∈ wsX4_copyFrom := List.mem_of_getElem? (i := 11) rfl
theorem kX4_copyFrom_f21 : (Cond.fieldLink RX4 21 "LadderOfBows$Town" "owing" "[I") ∈ wsX4_copyFrom := List.mem_of_getElem? (i := 12) rfl
theorem in_X4_copyFrom_X4 : ∀ w ∈ wsX40, w ∈ wsX4_copyFrom := by decide +kernel
theorem hd_X4_copyFrom : yX4_copyFrom.cls = RX4 ∧ yX4_copyFrom.cls ≠ "java/lang/invoke/MethodHandle" ∧ yX4_copyFrom.cls ≠ "java/lang/invoke/VarHandle" ∧ (parseMethodDescriptor yX4_copyFrom.desc).map (fun d => d.parameters.length) = some 1 := by decide +kernel
set_option maxRecDepth 100000 in
set_option maxHeartbeats 4000000 in
theorem w_X4_copyFrom {p : Program} {l : Launch} {e : Env} {s : State} {m : MethodId} {args : Array Value} {below : List Frame} {meth : Method} {c : Code} {D : va_G} {cI : ClassId} {ad : Nat → Nat} {L : List CDs} {r : Unit} {M' : Mem} (C0 : me_X p s m args meth c cX4_copyFrom 2 none wsX4_copyFrom RX4 D cI ad L) (t : Nat) (hT : is_X4 L t) (t1 : Nat) (hT1 : is_X4 L t1) : ∀  (M : Mem), X4_copyFrom t t1 M = some (r, M') → me_W p l e rmX4_copyFrom s m args below meth c D cI ad L none M' 2 0 [(0, .ref (ad t)), (1, .ref (ad t1))] [] M := by
  obtain ⟨hx, hb, hr, hml, hown, hts, hlk, hK, hI⟩ := id C0
  intro M h
  unfold X4_copyFrom at h
  intro H locs ls hP hS hl
  refine lv_aload_n hx hb dX4_copyFrom_0 rfl (lv_at hl 0 rfl) ?_
  refine lv_aload_n hx hb dX4_copyFrom_1 rfl (lv_at hl 1 rfl) ?_
  refine me_get (ci := 4) (C := RX4) (T := TX4) (N := 8) hx hb hts in_X4_copyFrom_X4 hown hK hP hT1.1 rfl 0 (by decide) (hts _ kX4_copyFrom_f24) rfl dX4_copyFrom_2 ?_
  refine me_put (ci := 4) (C := RX4) (T := TX4) (N := 8) hx hb hts in_X4_copyFrom_X4 tyX4_ok nmX4 hown hK hI hP hS hT.1 rfl 0 (by decide) (hts _ kX4_copyFrom_f24) rfl rfl rfl dX4_copyFrom_5 (fun H locs M5 eM hP hS => ?_)
  replace h := s_put_inv h M5 eM
  refine lv_aload_n hx hb dX4_copyFrom_8 rfl (lv_at hl 0 rfl) ?_
  refine lv_aload_n hx hb dX4_copyFrom_9 rfl (lv_at hl 1 rfl) ?_
  refine me_get (ci := 4) (C := RX4) (T := TX4) (N := 8) hx hb hts in_X4_copyFrom_X4 hown hK hP hT1.1 rfl 1 (by decide) (hts _ kX4_copyFrom_f28) rfl dX4_copyFrom_10 ?_
  refine me_put (ci := 4) (C := RX4) (T := TX4) (N := 8) hx hb hts in_X4_copyFrom_X4 tyX4_ok nmX4 hown hK hI hP hS hT.1 rfl 1 (by decide) (hts _ kX4_copyFrom_f28) rfl rfl rfl dX4_copyFrom_13 (fun H locs M13 eM hP hS => ?_)
  replace h := s_put_inv h M13 eM
  refine lv_aload_n hx hb dX4_copyFrom_16 rfl (lv_at hl 0 rfl) ?_
  refine lv_aload_n hx hb dX4_copyFrom_17 rfl (lv_at hl 1 rfl) ?_
  refine me_get (ci := 4) (C := RX4) (T := TX4) (N := 8) hx hb hts in_X4_copyFrom_X4 hown hK hP hT1.1 rfl 2 (by decide) (hts _ kX4_copyFrom_f31) rfl dX4_copyFrom_18 ?_
  refine me_put (ci := 4) (C := RX4) (T := TX4) (N := 8) hx hb hts in_X4_copyFrom_X4 tyX4_ok nmX4 hown hK hI hP hS hT.1 rfl 2 (by decide) (hts _ kX4_copyFrom_f31) rfl rfl rfl dX4_copyFrom_21 (fun H locs M21 eM hP hS => ?_)
  replace h := s_put_inv h M21 eM
  refine lv_aload_n hx hb dX4_copyFrom_24 rfl (lv_at hl 0 rfl) ?_
  refine lv_aload_n hx hb dX4_copyFrom_25 rfl (lv_at hl 1 rfl) ?_
  refine me_get (ci := 4) (C := RX4) (T := TX4) (N := 8) hx hb hts in_X4_copyFrom_X4 hown hK hP hT1.1 rfl 3 (by decide) (hts _ kX4_copyFrom_f34) rfl dX4_copyFrom_26 ?_
  refine me_put (ci := 4) (C := RX4) (T := TX4) (N := 8) hx hb hts in_X4_copyFrom_X4 tyX4_ok nmX4 hown hK hI hP hS hT.1 rfl 3 (by decide) (hts _ kX4_copyFrom_f34) rfl rfl rfl dX4_copyFrom_29 (fun H locs M29 eM hP hS => ?_)
  replace h := s_put_inv h M29 eM
  refine lv_aload_n hx hb dX4_copyFrom_32 rfl (lv_at hl 1 rfl) ?_
  refine me_getr (ci := 4) (C := RX4) (T := TX4) (N := 8) hx hb hts in_X4_copyFrom_X4 hown hK hP hT1.1 rfl 4 (by decide) (hts _ kX4_copyFrom_f9) rfl dX4_copyFrom_33 ?_
  refine lv_iconst (v := (0 : Int32)) hx hb dX4_copyFrom_36 (by decide) ?_
  refine lv_aload_n hx hb dX4_copyFrom_37 rfl (lv_at hl 0 rfl) ?_
  refine me_getr (ci := 4) (C := RX4) (T := TX4) (N := 8) hx hb hts in_X4_copyFrom_X4 hown hK hP hT.1 rfl 4 (by decide) (hts _ kX4_copyFrom_f9) rfl dX4_copyFrom_38 ?_
  refine lv_iconst (v := (0 : Int32)) hx hb dX4_copyFrom_41 (by decide) ?_
  refine lv_bipush (v := (8 : Int32)) hx hb dX4_copyFrom_42 (by decide) ?_
  obtain ⟨hi, h⟩ := s_cpy_inv h
  refine me_cpy (rest := []) hx hb (hml.trans hl.1.symm) hown (hts _ kX4_copyFrom_m43) (hts _ kX4_copyFrom_natcpy) (hts _ kX4_copyFrom_stcpy) (hts _ kX4_copyFrom_iniSys) hK hI hP hS hT1.2.1 hT.2.1 hi (Nat.le_of_ble_eq_true rfl) (by decide) dX4_copyFrom_44 (fun H locs M44 eM hP hS => ?_)
  replace h := h M44 eM
  refine lv_aload_n hx hb dX4_copyFrom_47 rfl (lv_at hl 1 rfl) ?_
  refine me_getr (ci := 4) (C := RX4) (T := TX4) (N := 8) hx hb hts in_X4_copyFrom_X4 hown hK hP hT1.1 rfl 5 (by decide) (hts _ kX4_copyFrom_f15) rfl dX4_copyFrom_48 ?_
  refine lv_iconst (v := (0 : Int32)) hx hb dX4_copyFrom_51 (by decide) ?_
  refine lv_aload_n hx hb dX4_copyFrom_52 rfl (lv_at hl 0 rfl) ?_
  refine me_getr (ci := 4) (C := RX4) (T := TX4) (N := 8) hx hb hts in_X4_copyFrom_X4 hown hK hP hT.1 rfl 5 (by decide) (hts _ kX4_copyFrom_f15) rfl dX4_copyFrom_53 ?_
  refine lv_iconst (v := (0 : Int32)) hx hb dX4_copyFrom_56 (by decide) ?_
  refine lv_bipush (v := (8 : Int32)) hx hb dX4_copyFrom_57 (by decide) ?_
  obtain ⟨hi, h⟩ := s_cpy_inv h
  refine me_cpy (rest := []) hx hb (hml.trans hl.1.symm) hown (hts _ kX4_copyFrom_m43) (hts _ kX4_copyFrom_natcpy) (hts _ kX4_copyFrom_stcpy) (hts _ kX4_copyFrom_iniSys) hK hI hP hS hT1.2.2.1 hT.2.2.1 hi (Nat.le_of_ble_eq_true rfl) (by decide) dX4_copyFrom_59 (fun H locs M59 eM hP hS => ?_)
  replace h := h M59 eM
  refine lv_aload_n hx hb dX4_copyFrom_62 rfl (lv_at hl 1 rfl) ?_
  refine me_getr (ci := 4) (C := RX4) (T := TX4) (N := 8) hx hb hts in_X4_copyFrom_X4 hown hK hP hT1.1 rfl 6 (by decide) (hts _ kX4_copyFrom_f18) rfl dX4_copyFrom_63 ?_
  refine lv_iconst (v := (0 : Int32)) hx hb dX4_copyFrom_66 (by decide) ?_
  refine lv_aload_n hx hb dX4_copyFrom_67 rfl (lv_at hl 0 rfl) ?_
  refine me_getr (ci := 4) (C := RX4) (T := TX4) (N := 8) hx hb hts in_X4_copyFrom_X4 hown hK hP hT.1 rfl 6 (by decide) (hts _ kX4_copyFrom_f18) rfl dX4_copyFrom_68 ?_
  refine lv_iconst (v := (0 : Int32)) hx hb dX4_copyFrom_71 (by decide) ?_
  refine lv_bipush (v := (64 : Int32)) hx hb dX4_copyFrom_72 (by decide) ?_
  obtain ⟨hi, h⟩ := s_cpy_inv h
  refine me_cpy (rest := []) hx hb (hml.trans hl.1.symm) hown (hts _ kX4_copyFrom_m43) (hts _ kX4_copyFrom_natcpy) (hts _ kX4_copyFrom_stcpy) (hts _ kX4_copyFrom_iniSys) hK hI hP hS hT1.2.2.2.1 hT.2.2.2.1 hi (Nat.le_of_ble_eq_true rfl) (by decide) dX4_copyFrom_74 (fun H locs M74 eM hP hS => ?_)
  replace h := h M74 eM
  refine lv_aload_n hx hb dX4_copyFrom_77 rfl (lv_at hl 1 rfl) ?_
  refine me_getr (ci := 4) (C := RX4) (T := TX4) (N := 8) hx hb hts in_X4_copyFrom_X4 hown hK hP hT1.1 rfl 7 (by decide) (hts _ kX4_copyFrom_f21) rfl dX4_copyFrom_78 ?_
  refine lv_iconst (v := (0 : Int32)) hx hb dX4_copyFrom_81 (by decide) ?_
  refine lv_aload_n hx hb dX4_copyFrom_82 rfl (lv_at hl 0 rfl) ?_
  refine me_getr (ci := 4) (C := RX4) (T := TX4) (N := 8) hx hb hts in_X4_copyFrom_X4 hown hK hP hT.1 rfl 7 (by decide) (hts _ kX4_copyFrom_f21) rfl dX4_copyFrom_83 ?_
  refine lv_iconst (v := (0 : Int32)) hx hb dX4_copyFrom_86 (by decide) ?_
  refine lv_bipush (v := (8 : Int32)) hx hb dX4_copyFrom_87 (by decide) ?_
  obtain ⟨hi, h⟩ := s_cpy_inv h
  refine me_cpy (rest := []) hx hb (hml.trans hl.1.symm) hown (hts _ kX4_copyFrom_m43) (hts _ kX4_copyFrom_natcpy) (hts _ kX4_copyFrom_stcpy) (hts _ kX4_copyFrom_iniSys) hK hI hP hS hT1.2.2.2.2 hT.2.2.2.2 hi (Nat.le_of_ble_eq_true rfl) (by decide) dX4_copyFrom_89 (fun H locs M89 eM hP hS => ?_)
  replace h := h M89 eM
  exact me_vret hx hb hr hlk hP hS h dX4_copyFrom_92
theorem c_X4_copyFrom {l : Launch} {D : va_G} {cI : ClassId} {ad : Nat → Nat} {L : List CDs} {t : Nat} (hT : is_X4 L t) {t1 : Nat} (hT1 : is_X4 L t1)  {M M' : Mem} {r : Unit} (h : X4_copyFrom t t1 M = some (r, M')) : me_Met l yX4_copyFrom wsX4_copyFrom rmX4_copyFrom D cI ad L [.ref (ad t), .ref (ad t1)] none M M' :=
  me_ofW (by decide) rfl (Nat.le_of_ble_eq_true rfl) (fun p e s m below meth c C0 => w_X4_copyFrom C0 t hT t1 hT1 M h)
abbrev rmX4_isAlive : Room := { frames := 0, cells := 0, slots := 0, locals := 0 }
theorem kX4_isAlive_f34 : (Cond.fieldLink RX4 34 "LadderOfBows$Town" "aliveBits" "I") ∈ wsX4_isAlive := List.mem_of_getElem? (i := 1) rfl
theorem in_X4_isAlive_X4 : ∀ w ∈ wsX40, w ∈ wsX4_isAlive := by decide +kernel
theorem hd_X4_isAlive : yX4_isAlive.cls = RX4 ∧ yX4_isAlive.cls ≠ "java/lang/invoke/MethodHandle" ∧ yX4_isAlive.cls ≠ "java/lang/invoke/VarHandle" ∧ (parseMethodDescriptor yX4_isAlive.desc).map (fun d => d.parameters.length) = some 1 := by decide +kernel
set_option maxRecDepth 100000 in
set_option maxHeartbeats 4000000 in
theorem w_X4_isAlive {p : Program} {l : Launch} {e : Env} {s : State} {m : MethodId} {args : Array Value} {below : List Frame} {meth : Method} {c : Code} {D : va_G} {cI : ClassId} {ad : Nat → Nat} {L : List CDs} {r : Int32} {M' : Mem} (C0 : me_X p s m args meth c cX4_isAlive 2 (some .boolean) wsX4_isAlive RX4 D cI ad L) (t : Nat) (hT : is_X4 L t) (x1 : Int32) : ∀  (M : Mem), X4_isAlive t x1 M = some (r, M') → me_W p l e rmX4_isAlive s m args below meth c D cI ad L (some (.int r)) M' 2 0 [(0, .ref (ad t)), (1, .int x1)] [] M := by
  obtain ⟨hx, hb, hr, hml, hown, hts, hlk, hK, hI⟩ := id C0
  intro M h
  unfold X4_isAlive at h
  intro H locs ls hP hS hl
  refine lv_aload_n hx hb dX4_isAlive_0 rfl (lv_at hl 0 rfl) ?_
  refine me_get (ci := 4) (C := RX4) (T := TX4) (N := 8) hx hb hts in_X4_isAlive_X4 hown hK hP hT.1 rfl 3 (by decide) (hts _ kX4_isAlive_f34) rfl dX4_isAlive_1 ?_
  refine lv_iload_n hx hb dX4_isAlive_4 rfl (lv_at hl 1 rfl) ?_
  refine lv_ishr hx hb dX4_isAlive_5 ?_
  refine lv_iconst (v := (1 : Int32)) hx hb dX4_isAlive_6 (by decide) ?_
  refine lv_iand hx hb dX4_isAlive_7 ?_
  refine lv_iconst (v := (1 : Int32)) hx hb dX4_isAlive_8 (by decide) ?_
  refine lv_icmp_ne (tgt := 16) hx hb dX4_isAlive_9 (by decide) (fun q => ?_) (fun q => ?_)
  · rw [if_pos q] at h
    refine lv_iconst (v := (0 : Int32)) hx hb dX4_isAlive_16 (by decide) ?_
    exact me_zret hx hb hr hlk hP hS h dX4_isAlive_17
  · rw [if_neg (not_not_intro q)] at h
    refine lv_iconst (v := (1 : Int32)) hx hb dX4_isAlive_12 (by decide) ?_
    refine lv_goto (tgt := 17) hx hb dX4_isAlive_13 (by decide) ?_
    exact me_zret hx hb hr hlk hP hS h dX4_isAlive_17
theorem c_X4_isAlive {l : Launch} {D : va_G} {cI : ClassId} {ad : Nat → Nat} {L : List CDs} {t : Nat} (hT : is_X4 L t) {x1 : Int32} {M M' : Mem} {r : Int32} (h : X4_isAlive t x1 M = some (r, M')) : me_Met l yX4_isAlive wsX4_isAlive rmX4_isAlive D cI ad L [.ref (ad t), .int x1] (some (.int r)) M M' :=
  me_ofW (by decide) rfl (Nat.le_of_ble_eq_true rfl) (fun p e s m below meth c C0 => w_X4_isAlive C0 t hT x1 M h)
abbrev rmX4_addStranger : Room := { frames := 1, cells := 0, slots := 0, locals := 24 }
theorem kX4_addStranger_f24 : (Cond.fieldLink RX4 24 "LadderOfBows$Town" "persons" "I") ∈ wsX4_addStranger := List.mem_of_getElem? (i := 1) rfl
theorem in_X4_addStranger_X4 : ∀ w ∈ wsX40, w ∈ wsX4_addStranger := by decide +kernel
theorem hd_X4_addStranger : yX4_addStranger.cls = RX4 ∧ yX4_addStranger.cls ≠ "java/lang/invoke/MethodHandle" ∧ yX4_addStranger.cls ≠ "java/lang/invoke/VarHandle" ∧ (parseMethodDescriptor yX4_addStranger.desc).map (fun d => d.parameters.length) = some 0 := by decide +kernel
set_option maxRecDepth 100000 in
set_option maxHeartbeats 4000000 in
theorem w_X4_addStranger_13 {p : Program} {l : Launch} {e : Env} {s : State} {m : MethodId} {args : Array Value} {below : List Frame} {meth : Method} {c : Code} {D : va_G} {cI : ClassId} {ad : Nat → Nat} {L : List CDs} {r : Unit} {M' : Mem} (C0 : me_X p s m args meth c cX4_addStranger 3 none wsX4_addStranger RX4 D cI ad L) (t : Nat) (hT : is_X4 L t) (x1 : Int32) : ∀ (n : Nat) (x2 : Int32) (M : Mem), X4_addStranger_13 t x1 n x2 M = some (r, M') → me_W p l e rmX4_addStranger s m args below meth c D cI ad L none M' 3 13 [(0, .ref (ad t)), (1, .int x1), (2, .int x2)] [] M := by
  obtain ⟨hx, hb, hr, hml, hown, hts, hlk, hK, hI⟩ := id C0
  intro n
  induction n with
  | zero =>
    intro x2 M h
    rw [X4_addStranger_13] at h
    cases h
  | succ n ih =>
    intro x2 M h
    rw [X4_addStranger_13] at h
    intro H locs ls hP hS hl
    refine lv_iload_n hx hb dX4_addStranger_13 rfl (lv_at hl 2 rfl) ?_
    refine lv_iload_n hx hb dX4_addStranger_14 rfl (lv_at hl 1 rfl) ?_
    refine lv_icmp_ge (tgt := 39) hx hb dX4_addStranger_15 (by decide) (fun q => ?_) (fun q => ?_)
    · rw [if_pos q] at h
      exact me_vret hx hb hr hlk hP hS h dX4_addStranger_39
    · rw [if_neg q] at h
      refine lv_aload_n hx hb dX4_addStranger_18 rfl (lv_at hl 0 rfl) ?_
      refine lv_iload_n hx hb dX4_addStranger_19 rfl (lv_at hl 2 rfl) ?_
      obtain ⟨v20, M20, h1, h⟩ := s_call_inv h
      refine me_callVi (As := [.int x2]) (rest := []) ⟨hx, hb, hml, hown, hts⟩ (c_X4_isAlive hT h1) (cwV 1 hts gX4_addStranger_X4_isAlive rfl rfl rfl hd_X4_isAlive ⟨(Nat.le_of_ble_eq_true rfl), (Nat.le_of_ble_eq_true rfl)⟩) hK hI hP hS hT.1 rfl rfl hl.1 rfl (Nat.le_of_ble_eq_true rfl) dX4_addStranger_20 ⟨Nat.zero_le _, Nat.zero_le _⟩ (fun H locs hP hS => ?_)
      refine lv_if_eq (tgt := 33) hx hb dX4_addStranger_23 (by decide) (fun q => ?_) (fun q => ?_)
      · rw [if_pos q] at h
        refine lv_iinc (k := 2) (v := (x2 + (1 : Int32))) (lv' := [(2, .int (x2 + (1 : Int32))), (0, .ref (ad t)), (1, .int x1)]) hx hb dX4_addStranger_33 hl rfl rfl (by decide) rfl (fun ls hl => ?_)
        refine lv_goto (tgt := 13) hx hb dX4_addStranger_36 (by decide) ?_
        exact ih (x2 + (1 : Int32)) M20 h H locs ls hP hS (lv_sub hl [1, 2, 0] rfl)
      · rw [if_neg q] at h
        refine lv_aload_n hx hb dX4_addStranger_26 rfl (lv_at hl 0 rfl) ?_
        refine lv_iload_n hx hb dX4_addStranger_27 rfl (lv_at hl 1 rfl) ?_
        refine lv_iload_n hx hb dX4_addStranger_28 rfl (lv_at hl 2 rfl) ?_
        refine lv_iconst (v := (1 : Int32)) hx hb dX4_addStranger_29 (by decide) ?_
        obtain ⟨u30, M30, h1, h⟩ := s_call_inv h
        refine me_callVv (As := [.int x1, .int x2, .int (1 : Int32)]) (rest := []) ⟨hx, hb, hml, hown, hts⟩ (c_X4_setDebt hT h1) (cwV 3 hts gX4_addStranger_X4_setDebt rfl rfl rfl hd_X4_setDebt ⟨(Nat.le_of_ble_eq_true rfl), (Nat.le_of_ble_eq_true rfl)⟩) hK hI hP hS hT.1 rfl rfl hl.1 rfl (Nat.le_of_ble_eq_true rfl) dX4_addStranger_30 ⟨Nat.zero_le _, Nat.zero_le _⟩ (fun H locs hP hS => ?_)
        refine lv_iinc (k := 2) (v := (x2 + (1 : Int32))) (lv' := [(2, .int (x2 + (1 : Int32))), (0, .ref (ad t)), (1, .int x1)]) hx hb dX4_addStranger_33 hl rfl rfl (by decide) rfl (fun ls hl => ?_)
        refine lv_goto (tgt := 13) hx hb dX4_addStranger_36 (by decide) ?_
        exact ih (x2 + (1 : Int32)) M30 h H locs ls hP hS (lv_sub hl [1, 2, 0] rfl)
set_option maxRecDepth 100000 in
set_option maxHeartbeats 4000000 in
theorem w_X4_addStranger {p : Program} {l : Launch} {e : Env} {s : State} {m : MethodId} {args : Array Value} {below : List Frame} {meth : Method} {c : Code} {D : va_G} {cI : ClassId} {ad : Nat → Nat} {L : List CDs} {r : Unit} {M' : Mem} (C0 : me_X p s m args meth c cX4_addStranger 3 none wsX4_addStranger RX4 D cI ad L) (t : Nat) (hT : is_X4 L t) : ∀  (M : Mem), X4_addStranger t M = some (r, M') → me_W p l e rmX4_addStranger s m args below meth c D cI ad L none M' 3 0 [(0, .ref (ad t))] [] M := by
  obtain ⟨hx, hb, hr, hml, hown, hts, hlk, hK, hI⟩ := id C0
  intro M h
  unfold X4_addStranger at h
  intro H locs ls hP hS hl
  refine lv_aload_n hx hb dX4_addStranger_0 rfl (lv_at hl 0 rfl) ?_
  refine me_get (ci := 4) (C := RX4) (T := TX4) (N := 8) hx hb hts in_X4_addStranger_X4 hown hK hP hT.1 rfl 0 (by decide) (hts _ kX4_addStranger_f24) rfl dX4_addStranger_1 ?_
  refine lv_topi (fun x1_4 ev => ?_)
  replace h := s_let_inv h x1_4 ev
  refine lv_istore_n (lv' := [(1, .int x1_4), (0, .ref (ad t))]) hx hb dX4_addStranger_4 rfl hl (by decide) rfl (fun ls hl => ?_)
  refine lv_aload_n hx hb dX4_addStranger_5 rfl (lv_at hl 1 rfl) ?_
  refine lv_iconst (v := (0 : Int32)) hx hb dX4_addStranger_6 (by decide) ?_
  refine lv_iconst (v := (0 : Int32)) hx hb dX4_addStranger_7 (by decide) ?_
  obtain ⟨u8, M8, h1, h⟩ := s_call_inv h
  refine me_callVv (As := [.int (0 : Int32), .int (0 : Int32)]) (rest := []) ⟨hx, hb, hml, hown, hts⟩ (c_X4_addPerson hT h1) (cwV 2 hts gX4_addStranger_X4_addPerson rfl rfl rfl hd_X4_addPerson ⟨(Nat.le_of_ble_eq_true rfl), (Nat.le_of_ble_eq_true rfl)⟩) hK hI hP hS hT.1 rfl rfl hl.1 rfl (Nat.le_of_ble_eq_true rfl) dX4_addStranger_8 ⟨Nat.zero_le _, Nat.zero_le _⟩ (fun H locs hP hS => ?_)
  refine lv_iconst (v := (0 : Int32)) hx hb dX4_addStranger_11 (by decide) ?_
  refine lv_istore_n (lv' := [(2, .int (0 : Int32)), (1, .int x1_4), (0, .ref (ad t))]) hx hb dX4_addStranger_12 rfl hl (by decide) rfl (fun ls hl => ?_)
  exact w_X4_addStranger_13 C0 t hT x1_4 FU (0 : Int32) M8 h H locs ls hP hS (lv_sub hl [2, 1, 0] rfl)
theorem c_X4_addStranger {l : Launch} {D : va_G} {cI : ClassId} {ad : Nat → Nat} {L : List CDs} {t : Nat} (hT : is_X4 L t)  {M M' : Mem} {r : Unit} (h : X4_addStranger t M = some (r, M')) : me_Met l yX4_addStranger wsX4_addStranger rmX4_addStranger D cI ad L [.ref (ad t)] none M M' :=
  me_ofW (by decide) rfl (Nat.le_of_ble_eq_true rfl) (fun p e s m below meth c C0 => w_X4_addStranger C0 t hT M h)
abbrev rmX4_day : Room := { frames := 0, cells := 0, slots := 0, locals := 0 }
theorem kX4_day_f28 : (Cond.fieldLink RX4 28 "LadderOfBows$Town" "day" "I") ∈ wsX4_day := List.mem_of_getElem? (i := 1) rfl
theorem in_X4_day_X4 : ∀ w ∈ wsX40, w ∈ wsX4_day := by decide +kernel
theorem hd_X4_day : yX4_day.cls = RX4 ∧ yX4_day.cls ≠ "java/lang/invoke/MethodHandle" ∧ yX4_day.cls ≠ "java/lang/invoke/VarHandle" ∧ (parseMethodDescriptor yX4_day.desc).map (fun d => d.parameters.length) = some 0 := by decide +kernel
set_option maxRecDepth 100000 in
set_option maxHeartbeats 4000000 in
theorem w_X4_day {p : Program} {l : Launch} {e : Env} {s : State} {m : MethodId} {args : Array Value} {below : List Frame} {meth : Method} {c : Code} {D : va_G} {cI : ClassId} {ad : Nat → Nat} {L : List CDs} {r : Int32} {M' : Mem} (C0 : me_X p s m args meth c cX4_day 1 (some .int) wsX4_day RX4 D cI ad L) (t : Nat) (hT : is_X4 L t) : ∀  (M : Mem), X4_day t M = some (r, M') → me_W p l e rmX4_day s m args below meth c D cI ad L (some (.int r)) M' 1 0 [(0, .ref (ad t))] [] M := by
  obtain ⟨hx, hb, hr, hml, hown, hts, hlk, hK, hI⟩ := id C0
  intro M h
  unfold X4_day at h
  intro H locs ls hP hS hl
  refine lv_aload_n hx hb dX4_day_0 rfl (lv_at hl 0 rfl) ?_
  refine me_get (ci := 4) (C := RX4) (T := TX4) (N := 8) hx hb hts in_X4_day_X4 hown hK hP hT.1 rfl 1 (by decide) (hts _ kX4_day_f28) rfl dX4_day_1 ?_
  exact me_iret hx hb hr hlk hP hS h dX4_day_4
theorem c_X4_day {l : Launch} {D : va_G} {cI : ClassId} {ad : Nat → Nat} {L : List CDs} {t : Nat} (hT : is_X4 L t)  {M M' : Mem} {r : Int32} (h : X4_day t M = some (r, M')) : me_Met l yX4_day wsX4_day rmX4_day D cI ad L [.ref (ad t)] (some (.int r)) M M' :=
  me_ofW (by decide) rfl (Nat.le_of_ble_eq_true rfl) (fun p e s m below meth c C0 => w_X4_day C0 t hT M h)
abbrev rmX4_easterDay : Room := { frames := 0, cells := 0, slots := 0, locals := 0 }
theorem kX4_easterDay_f31 : (Cond.fieldLink RX4 31 "LadderOfBows$Town" "easterDay" "I") ∈ wsX4_easterDay := List.mem_of_getElem? (i := 1) rfl
theorem in_X4_easterDay_X4 : ∀ w ∈ wsX40, w ∈ wsX4_easterDay := by decide +kernel
theorem hd_X4_easterDay : yX4_easterDay.cls = RX4 ∧ yX4_easterDay.cls ≠ "java/lang/invoke/MethodHandle" ∧ yX4_easterDay.cls ≠ "java/lang/invoke/VarHandle" ∧ (parseMethodDescriptor yX4_easterDay.desc).map (fun d => d.parameters.length) = some 0 := by decide +kernel
set_option maxRecDepth 100000 in
set_option maxHeartbeats 4000000 in
theorem w_X4_easterDay {p : Program} {l : Launch} {e : Env} {s : State} {m : MethodId} {args : Array Value} {below : List Frame} {meth : Method} {c : Code} {D : va_G} {cI : ClassId} {ad : Nat → Nat} {L : List CDs} {r : Int32} {M' : Mem} (C0 : me_X p s m args meth c cX4_easterDay 1 (some .int) wsX4_easterDay RX4 D cI ad L) (t : Nat) (hT : is_X4 L t) : ∀  (M : Mem), X4_easterDay t M = some (r, M') → me_W p l e rmX4_easterDay s m args below meth c D cI ad L (some (.int r)) M' 1 0 [(0, .ref (ad t))] [] M := by
  obtain ⟨hx, hb, hr, hml, hown, hts, hlk, hK, hI⟩ := id C0
  intro M h
  unfold X4_easterDay at h
  intro H locs ls hP hS hl
  refine lv_aload_n hx hb dX4_easterDay_0 rfl (lv_at hl 0 rfl) ?_
  refine me_get (ci := 4) (C := RX4) (T := TX4) (N := 8) hx hb hts in_X4_easterDay_X4 hown hK hP hT.1 rfl 2 (by decide) (hts _ kX4_easterDay_f31) rfl dX4_easterDay_1 ?_
  exact me_iret hx hb hr hlk hP hS h dX4_easterDay_4
theorem c_X4_easterDay {l : Launch} {D : va_G} {cI : ClassId} {ad : Nat → Nat} {L : List CDs} {t : Nat} (hT : is_X4 L t)  {M M' : Mem} {r : Int32} (h : X4_easterDay t M = some (r, M')) : me_Met l yX4_easterDay wsX4_easterDay rmX4_easterDay D cI ad L [.ref (ad t)] (some (.int r)) M M' :=
  me_ofW (by decide) rfl (Nat.le_of_ble_eq_true rfl) (fun p e s m below meth c C0 => w_X4_easterDay C0 t hT M h)
abbrev rmX4_kindOf : Room := { frames := 0, cells := 0, slots := 0, locals := 0 }
theorem kX4_kindOf_f9 : (Cond.fieldLink RX4 9 "LadderOfBows$Town" "kinds" "[I") ∈ wsX4_kindOf := List.mem_of_getElem? (i := 1) rfl
theorem in_X4_kindOf_X4 : ∀ w ∈ wsX40, w ∈ wsX4_kindOf := by decide +kernel
theorem hd_X4_kindOf : yX4_kindOf.cls = RX4 ∧ yX4_kindOf.cls ≠ "java/lang/invoke/MethodHandle" ∧ yX4_kindOf.cls ≠ "java/lang/invoke/VarHandle" ∧ (parseMethodDescriptor yX4_kindOf.desc).map (fun d => d.parameters.length) = some 1 := by decide +kernel
set_option maxRecDepth 100000 in
set_option maxHeartbeats 4000000 in
theorem w_X4_kindOf {p : Program} {l : Launch} {e : Env} {s : State} {m : MethodId} {args : Array Value} {below : List Frame} {meth : Method} {c : Code} {D : va_G} {cI : ClassId} {ad : Nat → Nat} {L : List CDs} {r : Int32} {M' : Mem} (C0 : me_X p s m args meth c cX4_kindOf 2 (some .int) wsX4_kindOf RX4 D cI ad L) (t : Nat) (hT : is_X4 L t) (x1 : Int32) : ∀  (M : Mem), X4_kindOf t x1 M = some (r, M') → me_W p l e rmX4_kindOf s m args below meth c D cI ad L (some (.int r)) M' 2 0 [(0, .ref (ad t)), (1, .int x1)] [] M := by
  obtain ⟨hx, hb, hr, hml, hown, hts, hlk, hK, hI⟩ := id C0
  intro M h
  unfold X4_kindOf at h
  intro H locs ls hP hS hl
  refine lv_aload_n hx hb dX4_kindOf_0 rfl (lv_at hl 0 rfl) ?_
  refine me_getr (ci := 4) (C := RX4) (T := TX4) (N := 8) hx hb hts in_X4_kindOf_X4 hown hK hP hT.1 rfl 4 (by decide) (hts _ kX4_kindOf_f9) rfl dX4_kindOf_1 ?_
  refine lv_iload_n hx hb dX4_kindOf_4 rfl (lv_at hl 1 rfl) ?_
  obtain ⟨hi, h⟩ := s_ald_inv h
  refine me_ald hx hb hK hP hT.2.1 hi dX4_kindOf_5 (fun v5 ev => ?_)
  replace h := h v5 ev
  exact me_iret hx hb hr hlk hP hS h dX4_kindOf_6
theorem c_X4_kindOf {l : Launch} {D : va_G} {cI : ClassId} {ad : Nat → Nat} {L : List CDs} {t : Nat} (hT : is_X4 L t) {x1 : Int32} {M M' : Mem} {r : Int32} (h : X4_kindOf t x1 M = some (r, M')) : me_Met l yX4_kindOf wsX4_kindOf rmX4_kindOf D cI ad L [.ref (ad t), .int x1] (some (.int r)) M M' :=
  me_ofW (by decide) rfl (Nat.le_of_ble_eq_true rfl) (fun p e s m below meth c C0 => w_X4_kindOf C0 t hT x1 M h)
abbrev rmX4_streetOf : Room := { frames := 0, cells := 0, slots := 0, locals := 0 }
theorem kX4_streetOf_f15 : (Cond.fieldLink RX4 15 "LadderOfBows$Town" "streets" "[I") ∈ wsX4_streetOf := List.mem_of_getElem? (i := 1) rfl
theorem in_X4_streetOf_X4 : ∀ w ∈ wsX40, w ∈ wsX4_streetOf := by decide +kernel
theorem hd_X4_streetOf : yX4_streetOf.cls = RX4 ∧ yX4_streetOf.cls ≠ "java/lang/invoke/MethodHandle" ∧ yX4_streetOf.cls ≠ "java/lang/invoke/VarHandle" ∧ (parseMethodDescriptor yX4_streetOf.desc).map (fun d => d.parameters.length) = some 1 := by decide +kernel
set_option maxRecDepth 100000 in
set_option maxHeartbeats 4000000 in
theorem w_X4_streetOf {p : Program} {l : Launch} {e : Env} {s : State} {m : MethodId} {args : Array Value} {below : List Frame} {meth : Method} {c : Code} {D : va_G} {cI : ClassId} {ad : Nat → Nat} {L : List CDs} {r : Int32} {M' : Mem} (C0 : me_X p s m args meth c cX4_streetOf 2 (some .int) wsX4_streetOf RX4 D cI ad L) (t : Nat) (hT : is_X4 L t) (x1 : Int32) : ∀  (M : Mem), X4_streetOf t x1 M = some (r, M') → me_W p l e rmX4_streetOf s m args below meth c D cI ad L (some (.int r)) M' 2 0 [(0, .ref (ad t)), (1, .int x1)] [] M := by
  obtain ⟨hx, hb, hr, hml, hown, hts, hlk, hK, hI⟩ := id C0
  intro M h
  unfold X4_streetOf at h
  intro H locs ls hP hS hl
  refine lv_aload_n hx hb dX4_streetOf_0 rfl (lv_at hl 0 rfl) ?_
  refine me_getr (ci := 4) (C := RX4) (T := TX4) (N := 8) hx hb hts in_X4_streetOf_X4 hown hK hP hT.1 rfl 5 (by decide) (hts _ kX4_streetOf_f15) rfl dX4_streetOf_1 ?_
  refine lv_iload_n hx hb dX4_streetOf_4 rfl (lv_at hl 1 rfl) ?_
  obtain ⟨hi, h⟩ := s_ald_inv h
  refine me_ald hx hb hK hP hT.2.2.1 hi dX4_streetOf_5 (fun v5 ev => ?_)
  replace h := h v5 ev
  exact me_iret hx hb hr hlk hP hS h dX4_streetOf_6
theorem c_X4_streetOf {l : Launch} {D : va_G} {cI : ClassId} {ad : Nat → Nat} {L : List CDs} {t : Nat} (hT : is_X4 L t) {x1 : Int32} {M M' : Mem} {r : Int32} (h : X4_streetOf t x1 M = some (r, M')) : me_Met l yX4_streetOf wsX4_streetOf rmX4_streetOf D cI ad L [.ref (ad t), .int x1] (some (.int r)) M M' :=
  me_ofW (by decide) rfl (Nat.le_of_ble_eq_true rfl) (fun p e s m below meth c C0 => w_X4_streetOf C0 t hT x1 M h)
abbrev rmX4_debt : Room := { frames := 0, cells := 0, slots := 0, locals := 0 }
theorem kX4_debt_f18 : (Cond.fieldLink RX4 18 "LadderOfBows$Town" "debts" "[I") ∈ wsX4_debt := List.mem_of_getElem? (i := 1) rfl
theorem in_X4_debt_X4 : ∀ w ∈ wsX40, w ∈ wsX4_debt := by decide +kernel
theorem hd_X4_debt : yX4_debt.cls = RX4 ∧ yX4_debt.cls ≠ "java/lang/invoke/MethodHandle" ∧ yX4_debt.cls ≠ "java/lang/invoke/VarHandle" ∧ (parseMethodDescriptor yX4_debt.desc).map (fun d => d.parameters.length) = some 2 := by decide +kernel
set_option maxRecDepth 100000 in
set_option maxHeartbeats 4000000 in
theorem w_X4_debt {p : Program} {l : Launch} {e : Env} {s : State} {m : MethodId} {args : Array Value} {below : List Frame} {meth : Method} {c : Code} {D : va_G} {cI : ClassId} {ad : Nat → Nat} {L : List CDs} {r : Int32} {M' : Mem} (C0 : me_X p s m args meth c cX4_debt 3 (some .int) wsX4_debt RX4 D cI ad L) (t : Nat) (hT : is_X4 L t) (x1 : Int32) (x2 : Int32) : ∀  (M : Mem), X4_debt t x1 x2 M = some (r, M') → me_W p l e rmX4_debt s m args below meth c D cI ad L (some (.int r)) M' 3 0 [(0, .ref (ad t)), (1, .int x1), (2, .int x2)] [] M := by
  obtain ⟨hx, hb, hr, hml, hown, hts, hlk, hK, hI⟩ := id C0
  intro M h
  unfold X4_debt at h
  intro H locs ls hP hS hl
  refine lv_aload_n hx hb dX4_debt_0 rfl (lv_at hl 0 rfl) ?_
  refine me_getr (ci := 4) (C := RX4) (T := TX4) (N := 8) hx hb hts in_X4_debt_X4 hown hK hP hT.1 rfl 6 (by decide) (hts _ kX4_debt_f18) rfl dX4_debt_1 ?_
  refine lv_bipush (v := (8 : Int32)) hx hb dX4_debt_4 (by decide) ?_
  refine lv_iload_n hx hb dX4_debt_6 rfl (lv_at hl 1 rfl) ?_
  refine lv_imul hx hb dX4_debt_7 ?_
  refine lv_iload_n hx hb dX4_debt_8 rfl (lv_at hl 2 rfl) ?_
  refine lv_iadd hx hb dX4_debt_9 ?_
  obtain ⟨hi, h⟩ := s_ald_inv h
  refine me_ald hx hb hK hP hT.2.2.2.1 hi dX4_debt_10 (fun v10 ev => ?_)
  replace h := h v10 ev
  exact me_iret hx hb hr hlk hP hS h dX4_debt_11
theorem c_X4_debt {l : Launch} {D : va_G} {cI : ClassId} {ad : Nat → Nat} {L : List CDs} {t : Nat} (hT : is_X4 L t) {x1 : Int32} {x2 : Int32} {M M' : Mem} {r : Int32} (h : X4_debt t x1 x2 M = some (r, M')) : me_Met l yX4_debt wsX4_debt rmX4_debt D cI ad L [.ref (ad t), .int x1, .int x2] (some (.int r)) M M' :=
  me_ofW (by decide) rfl (Nat.le_of_ble_eq_true rfl) (fun p e s m below meth c C0 => w_X4_debt C0 t hT x1 x2 M h)
abbrev rmX4_owing : Room := { frames := 0, cells := 0, slots := 0, locals := 0 }
theorem kX4_owing_f21 : (Cond.fieldLink RX4 21 "LadderOfBows$Town" "owing" "[I") ∈ wsX4_owing := List.mem_of_getElem? (i := 1) rfl
theorem in_X4_owing_X4 : ∀ w ∈ wsX40, w ∈ wsX4_owing := by decide +kernel
theorem hd_X4_owing : yX4_owing.cls = RX4 ∧ yX4_owing.cls ≠ "java/lang/invoke/MethodHandle" ∧ yX4_owing.cls ≠ "java/lang/invoke/VarHandle" ∧ (parseMethodDescriptor yX4_owing.desc).map (fun d => d.parameters.length) = some 1 := by decide +kernel
set_option maxRecDepth 100000 in
set_option maxHeartbeats 4000000 in
theorem w_X4_owing {p : Program} {l : Launch} {e : Env} {s : State} {m : MethodId} {args : Array Value} {below : List Frame} {meth : Method} {c : Code} {D : va_G} {cI : ClassId} {ad : Nat → Nat} {L : List CDs} {r : Int32} {M' : Mem} (C0 : me_X p s m args meth c cX4_owing 2 (some .int) wsX4_owing RX4 D cI ad L) (t : Nat) (hT : is_X4 L t) (x1 : Int32) : ∀  (M : Mem), X4_owing t x1 M = some (r, M') → me_W p l e rmX4_owing s m args below meth c D cI ad L (some (.int r)) M' 2 0 [(0, .ref (ad t)), (1, .int x1)] [] M := by
  obtain ⟨hx, hb, hr, hml, hown, hts, hlk, hK, hI⟩ := id C0
  intro M h
  unfold X4_owing at h
  intro H locs ls hP hS hl
  refine lv_aload_n hx hb dX4_owing_0 rfl (lv_at hl 0 rfl) ?_
  refine me_getr (ci := 4) (C := RX4) (T := TX4) (N := 8) hx hb hts in_X4_owing_X4 hown hK hP hT.1 rfl 7 (by decide) (hts _ kX4_owing_f21) rfl dX4_owing_1 ?_
  refine lv_iload_n hx hb dX4_owing_4 rfl (lv_at hl 1 rfl) ?_
  obtain ⟨hi, h⟩ := s_ald_inv h
  refine me_ald hx hb hK hP hT.2.2.2.2 hi dX4_owing_5 (fun v5 ev => ?_)
  replace h := h v5 ev
  exact me_iret hx hb hr hlk hP hS h dX4_owing_6
theorem c_X4_owing {l : Launch} {D : va_G} {cI : ClassId} {ad : Nat → Nat} {L : List CDs} {t : Nat} (hT : is_X4 L t) {x1 : Int32} {M M' : Mem} {r : Int32} (h : X4_owing t x1 M = some (r, M')) : me_Met l yX4_owing wsX4_owing rmX4_owing D cI ad L [.ref (ad t), .int x1] (some (.int r)) M M' :=
  me_ofW (by decide) rfl (Nat.le_of_ble_eq_true rfl) (fun p e s m below meth c C0 => w_X4_owing C0 t hT x1 M h)
abbrev rmX4_owedTo : Room := { frames := 1, cells := 0, slots := 0, locals := 22 }
theorem kX4_owedTo_f24 : (Cond.fieldLink RX4 24 "LadderOfBows$Town" "persons" "I") ∈ wsX4_owedTo := List.mem_of_getElem? (i := 1) rfl
theorem in_X4_owedTo_X4 : ∀ w ∈ wsX40, w ∈ wsX4_owedTo := by decide +kernel
theorem hd_X4_owedTo : yX4_owedTo.cls = RX4 ∧ yX4_owedTo.cls ≠ "java/lang/invoke/MethodHandle" ∧ yX4_owedTo.cls ≠ "java/lang/invoke/VarHandle" ∧ (parseMethodDescriptor yX4_owedTo.desc).map (fun d => d.parameters.length) = some 1 := by decide +kernel
set_option maxRecDepth 100000 in
set_option maxHeartbeats 4000000 in
theorem w_X4_owedTo_4 {p : Program} {l : Launch} {e : Env} {s : State} {m : MethodId} {args : Array Value} {below : List Frame} {meth : Method} {c : Code} {D : va_G} {cI : ClassId} {ad : Nat → Nat} {L : List CDs} {r : Int32} {M' : Mem} (C0 : me_X p s m args meth c cX4_owedTo 4 (some .int) wsX4_owedTo RX4 D cI ad L) (t : Nat) (hT : is_X4 L t) (x1 : Int32) : ∀ (n : Nat) (x2 : Int32) (x3 : Int32) (M : Mem), X4_owedTo_4 t x1 n x2 x3 M = some (r, M') → me_W p l e rmX4_owedTo s m args below meth c D cI ad L (some (.int r)) M' 4 4 [(0, .ref (ad t)), (1, .int x1), (2, .int x2), (3, .int x3)] [] M := by
  obtain ⟨hx, hb, hr, hml, hown, hts, hlk, hK, hI⟩ := id C0
  intro n
  induction n with
  | zero =>
    intro x2 x3 M h
    rw [X4_owedTo_4] at h
    cases h
  | succ n ih =>
    intro x2 x3 M h
    rw [X4_owedTo_4] at h
    intro H locs ls hP hS hl
    refine lv_iload_n hx hb dX4_owedTo_4 rfl (lv_at hl 3 rfl) ?_
    refine lv_aload_n hx hb dX4_owedTo_5 rfl (lv_at hl 0 rfl) ?_
    refine me_get (ci := 4) (C := RX4) (T := TX4) (N := 8) hx hb hts in_X4_owedTo_X4 hown hK hP hT.1 rfl 0 (by decide) (hts _ kX4_owedTo_f24) rfl dX4_owedTo_6 ?_
    refine lv_icmp_ge (tgt := 27) hx hb dX4_owedTo_9 (by decide) (fun q => ?_) (fun q => ?_)
    · rw [if_pos q] at h
      refine lv_iload_n hx hb dX4_owedTo_27 rfl (lv_at hl 2 rfl) ?_
      exact me_iret hx hb hr hlk hP hS h dX4_owedTo_28
    · rw [if_neg q] at h
      refine lv_iload_n hx hb dX4_owedTo_12 rfl (lv_at hl 2 rfl) ?_
      refine lv_aload_n hx hb dX4_owedTo_13 rfl (lv_at hl 0 rfl) ?_
      refine lv_iload_n hx hb dX4_owedTo_14 rfl (lv_at hl 3 rfl) ?_
      refine lv_iload_n hx hb dX4_owedTo_15 rfl (lv_at hl 1 rfl) ?_
      obtain ⟨v16, M16, h1, h⟩ := s_call_inv h
      refine me_callVi (As := [.int x3, .int x1]) (rest := [.int x2]) ⟨hx, hb, hml, hown, hts⟩ (c_X4_debt hT h1) (cwV 2 hts gX4_owedTo_X4_debt rfl rfl rfl hd_X4_debt ⟨(Nat.le_of_ble_eq_true rfl), (Nat.le_of_ble_eq_true rfl)⟩) hK hI hP hS hT.1 rfl rfl hl.1 rfl (Nat.le_of_ble_eq_true rfl) dX4_owedTo_16 ⟨Nat.zero_le _, Nat.zero_le _⟩ (fun H locs hP hS => ?_)
      refine lv_iadd hx hb dX4_owedTo_19 ?_
      refine lv_topi (fun x2_20 ev => ?_)
      replace h := s_let_inv h x2_20 ev
      refine lv_istore_n (lv' := [(2, .int x2_20), (0, .ref (ad t)), (1, .int x1), (3, .int x3)]) hx hb dX4_owedTo_20 rfl hl (by decide) rfl (fun ls hl => ?_)
      refine lv_iinc (k := 3) (v := (x3 + (1 : Int32))) (lv' := [(3, .int (x3 + (1 : Int32))), (2, .int x2_20), (0, .ref (ad t)), (1, .int x1)]) hx hb dX4_owedTo_21 hl rfl rfl (by decide) rfl (fun ls hl => ?_)
      refine lv_goto (tgt := 4) hx hb dX4_owedTo_24 (by decide) ?_
      exact ih x2_20 (x3 + (1 : Int32)) M16 h H locs ls hP hS (lv_sub hl [2, 3, 1, 0] rfl)
set_option maxRecDepth 100000 in
set_option maxHeartbeats 4000000 in
theorem w_X4_owedTo {p : Program} {l : Launch} {e : Env} {s : State} {m : MethodId} {args : Array Value} {below : List Frame} {meth : Method} {c : Code} {D : va_G} {cI : ClassId} {ad : Nat → Nat} {L : List CDs} {r : Int32} {M' : Mem} (C0 : me_X p s m args meth c cX4_owedTo 4 (some .int) wsX4_owedTo RX4 D cI ad L) (t : Nat) (hT : is_X4 L t) (x1 : Int32) : ∀  (M : Mem), X4_owedTo t x1 M = some (r, M') → me_W p l e rmX4_owedTo s m args below meth c D cI ad L (some (.int r)) M' 4 0 [(0, .ref (ad t)), (1, .int x1)] [] M := by
  obtain ⟨hx, hb, hr, hml, hown, hts, hlk, hK, hI⟩ := id C0
  intro M h
  unfold X4_owedTo at h
  intro H locs ls hP hS hl
  refine lv_iconst (v := (0 : Int32)) hx hb dX4_owedTo_0 (by decide) ?_
  refine lv_istore_n (lv' := [(2, .int (0 : Int32)), (0, .ref (ad t)), (1, .int x1)]) hx hb dX4_owedTo_1 rfl hl (by decide) rfl (fun ls hl => ?_)
  refine lv_iconst (v := (0 : Int32)) hx hb dX4_owedTo_2 (by decide) ?_
  refine lv_istore_n (lv' := [(3, .int (0 : Int32)), (2, .int (0 : Int32)), (0, .ref (ad t)), (1, .int x1)]) hx hb dX4_owedTo_3 rfl hl (by decide) rfl (fun ls hl => ?_)
  exact w_X4_owedTo_4 C0 t hT x1 FU (0 : Int32) (0 : Int32) M h H locs ls hP hS (lv_sub hl [2, 3, 1, 0] rfl)
theorem c_X4_owedTo {l : Launch} {D : va_G} {cI : ClassId} {ad : Nat → Nat} {L : List CDs} {t : Nat} (hT : is_X4 L t) {x1 : Int32} {M M' : Mem} {r : Int32} (h : X4_owedTo t x1 M = some (r, M')) : me_Met l yX4_owedTo wsX4_owedTo rmX4_owedTo D cI ad L [.ref (ad t), .int x1] (some (.int r)) M M' :=
  me_ofW (by decide) rfl (Nat.le_of_ble_eq_true rfl) (fun p e s m below meth c C0 => w_X4_owedTo C0 t hT x1 M h)
abbrev rmX4_allOwed : Room := { frames := 0, cells := 0, slots := 0, locals := 0 }
theorem kX4_allOwed_f24 : (Cond.fieldLink RX4 24 "LadderOfBows$Town" "persons" "I") ∈ wsX4_allOwed := List.mem_of_getElem? (i := 1) rfl
theorem kX4_allOwed_f21 : (Cond.fieldLink RX4 21 "LadderOfBows$Town" "owing" "[I") ∈ wsX4_allOwed := List.mem_of_getElem? (i := 2) rfl
theorem in_X4_allOwed_X4 : ∀ w ∈ wsX40, w ∈ wsX4_allOwed := by decide +kernel
theorem hd_X4_allOwed : yX4_allOwed.cls = RX4 ∧ yX4_allOwed.cls ≠ "java/lang/invoke/MethodHandle" ∧ yX4_allOwed.cls ≠ "java/lang/invoke/VarHandle" ∧ (parseMethodDescriptor yX4_allOwed.desc).map (fun d => d.parameters.length) = some 0 := by decide +kernel
set_option maxRecDepth 100000 in
set_option maxHeartbeats 4000000 in
theorem w_X4_allOwed_4 {p : Program} {l : Launch} {e : Env} {s : State} {m : MethodId} {args : Array Value} {below : List Frame} {meth : Method} {c : Code} {D : va_G} {cI : ClassId} {ad : Nat → Nat} {L : List CDs} {r : Int32} {M' : Mem} (C0 : me_X p s m args meth c cX4_allOwed 3 (some .int) wsX4_allOwed RX4 D cI ad L) (t : Nat) (hT : is_X4 L t) : ∀ (n : Nat) (x1 : Int32) (x2 : Int32) (M : Mem), X4_allOwed_4 t n x1 x2 M = some (r, M') → me_W p l e rmX4_allOwed s m args below meth c D cI ad L (some (.int r)) M' 3 4 [(0, .ref (ad t)), (1, .int x1), (2, .int x2)] [] M := by
  obtain ⟨hx, hb, hr, hml, hown, hts, hlk, hK, hI⟩ := id C0
  intro n
  induction n with
  | zero =>
    intro x1 x2 M h
    rw [X4_allOwed_4] at h
    cases h
  | succ n ih =>
    intro x1 x2 M h
    rw [X4_allOwed_4] at h
    intro H locs ls hP hS hl
    refine lv_iload_n hx hb dX4_allOwed_4 rfl (lv_at hl 2 rfl) ?_
    refine lv_aload_n hx hb dX4_allOwed_5 rfl (lv_at hl 0 rfl) ?_
    refine me_get (ci := 4) (C := RX4) (T := TX4) (N := 8) hx hb hts in_X4_allOwed_X4 hown hK hP hT.1 rfl 0 (by decide) (hts _ kX4_allOwed_f24) rfl dX4_allOwed_6 ?_
    refine lv_icmp_ge (tgt := 27) hx hb dX4_allOwed_9 (by decide) (fun q => ?_) (fun q => ?_)
    · rw [if_pos q] at h
      refine lv_iload_n hx hb dX4_allOwed_27 rfl (lv_at hl 1 rfl) ?_
      exact me_iret hx hb hr hlk hP hS h dX4_allOwed_28
    · rw [if_neg q] at h
      refine lv_iload_n hx hb dX4_allOwed_12 rfl (lv_at hl 1 rfl) ?_
      refine lv_aload_n hx hb dX4_allOwed_13 rfl (lv_at hl 0 rfl) ?_
      refine me_getr (ci := 4) (C := RX4) (T := TX4) (N := 8) hx hb hts in_X4_allOwed_X4 hown hK hP hT.1 rfl 7 (by decide) (hts _ kX4_allOwed_f21) rfl dX4_allOwed_14 ?_
      refine lv_iload_n hx hb dX4_allOwed_17 rfl (lv_at hl 2 rfl) ?_
      obtain ⟨hi, h⟩ := s_ald_inv h
      refine me_ald hx hb hK hP hT.2.2.2.2 hi dX4_allOwed_18 (fun v18 ev => ?_)
      replace h := h v18 ev
      refine lv_iadd hx hb dX4_allOwed_19 ?_
      refine lv_topi (fun x1_20 ev => ?_)
      replace h := s_let_inv h x1_20 ev
      refine lv_istore_n (lv' := [(1, .int x1_20), (0, .ref (ad t)), (2, .int x2)]) hx hb dX4_allOwed_20 rfl hl (by decide) rfl (fun ls hl => ?_)
      refine lv_iinc (k := 2) (v := (x2 + (1 : Int32))) (lv' := [(2, .int (x2 + (1 : Int32))), (1, .int x1_20), (0, .ref (ad t))]) hx hb dX4_allOwed_21 hl rfl rfl (by decide) rfl (fun ls hl => ?_)
      refine lv_goto (tgt := 4) hx hb dX4_allOwed_24 (by decide) ?_
      exact ih x1_20 (x2 + (1 : Int32)) M h H locs ls hP hS (lv_sub hl [2, 1, 0] rfl)
set_option maxRecDepth 100000 in
set_option maxHeartbeats 4000000 in
theorem w_X4_allOwed {p : Program} {l : Launch} {e : Env} {s : State} {m : MethodId} {args : Array Value} {below : List Frame} {meth : Method} {c : Code} {D : va_G} {cI : ClassId} {ad : Nat → Nat} {L : List CDs} {r : Int32} {M' : Mem} (C0 : me_X p s m args meth c cX4_allOwed 3 (some .int) wsX4_allOwed RX4 D cI ad L) (t : Nat) (hT : is_X4 L t) : ∀  (M : Mem), X4_allOwed t M = some (r, M') → me_W p l e rmX4_allOwed s m args below meth c D cI ad L (some (.int r)) M' 3 0 [(0, .ref (ad t))] [] M := by
  obtain ⟨hx, hb, hr, hml, hown, hts, hlk, hK, hI⟩ := id C0
  intro M h
  unfold X4_allOwed at h
  intro H locs ls hP hS hl
  refine lv_iconst (v := (0 : Int32)) hx hb dX4_allOwed_0 (by decide) ?_
  refine lv_istore_n (lv' := [(1, .int (0 : Int32)), (0, .ref (ad t))]) hx hb dX4_allOwed_1 rfl hl (by decide) rfl (fun ls hl => ?_)
  refine lv_iconst (v := (0 : Int32)) hx hb dX4_allOwed_2 (by decide) ?_
  refine lv_istore_n (lv' := [(2, .int (0 : Int32)), (1, .int (0 : Int32)), (0, .ref (ad t))]) hx hb dX4_allOwed_3 rfl hl (by decide) rfl (fun ls hl => ?_)
  exact w_X4_allOwed_4 C0 t hT FU (0 : Int32) (0 : Int32) M h H locs ls hP hS (lv_sub hl [2, 1, 0] rfl)
theorem c_X4_allOwed {l : Launch} {D : va_G} {cI : ClassId} {ad : Nat → Nat} {L : List CDs} {t : Nat} (hT : is_X4 L t)  {M M' : Mem} {r : Int32} (h : X4_allOwed t M = some (r, M')) : me_Met l yX4_allOwed wsX4_allOwed rmX4_allOwed D cI ad L [.ref (ad t)] (some (.int r)) M M' :=
  me_ofW (by decide) rfl (Nat.le_of_ble_eq_true rfl) (fun p e s m below meth c C0 => w_X4_allOwed C0 t hT M h)
abbrev rmX4_aliveBits : Room := { frames := 0, cells := 0, slots := 0, locals := 0 }
theorem kX4_aliveBits_f34 : (Cond.fieldLink RX4 34 "LadderOfBows$Town" "aliveBits" "I") ∈ wsX4_aliveBits := List.mem_of_getElem? (i := 1) rfl
theorem in_X4_aliveBits_X4 : ∀ w ∈ wsX40, w ∈ wsX4_aliveBits := by decide +kernel
theorem hd_X4_aliveBits : yX4_aliveBits.cls = RX4 ∧ yX4_aliveBits.cls ≠ "java/lang/invoke/MethodHandle" ∧ yX4_aliveBits.cls ≠ "java/lang/invoke/VarHandle" ∧ (parseMethodDescriptor yX4_aliveBits.desc).map (fun d => d.parameters.length) = some 0 := by decide +kernel
set_option maxRecDepth 100000 in
set_option maxHeartbeats 4000000 in
theorem w_X4_aliveBits {p : Program} {l : Launch} {e : Env} {s : State} {m : MethodId} {args : Array Value} {below : List Frame} {meth : Method} {c : Code} {D : va_G} {cI : ClassId} {ad : Nat → Nat} {L : List CDs} {r : Int32} {M' : Mem} (C0 : me_X p s m args meth c cX4_aliveBits 1 (some .int) wsX4_aliveBits RX4 D cI ad L) (t : Nat) (hT : is_X4 L t) : ∀  (M : Mem), X4_aliveBits t M = some (r, M') → me_W p l e rmX4_aliveBits s m args below meth c D cI ad L (some (.int r)) M' 1 0 [(0, .ref (ad t))] [] M := by
  obtain ⟨hx, hb, hr, hml, hown, hts, hlk, hK, hI⟩ := id C0
  intro M h
  unfold X4_aliveBits at h
  intro H locs ls hP hS hl
  refine lv_aload_n hx hb dX4_aliveBits_0 rfl (lv_at hl 0 rfl) ?_
  refine me_get (ci := 4) (C := RX4) (T := TX4) (N := 8) hx hb hts in_X4_aliveBits_X4 hown hK hP hT.1 rfl 3 (by decide) (hts _ kX4_aliveBits_f34) rfl dX4_aliveBits_1 ?_
  exact me_iret hx hb hr hlk hP hS h dX4_aliveBits_4
theorem c_X4_aliveBits {l : Launch} {D : va_G} {cI : ClassId} {ad : Nat → Nat} {L : List CDs} {t : Nat} (hT : is_X4 L t)  {M M' : Mem} {r : Int32} (h : X4_aliveBits t M = some (r, M')) : me_Met l yX4_aliveBits wsX4_aliveBits rmX4_aliveBits D cI ad L [.ref (ad t)] (some (.int r)) M M' :=
  me_ofW (by decide) rfl (Nat.le_of_ble_eq_true rfl) (fun p e s m below meth c C0 => w_X4_aliveBits C0 t hT M h)
abbrev rmX4_stuckBits : Room := { frames := 2, cells := 0, slots := 0, locals := 45 }
theorem kX4_stuckBits_f24 : (Cond.fieldLink RX4 24 "LadderOfBows$Town" "persons" "I") ∈ wsX4_stuckBits := List.mem_of_getElem? (i := 1) rfl
theorem kX4_stuckBits_f21 : (Cond.fieldLink RX4 21 "LadderOfBows$Town" "owing" "[I") ∈ wsX4_stuckBits := List.mem_of_getElem? (i := 2) rfl
theorem in_X4_stuckBits_X4 : ∀ w ∈ wsX40, w ∈ wsX4_stuckBits := by decide +kernel
theorem hd_X4_stuckBits : yX4_stuckBits.cls = RX4 ∧ yX4_stuckBits.cls ≠ "java/lang/invoke/MethodHandle" ∧ yX4_stuckBits.cls ≠ "java/lang/invoke/VarHandle" ∧ (parseMethodDescriptor yX4_stuckBits.desc).map (fun d => d.parameters.length) = some 0 := by decide +kernel
set_option maxRecDepth 100000 in
set_option maxHeartbeats 4000000 in
theorem w_X4_stuckBits_4 {p : Program} {l : Launch} {e : Env} {s : State} {m : MethodId} {args : Array Value} {below : List Frame} {meth : Method} {c : Code} {D : va_G} {cI : ClassId} {ad : Nat → Nat} {L : List CDs} {r : Int32} {M' : Mem} (C0 : me_X p s m args meth c cX4_stuckBits 3 (some .int) wsX4_stuckBits RX4 D cI ad L) (t : Nat) (hT : is_X4 L t) : ∀ (n : Nat) (x1 : Int32) (x2 : Int32) (M : Mem), X4_stuckBits_4 t n x1 x2 M = some (r, M') → me_W p l e rmX4_stuckBits s m args below meth c D cI ad L (some (.int r)) M' 3 4 [(0, .ref (ad t)), (1, .int x1), (2, .int x2)] [] M := by
  obtain ⟨hx, hb, hr, hml, hown, hts, hlk, hK, hI⟩ := id C0
  intro n
  induction n with
  | zero =>
    intro x1 x2 M h
    rw [X4_stuckBits_4] at h
    cases h
  | succ n ih =>
    intro x1 x2 M h
    rw [X4_stuckBits_4] at h
    intro H locs ls hP hS hl
    refine lv_iload_n hx hb dX4_stuckBits_4 rfl (lv_at hl 2 rfl) ?_
    refine lv_aload_n hx hb dX4_stuckBits_5 rfl (lv_at hl 0 rfl) ?_
    refine me_get (ci := 4) (C := RX4) (T := TX4) (N := 8) hx hb hts in_X4_stuckBits_X4 hown hK hP hT.1 rfl 0 (by decide) (hts _ kX4_stuckBits_f24) rfl dX4_stuckBits_6 ?_
    refine lv_icmp_ge (tgt := 41) hx hb dX4_stuckBits_9 (by decide) (fun q => ?_) (fun q => ?_)
    · rw [if_pos q] at h
      refine lv_iload_n hx hb dX4_stuckBits_41 rfl (lv_at hl 1 rfl) ?_
      exact me_iret hx hb hr hlk hP hS h dX4_stuckBits_42
    · rw [if_neg q] at h
      refine lv_aload_n hx hb dX4_stuckBits_12 rfl (lv_at hl 0 rfl) ?_
      refine me_getr (ci := 4) (C := RX4) (T := TX4) (N := 8) hx hb hts in_X4_stuckBits_X4 hown hK hP hT.1 rfl 7 (by decide) (hts _ kX4_stuckBits_f21) rfl dX4_stuckBits_13 ?_
      refine lv_iload_n hx hb dX4_stuckBits_16 rfl (lv_at hl 2 rfl) ?_
      obtain ⟨hi, h⟩ := s_ald_inv h
      refine me_ald hx hb hK hP hT.2.2.2.2 hi dX4_stuckBits_17 (fun v17 ev => ?_)
      replace h := h v17 ev
      refine lv_if_gt (tgt := 29) hx hb dX4_stuckBits_18 (by decide) (fun q => ?_) (fun q => ?_)
      · rw [if_pos q] at h
        refine lv_iload_n hx hb dX4_stuckBits_29 rfl (lv_at hl 1 rfl) ?_
        refine lv_iconst (v := (1 : Int32)) hx hb dX4_stuckBits_30 (by decide) ?_
        refine lv_iload_n hx hb dX4_stuckBits_31 rfl (lv_at hl 2 rfl) ?_
        refine lv_ishl hx hb dX4_stuckBits_32 ?_
        refine lv_ior hx hb dX4_stuckBits_33 ?_
        refine lv_topi (fun x1_34 ev => ?_)
        replace h := s_let_inv h x1_34 ev
        refine lv_istore_n (lv' := [(1, .int x1_34), (0, .ref (ad t)), (2, .int x2)]) hx hb dX4_stuckBits_34 rfl hl (by decide) rfl (fun ls hl => ?_)
        refine lv_iinc (k := 2) (v := (x2 + (1 : Int32))) (lv' := [(2, .int (x2 + (1 : Int32))), (1, .int x1_34), (0, .ref (ad t))]) hx hb dX4_stuckBits_35 hl rfl rfl (by decide) rfl (fun ls hl => ?_)
        refine lv_goto (tgt := 4) hx hb dX4_stuckBits_38 (by decide) ?_
        exact ih x1_34 (x2 + (1 : Int32)) M h H locs ls hP hS (lv_sub hl [2, 1, 0] rfl)
      · rw [if_neg q] at h
        refine lv_aload_n hx hb dX4_stuckBits_21 rfl (lv_at hl 0 rfl) ?_
        refine lv_iload_n hx hb dX4_stuckBits_22 rfl (lv_at hl 2 rfl) ?_
        obtain ⟨v23, M23, h1, h⟩ := s_call_inv h
        refine me_callVi (As := [.int x2]) (rest := []) ⟨hx, hb, hml, hown, hts⟩ (c_X4_owedTo hT h1) (cwV 1 hts gX4_stuckBits_X4_owedTo rfl rfl rfl hd_X4_owedTo ⟨(Nat.le_of_ble_eq_true rfl), (Nat.le_of_ble_eq_true rfl)⟩) hK hI hP hS hT.1 rfl rfl hl.1 rfl (Nat.le_of_ble_eq_true rfl) dX4_stuckBits_23 ⟨Nat.zero_le _, Nat.zero_le _⟩ (fun H locs hP hS => ?_)
        refine lv_if_le (tgt := 35) hx hb dX4_stuckBits_26 (by decide) (fun q => ?_) (fun q => ?_)
        · rw [if_pos q] at h
          refine lv_iinc (k := 2) (v := (x2 + (1 : Int32))) (lv' := [(2, .int (x2 + (1 : Int32))), (0, .ref (ad t)), (1, .int x1)]) hx hb dX4_stuckBits_35 hl rfl rfl (by decide) rfl (fun ls hl => ?_)
          refine lv_goto (tgt := 4) hx hb dX4_stuckBits_38 (by decide) ?_
          exact ih x1 (x2 + (1 : Int32)) M23 h H locs ls hP hS (lv_sub hl [1, 2, 0] rfl)
        · rw [if_neg q] at h
          refine lv_iload_n hx hb dX4_stuckBits_29 rfl (lv_at hl 1 rfl) ?_
          refine lv_iconst (v := (1 : Int32)) hx hb dX4_stuckBits_30 (by decide) ?_
          refine lv_iload_n hx hb dX4_stuckBits_31 rfl (lv_at hl 2 rfl) ?_
          refine lv_ishl hx hb dX4_stuckBits_32 ?_
          refine lv_ior hx hb dX4_stuckBits_33 ?_
          refine lv_topi (fun x1_34 ev => ?_)
          replace h := s_let_inv h x1_34 ev
          refine lv_istore_n (lv' := [(1, .int x1_34), (0, .ref (ad t)), (2, .int x2)]) hx hb dX4_stuckBits_34 rfl hl (by decide) rfl (fun ls hl => ?_)
          refine lv_iinc (k := 2) (v := (x2 + (1 : Int32))) (lv' := [(2, .int (x2 + (1 : Int32))), (1, .int x1_34), (0, .ref (ad t))]) hx hb dX4_stuckBits_35 hl rfl rfl (by decide) rfl (fun ls hl => ?_)
          refine lv_goto (tgt := 4) hx hb dX4_stuckBits_38 (by decide) ?_
          exact ih x1_34 (x2 + (1 : Int32)) M23 h H locs ls hP hS (lv_sub hl [2, 1, 0] rfl)
set_option maxRecDepth 100000 in
set_option maxHeartbeats 4000000 in
theorem w_X4_stuckBits {p : Program} {l : Launch} {e : Env} {s : State} {m : MethodId} {args : Array Value} {below : List Frame} {meth : Method} {c : Code} {D : va_G} {cI : ClassId} {ad : Nat → Nat} {L : List CDs} {r : Int32} {M' : Mem} (C0 : me_X p s m args meth c cX4_stuckBits 3 (some .int) wsX4_stuckBits RX4 D cI ad L) (t : Nat) (hT : is_X4 L t) : ∀  (M : Mem), X4_stuckBits t M = some (r, M') → me_W p l e rmX4_stuckBits s m args below meth c D cI ad L (some (.int r)) M' 3 0 [(0, .ref (ad t))] [] M := by
  obtain ⟨hx, hb, hr, hml, hown, hts, hlk, hK, hI⟩ := id C0
  intro M h
  unfold X4_stuckBits at h
  intro H locs ls hP hS hl
  refine lv_iconst (v := (0 : Int32)) hx hb dX4_stuckBits_0 (by decide) ?_
  refine lv_istore_n (lv' := [(1, .int (0 : Int32)), (0, .ref (ad t))]) hx hb dX4_stuckBits_1 rfl hl (by decide) rfl (fun ls hl => ?_)
  refine lv_iconst (v := (0 : Int32)) hx hb dX4_stuckBits_2 (by decide) ?_
  refine lv_istore_n (lv' := [(2, .int (0 : Int32)), (1, .int (0 : Int32)), (0, .ref (ad t))]) hx hb dX4_stuckBits_3 rfl hl (by decide) rfl (fun ls hl => ?_)
  exact w_X4_stuckBits_4 C0 t hT FU (0 : Int32) (0 : Int32) M h H locs ls hP hS (lv_sub hl [2, 1, 0] rfl)
theorem c_X4_stuckBits {l : Launch} {D : va_G} {cI : ClassId} {ad : Nat → Nat} {L : List CDs} {t : Nat} (hT : is_X4 L t)  {M M' : Mem} {r : Int32} (h : X4_stuckBits t M = some (r, M')) : me_Met l yX4_stuckBits wsX4_stuckBits rmX4_stuckBits D cI ad L [.ref (ad t)] (some (.int r)) M M' :=
  me_ofW (by decide) rfl (Nat.le_of_ble_eq_true rfl) (fun p e s m below meth c C0 => w_X4_stuckBits C0 t hT M h)
abbrev rmX4_takesApology : Room := { frames := 0, cells := 0, slots := 0, locals := 0 }
theorem kX4_takesApology_f9 : (Cond.fieldLink RX4 9 "LadderOfBows$Town" "kinds" "[I") ∈ wsX4_takesApology := List.mem_of_getElem? (i := 1) rfl
theorem kX4_takesApology_f21 : (Cond.fieldLink RX4 21 "LadderOfBows$Town" "owing" "[I") ∈ wsX4_takesApology := List.mem_of_getElem? (i := 2) rfl
theorem in_X4_takesApology_X4 : ∀ w ∈ wsX40, w ∈ wsX4_takesApology := by decide +kernel
theorem hd_X4_takesApology : yX4_takesApology.cls = RX4 ∧ yX4_takesApology.cls ≠ "java/lang/invoke/MethodHandle" ∧ yX4_takesApology.cls ≠ "java/lang/invoke/VarHandle" ∧ (parseMethodDescriptor yX4_takesApology.desc).map (fun d => d.parameters.length) = some 1 := by decide +kernel
set_option maxRecDepth 100000 in
set_option maxHeartbeats 4000000 in
theorem w_X4_takesApology {p : Program} {l : Launch} {e : Env} {s : State} {m : MethodId} {args : Array Value} {below : List Frame} {meth : Method} {c : Code} {D : va_G} {cI : ClassId} {ad : Nat → Nat} {L : List CDs} {r : Int32} {M' : Mem} (C0 : me_X p s m args meth c cX4_takesApology 2 (some .boolean) wsX4_takesApology RX4 D cI ad L) (t : Nat) (hT : is_X4 L t) (x1 : Int32) : ∀  (M : Mem), X4_takesApology t x1 M = some (r, M') → me_W p l e rmX4_takesApology s m args below meth c D cI ad L (some (.int r)) M' 2 0 [(0, .ref (ad t)), (1, .int x1)] [] M := by
  obtain ⟨hx, hb, hr, hml, hown, hts, hlk, hK, hI⟩ := id C0
  intro M h
  unfold X4_takesApology at h
  intro H locs ls hP hS hl
  refine lv_aload_n hx hb dX4_takesApology_0 rfl (lv_at hl 0 rfl) ?_
  refine me_getr (ci := 4) (C := RX4) (T := TX4) (N := 8) hx hb hts in_X4_takesApology_X4 hown hK hP hT.1 rfl 4 (by decide) (hts _ kX4_takesApology_f9) rfl dX4_takesApology_1 ?_
  refine lv_iload_n hx hb dX4_takesApology_4 rfl (lv_at hl 1 rfl) ?_
  obtain ⟨hi, h⟩ := s_ald_inv h
  refine me_ald hx hb hK hP hT.2.1 hi dX4_takesApology_5 (fun v5 ev => ?_)
  replace h := h v5 ev
  refine lv_iconst (v := (1 : Int32)) hx hb dX4_takesApology_6 (by decide) ?_
  refine lv_icmp_eq (tgt := 19) hx hb dX4_takesApology_7 (by decide) (fun q => ?_) (fun q => ?_)
  · rw [if_pos q] at h
    refine lv_iconst (v := (1 : Int32)) hx hb dX4_takesApology_19 (by decide) ?_
    refine lv_goto (tgt := 24) hx hb dX4_takesApology_20 (by decide) ?_
    exact me_zret hx hb hr hlk hP hS h dX4_takesApology_24
  · rw [if_neg q] at h
    refine lv_aload_n hx hb dX4_takesApology_10 rfl (lv_at hl 0 rfl) ?_
    refine me_getr (ci := 4) (C := RX4) (T := TX4) (N := 8) hx hb hts in_X4_takesApology_X4 hown hK hP hT.1 rfl 7 (by decide) (hts _ kX4_takesApology_f21) rfl dX4_takesApology_11 ?_
    refine lv_iload_n hx hb dX4_takesApology_14 rfl (lv_at hl 1 rfl) ?_
    obtain ⟨hi, h⟩ := s_ald_inv h
    refine me_ald hx hb hK hP hT.2.2.2.2 hi dX4_takesApology_15 (fun v15 ev => ?_)
    replace h := h v15 ev
    refine lv_if_ne (tgt := 23) hx hb dX4_takesApology_16 (by decide) (fun q => ?_) (fun q => ?_)
    · rw [if_pos q] at h
      refine lv_iconst (v := (0 : Int32)) hx hb dX4_takesApology_23 (by decide) ?_
      exact me_zret hx hb hr hlk hP hS h dX4_takesApology_24
    · rw [if_neg (not_not_intro q)] at h
      refine lv_iconst (v := (1 : Int32)) hx hb dX4_takesApology_19 (by decide) ?_
      refine lv_goto (tgt := 24) hx hb dX4_takesApology_20 (by decide) ?_
      exact me_zret hx hb hr hlk hP hS h dX4_takesApology_24
theorem c_X4_takesApology {l : Launch} {D : va_G} {cI : ClassId} {ad : Nat → Nat} {L : List CDs} {t : Nat} (hT : is_X4 L t) {x1 : Int32} {M M' : Mem} {r : Int32} (h : X4_takesApology t x1 M = some (r, M')) : me_Met l yX4_takesApology wsX4_takesApology rmX4_takesApology D cI ad L [.ref (ad t), .int x1] (some (.int r)) M M' :=
  me_ofW (by decide) rfl (Nat.le_of_ble_eq_true rfl) (fun p e s m below meth c C0 => w_X4_takesApology C0 t hT x1 M h)
abbrev rmX4_maySpeak : Room := { frames := 1, cells := 0, slots := 0, locals := 22 }
theorem hd_X4_maySpeak : yX4_maySpeak.cls = RX4 ∧ yX4_maySpeak.cls ≠ "java/lang/invoke/MethodHandle" ∧ yX4_maySpeak.cls ≠ "java/lang/invoke/VarHandle" ∧ (parseMethodDescriptor yX4_maySpeak.desc).map (fun d => d.parameters.length) = some 2 := by decide +kernel
set_option maxRecDepth 100000 in
set_option maxHeartbeats 4000000 in
theorem w_X4_maySpeak {p : Program} {l : Launch} {e : Env} {s : State} {m : MethodId} {args : Array Value} {below : List Frame} {meth : Method} {c : Code} {D : va_G} {cI : ClassId} {ad : Nat → Nat} {L : List CDs} {r : Int32} {M' : Mem} (C0 : me_X p s m args meth c cX4_maySpeak 3 (some .boolean) wsX4_maySpeak RX4 D cI ad L) (t : Nat) (hT : is_X4 L t) (x1 : Int32) (x2 : Int32) : ∀  (M : Mem), X4_maySpeak t x1 x2 M = some (r, M') → me_W p l e rmX4_maySpeak s m args below meth c D cI ad L (some (.int r)) M' 3 0 [(0, .ref (ad t)), (1, .int x1), (2, .int x2)] [] M := by
  obtain ⟨hx, hb, hr, hml, hown, hts, hlk, hK, hI⟩ := id C0
  intro M h
  unfold X4_maySpeak at h
  intro H locs ls hP hS hl
  refine lv_iload_n hx hb dX4_maySpeak_0 rfl (lv_at hl 1 rfl) ?_
  refine lv_iload_n hx hb dX4_maySpeak_1 rfl (lv_at hl 2 rfl) ?_
  refine lv_icmp_eq (tgt := 43) hx hb dX4_maySpeak_2 (by decide) (fun q => ?_) (fun q => ?_)
  · rw [if_pos q] at h
    refine lv_iconst (v := (0 : Int32)) hx hb dX4_maySpeak_43 (by decide) ?_
    exact me_zret hx hb hr hlk hP hS h dX4_maySpeak_44
  · rw [if_neg q] at h
    refine lv_aload_n hx hb dX4_maySpeak_5 rfl (lv_at hl 0 rfl) ?_
    refine lv_iload_n hx hb dX4_maySpeak_6 rfl (lv_at hl 1 rfl) ?_
    obtain ⟨v7, M7, h1, h⟩ := s_call_inv h
    refine me_callVi (As := [.int x1]) (rest := []) ⟨hx, hb, hml, hown, hts⟩ (c_X4_isAlive hT h1) (cwV 1 hts gX4_maySpeak_X4_isAlive rfl rfl rfl hd_X4_isAlive ⟨(Nat.le_of_ble_eq_true rfl), (Nat.le_of_ble_eq_true rfl)⟩) hK hI hP hS hT.1 rfl rfl hl.1 rfl (Nat.le_of_ble_eq_true rfl) dX4_maySpeak_7 ⟨Nat.zero_le _, Nat.zero_le _⟩ (fun H locs hP hS => ?_)
    refine lv_if_eq (tgt := 43) hx hb dX4_maySpeak_10 (by decide) (fun q => ?_) (fun q => ?_)
    · rw [if_pos q] at h
      refine lv_iconst (v := (0 : Int32)) hx hb dX4_maySpeak_43 (by decide) ?_
      exact me_zret hx hb hr hlk hP hS h dX4_maySpeak_44
    · rw [if_neg q] at h
      refine lv_aload_n hx hb dX4_maySpeak_13 rfl (lv_at hl 0 rfl) ?_
      refine lv_iload_n hx hb dX4_maySpeak_14 rfl (lv_at hl 2 rfl) ?_
      obtain ⟨v15, M15, h1, h⟩ := s_call_inv h
      refine me_callVi (As := [.int x2]) (rest := []) ⟨hx, hb, hml, hown, hts⟩ (c_X4_isAlive hT h1) (cwV 1 hts gX4_maySpeak_X4_isAlive rfl rfl rfl hd_X4_isAlive ⟨(Nat.le_of_ble_eq_true rfl), (Nat.le_of_ble_eq_true rfl)⟩) hK hI hP hS hT.1 rfl rfl hl.1 rfl (Nat.le_of_ble_eq_true rfl) dX4_maySpeak_15 ⟨Nat.zero_le _, Nat.zero_le _⟩ (fun H locs hP hS => ?_)
      refine lv_if_eq (tgt := 43) hx hb dX4_maySpeak_18 (by decide) (fun q => ?_) (fun q => ?_)
      · rw [if_pos q] at h
        refine lv_iconst (v := (0 : Int32)) hx hb dX4_maySpeak_43 (by decide) ?_
        exact me_zret hx hb hr hlk hP hS h dX4_maySpeak_44
      · rw [if_neg q] at h
        refine lv_aload_n hx hb dX4_maySpeak_21 rfl (lv_at hl 0 rfl) ?_
        refine lv_iload_n hx hb dX4_maySpeak_22 rfl (lv_at hl 1 rfl) ?_
        refine lv_iload_n hx hb dX4_maySpeak_23 rfl (lv_at hl 2 rfl) ?_
        obtain ⟨v24, M24, h1, h⟩ := s_call_inv h
        refine me_callVi (As := [.int x1, .int x2]) (rest := []) ⟨hx, hb, hml, hown, hts⟩ (c_X4_debt hT h1) (cwV 2 hts gX4_maySpeak_X4_debt rfl rfl rfl hd_X4_debt ⟨(Nat.le_of_ble_eq_true rfl), (Nat.le_of_ble_eq_true rfl)⟩) hK hI hP hS hT.1 rfl rfl hl.1 rfl (Nat.le_of_ble_eq_true rfl) dX4_maySpeak_24 ⟨Nat.zero_le _, Nat.zero_le _⟩ (fun H locs hP hS => ?_)
        refine lv_if_ne (tgt := 43) hx hb dX4_maySpeak_27 (by decide) (fun q => ?_) (fun q => ?_)
        · rw [if_pos q] at h
          refine lv_iconst (v := (0 : Int32)) hx hb dX4_maySpeak_43 (by decide) ?_
          exact me_zret hx hb hr hlk hP hS h dX4_maySpeak_44
        · rw [if_neg (not_not_intro q)] at h
          refine lv_aload_n hx hb dX4_maySpeak_30 rfl (lv_at hl 0 rfl) ?_
          refine lv_iload_n hx hb dX4_maySpeak_31 rfl (lv_at hl 2 rfl) ?_
          refine lv_iload_n hx hb dX4_maySpeak_32 rfl (lv_at hl 1 rfl) ?_
          obtain ⟨v33, M33, h1, h⟩ := s_call_inv h
          refine me_callVi (As := [.int x2, .int x1]) (rest := []) ⟨hx, hb, hml, hown, hts⟩ (c_X4_debt hT h1) (cwV 2 hts gX4_maySpeak_X4_debt rfl rfl rfl hd_X4_debt ⟨(Nat.le_of_ble_eq_true rfl), (Nat.le_of_ble_eq_true rfl)⟩) hK hI hP hS hT.1 rfl rfl hl.1 rfl (Nat.le_of_ble_eq_true rfl) dX4_maySpeak_33 ⟨Nat.zero_le _, Nat.zero_le _⟩ (fun H locs hP hS => ?_)
          refine lv_if_ne (tgt := 43) hx hb dX4_maySpeak_36 (by decide) (fun q => ?_) (fun q => ?_)
          · rw [if_pos q] at h
            refine lv_iconst (v := (0 : Int32)) hx hb dX4_maySpeak_43 (by decide) ?_
            exact me_zret hx hb hr hlk hP hS h dX4_maySpeak_44
          · rw [if_neg (not_not_intro q)] at h
            refine lv_iconst (v := (1 : Int32)) hx hb dX4_maySpeak_39 (by decide) ?_
            refine lv_goto (tgt := 44) hx hb dX4_maySpeak_40 (by decide) ?_
            exact me_zret hx hb hr hlk hP hS h dX4_maySpeak_44
theorem c_X4_maySpeak {l : Launch} {D : va_G} {cI : ClassId} {ad : Nat → Nat} {L : List CDs} {t : Nat} (hT : is_X4 L t) {x1 : Int32} {x2 : Int32} {M M' : Mem} {r : Int32} (h : X4_maySpeak t x1 x2 M = some (r, M')) : me_Met l yX4_maySpeak wsX4_maySpeak rmX4_maySpeak D cI ad L [.ref (ad t), .int x1, .int x2] (some (.int r)) M M' :=
  me_ofW (by decide) rfl (Nat.le_of_ble_eq_true rfl) (fun p e s m below meth c C0 => w_X4_maySpeak C0 t hT x1 x2 M h)
abbrev rmX4_anySpeakIn : Room := { frames := 2, cells := 0, slots := 0, locals := 44 }
theorem kX4_anySpeakIn_f24 : (Cond.fieldLink RX4 24 "LadderOfBows$Town" "persons" "I") ∈ wsX4_anySpeakIn := List.mem_of_getElem? (i := 1) rfl
theorem kX4_anySpeakIn_f15 : (Cond.fieldLink RX4 15 "LadderOfBows$Town" "streets" "[I") ∈ wsX4_anySpeakIn := List.mem_of_getElem? (i := 2) rfl
theorem in_X4_anySpeakIn_X4 : ∀ w ∈ wsX40, w ∈ wsX4_anySpeakIn := by decide +kernel
theorem hd_X4_anySpeakIn : yX4_anySpeakIn.cls = RX4 ∧ yX4_anySpeakIn.cls ≠ "java/lang/invoke/MethodHandle" ∧ yX4_anySpeakIn.cls ≠ "java/lang/invoke/VarHandle" ∧ (parseMethodDescriptor yX4_anySpeakIn.desc).map (fun d => d.parameters.length) = some 1 := by decide +kernel
set_option maxRecDepth 100000 in
set_option maxHeartbeats 4000000 in
theorem w_X4_anySpeakIn_41 {p : Program} {l : Launch} {e : Env} {s : State} {m : MethodId} {args : Array Value} {below : List Frame} {meth : Method} {c : Code} {D : va_G} {cI : ClassId} {ad : Nat → Nat} {L : List CDs} {r : Int32} {M' : Mem} (C0 : me_X p s m args meth c cX4_anySpeakIn 5 (some .boolean) wsX4_anySpeakIn RX4 D cI ad L) (t : Nat) (hT : is_X4 L t) (x1 : Int32) (x2 : Int32) (x3 : Int32) (k2 : Int32 → Mem → Option (Int32 × Mem)) (hk2 : ∀ (x2 : Int32) (M : Mem), k2 x2 M = some (r, M') → me_W p l e rmX4_anySpeakIn s m args below meth c D cI ad L (some (.int r)) M' 5 2 [(0, .ref (ad t)), (1, .int x1), (2, .int x2)] [] M) (k14 : Int32 → Mem → Option (Int32 × Mem)) (hk14 : ∀ (x3 : Int32) (M : Mem), k14 x3 M = some (r, M') → me_W p l e rmX4_anySpeakIn s m args below meth c D cI ad L (some (.int r)) M' 5 14 [(0, .ref (ad t)), (1, .int x1), (2, .int x2), (3, .int x3)] [] M) : ∀ (y0 : Int32) (M : Mem), X4_anySpeakIn_41 t x1 x2 x3 k2 k14 y0 M = some (r, M') → me_W p l e rmX4_anySpeakIn s m args below meth c D cI ad L (some (.int r)) M' 5 41 [(0, .ref (ad t)), (1, .int x1), (2, .int x2), (3, .int x3)] [.int y0] M := by
  obtain ⟨hx, hb, hr, hml, hown, hts, hlk, hK, hI⟩ := id C0
  intro y0 M h
  unfold X4_anySpeakIn_41 at h
  intro H locs ls hP hS hl
  refine lv_istore (lv' := [(4, .int y0), (0, .ref (ad t)), (1, .int x1), (2, .int x2), (3, .int x3)]) hx hb dX4_anySpeakIn_41 hl (by decide) rfl (fun ls hl => ?_)
  refine lv_iload hx hb dX4_anySpeakIn_43 (lv_at hl 0 rfl) ?_
  refine lv_if_eq (tgt := 74) hx hb dX4_anySpeakIn_45 (by decide) (fun q => ?_) (fun q => ?_)
  · rw [if_pos q] at h
    refine lv_iinc (k := 4) (v := (x3 + (1 : Int32))) (lv' := [(3, .int (x3 + (1 : Int32))), (4, .int y0), (0, .ref (ad t)), (1, .int x1), (2, .int x2)]) hx hb dX4_anySpeakIn_74 hl rfl rfl (by decide) rfl (fun ls hl => ?_)
    refine lv_goto (tgt := 14) hx hb dX4_anySpeakIn_77 (by decide) ?_
    exact hk14 (x3 + (1 : Int32)) M h H locs ls hP hS (lv_sub hl [2, 3, 4, 0] rfl)
  · rw [if_neg q] at h
    refine lv_aload_n hx hb dX4_anySpeakIn_48 rfl (lv_at hl 1 rfl) ?_
    refine me_getr (ci := 4) (C := RX4) (T := TX4) (N := 8) hx hb hts in_X4_anySpeakIn_X4 hown hK hP hT.1 rfl 5 (by decide) (hts _ kX4_anySpeakIn_f15) rfl dX4_anySpeakIn_49 ?_
    refine lv_iload_n hx hb dX4_anySpeakIn_52 rfl (lv_at hl 3 rfl) ?_
    obtain ⟨hi, h⟩ := s_ald_inv h
    refine me_ald hx hb hK hP hT.2.2.1 hi dX4_anySpeakIn_53 (fun v53 ev => ?_)
    replace h := h v53 ev
    refine lv_aload_n hx hb dX4_anySpeakIn_54 rfl (lv_at hl 1 rfl) ?_
    refine me_getr (ci := 4) (C := RX4) (T := TX4) (N := 8) hx hb hts in_X4_anySpeakIn_X4 hown hK hP hT.1 rfl 5 (by decide) (hts _ kX4_anySpeakIn_f15) rfl dX4_anySpeakIn_55 ?_
    refine lv_iload_n hx hb dX4_anySpeakIn_58 rfl (lv_at hl 4 rfl) ?_
    obtain ⟨hi, h⟩ := s_ald_inv h
    refine me_ald hx hb hK hP hT.2.2.1 hi dX4_anySpeakIn_59 (fun v59 ev => ?_)
    replace h := h v59 ev
    refine lv_icmp_ne (tgt := 74) hx hb dX4_anySpeakIn_60 (by decide) (fun q => ?_) (fun q => ?_)
    · rw [if_pos q] at h
      refine lv_iinc (k := 4) (v := (x3 + (1 : Int32))) (lv' := [(3, .int (x3 + (1 : Int32))), (4, .int y0), (0, .ref (ad t)), (1, .int x1), (2, .int x2)]) hx hb dX4_anySpeakIn_74 hl rfl rfl (by decide) rfl (fun ls hl => ?_)
      refine lv_goto (tgt := 14) hx hb dX4_anySpeakIn_77 (by decide) ?_
      exact hk14 (x3 + (1 : Int32)) M h H locs ls hP hS (lv_sub hl [2, 3, 4, 0] rfl)
    · rw [if_neg (not_not_intro q)] at h
      refine lv_aload_n hx hb dX4_anySpeakIn_63 rfl (lv_at hl 1 rfl) ?_
      refine lv_iload_n hx hb dX4_anySpeakIn_64 rfl (lv_at hl 3 rfl) ?_
      refine lv_iload_n hx hb dX4_anySpeakIn_65 rfl (lv_at hl 4 rfl) ?_
      obtain ⟨v66, M66, h1, h⟩ := s_call_inv h
      refine me_callVi (As := [.int x2, .int x3]) (rest := []) ⟨hx, hb, hml, hown, hts⟩ (c_X4_maySpeak hT h1) (cwV 2 hts gX4_anySpeakIn_X4_maySpeak rfl rfl rfl hd_X4_maySpeak ⟨(Nat.le_of_ble_eq_true rfl), (Nat.le_of_ble_eq_true rfl)⟩) hK hI hP hS hT.1 rfl rfl hl.1 rfl (Nat.le_of_ble_eq_true rfl) dX4_anySpeakIn_66 ⟨Nat.zero_le _, Nat.zero_le _⟩ (fun H locs hP hS => ?_)
      refine lv_if_eq (tgt := 74) hx hb dX4_anySpeakIn_69 (by decide) (fun q => ?_) (fun q => ?_)
      · rw [if_pos q] at h
        refine lv_iinc (k := 4) (v := (x3 + (1 : Int32))) (lv' := [(3, .int (x3 + (1 : Int32))), (4, .int y0), (0, .ref (ad t)), (1, .int x1), (2, .int x2)]) hx hb dX4_anySpeakIn_74 hl rfl rfl (by decide) rfl (fun ls hl => ?_)
        refine lv_goto (tgt := 14) hx hb dX4_anySpeakIn_77 (by decide) ?_
        exact hk14 (x3 + (1 : Int32)) M66 h H locs ls hP hS (lv_sub hl [2, 3, 4, 0] rfl)
      · rw [if_neg q] at h
        refine lv_iconst (v := (1 : Int32)) hx hb dX4_anySpeakIn_72 (by decide) ?_
        exact me_zret hx hb hr hlk hP hS h dX4_anySpeakIn_73
set_option maxRecDepth 100000 in
set_option maxHeartbeats 4000000 in
theorem w_X4_anySpeakIn_14 {p : Program} {l : Launch} {e : Env} {s : State} {m : MethodId} {args : Array Value} {below : List Frame} {meth : Method} {c : Code} {D : va_G} {cI : ClassId} {ad : Nat → Nat} {L : List CDs} {r : Int32} {M' : Mem} (C0 : me_X p s m args meth c cX4_anySpeakIn 5 (some .boolean) wsX4_anySpeakIn RX4 D cI ad L) (t : Nat) (hT : is_X4 L t) (x1 : Int32) (x2 : Int32) (k2 : Int32 → Mem → Option (Int32 × Mem)) (hk2 : ∀ (x2 : Int32) (M : Mem), k2 x2 M = some (r, M') → me_W p l e rmX4_anySpeakIn s m args below meth c D cI ad L (some (.int r)) M' 5 2 [(0, .ref (ad t)), (1, .int x1), (2, .int x2)] [] M) : ∀ (n : Nat) (x3 : Int32) (M : Mem), X4_anySpeakIn_14 t x1 x2 k2 n x3 M = some (r, M') → me_W p l e rmX4_anySpeakIn s m args below meth c D cI ad L (some (.int r)) M' 5 14 [(0, .ref (ad t)), (1, .int x1), (2, .int x2), (3, .int x3)] [] M := by
  obtain ⟨hx, hb, hr, hml, hown, hts, hlk, hK, hI⟩ := id C0
  intro n
  induction n with
  | zero =>
    intro x3 M h
    rw [X4_anySpeakIn_14] at h
    cases h
  | succ n ih =>
    intro x3 M h
    rw [X4_anySpeakIn_14] at h
    intro H locs ls hP hS hl
    refine lv_iload_n hx hb dX4_anySpeakIn_14 rfl (lv_at hl 3 rfl) ?_
    refine lv_aload_n hx hb dX4_anySpeakIn_15 rfl (lv_at hl 0 rfl) ?_
    refine me_get (ci := 4) (C := RX4) (T := TX4) (N := 8) hx hb hts in_X4_anySpeakIn_X4 hown hK hP hT.1 rfl 0 (by decide) (hts _ kX4_anySpeakIn_f24) rfl dX4_anySpeakIn_16 ?_
    refine lv_icmp_ge (tgt := 80) hx hb dX4_anySpeakIn_19 (by decide) (fun q => ?_) (fun q => ?_)
    · rw [if_pos q] at h
      refine lv_iinc (k := 2) (v := (x2 + (1 : Int32))) (lv' := [(2, .int (x2 + (1 : Int32))), (0, .ref (ad t)), (1, .int x1), (3, .int x3)]) hx hb dX4_anySpeakIn_80 hl rfl rfl (by decide) rfl (fun ls hl => ?_)
      refine lv_goto (tgt := 2) hx hb dX4_anySpeakIn_83 (by decide) ?_
      exact hk2 (x2 + (1 : Int32)) M h H locs ls hP hS (lv_sub hl [1, 2, 0] rfl)
    · rw [if_neg q] at h
      refine lv_iload_n hx hb dX4_anySpeakIn_22 rfl (lv_at hl 1 rfl) ?_
      refine lv_aload_n hx hb dX4_anySpeakIn_23 rfl (lv_at hl 0 rfl) ?_
      refine me_getr (ci := 4) (C := RX4) (T := TX4) (N := 8) hx hb hts in_X4_anySpeakIn_X4 hown hK hP hT.1 rfl 5 (by decide) (hts _ kX4_anySpeakIn_f15) rfl dX4_anySpeakIn_24 ?_
      refine lv_iload_n hx hb dX4_anySpeakIn_27 rfl (lv_at hl 2 rfl) ?_
      obtain ⟨hi, h⟩ := s_ald_inv h
      refine me_ald hx hb hK hP hT.2.2.1 hi dX4_anySpeakIn_28 (fun v28 ev => ?_)
      replace h := h v28 ev
      refine lv_ishr hx hb dX4_anySpeakIn_29 ?_
      refine lv_iconst (v := (1 : Int32)) hx hb dX4_anySpeakIn_30 (by decide) ?_
      refine lv_iand hx hb dX4_anySpeakIn_31 ?_
      refine lv_iconst (v := (1 : Int32)) hx hb dX4_anySpeakIn_32 (by decide) ?_
      refine lv_icmp_ne (tgt := 40) hx hb dX4_anySpeakIn_33 (by decide) (fun q => ?_) (fun q => ?_)
      · rw [if_pos q] at h
        refine lv_iconst (v := (0 : Int32)) hx hb dX4_anySpeakIn_40 (by decide) ?_
        exact w_X4_anySpeakIn_41 C0 t hT x1 x2 x3 k2 hk2 (X4_anySpeakIn_14 t x1 x2 k2 n) (fun x3 M h => ih x3 M h) (0 : Int32) M h H locs ls hP hS (lv_sub hl [0, 1, 2, 3] rfl)
      · rw [if_neg (not_not_intro q)] at h
        refine lv_iconst (v := (1 : Int32)) hx hb dX4_anySpeakIn_36 (by decide) ?_
        refine lv_goto (tgt := 41) hx hb dX4_anySpeakIn_37 (by decide) ?_
        exact w_X4_anySpeakIn_41 C0 t hT x1 x2 x3 k2 hk2 (X4_anySpeakIn_14 t x1 x2 k2 n) (fun x3 M h => ih x3 M h) (1 : Int32) M h H locs ls hP hS (lv_sub hl [0, 1, 2, 3] rfl)
set_option maxRecDepth 100000 in
set_option maxHeartbeats 4000000 in
theorem w_X4_anySpeakIn_2 {p : Program} {l : Launch} {e : Env} {s : State} {m : MethodId} {args : Array Value} {below : List Frame} {meth : Method} {c : Code} {D : va_G} {cI : ClassId} {ad : Nat → Nat} {L : List CDs} {r : Int32} {M' : Mem} (C0 : me_X p s m args meth c cX4_anySpeakIn 5 (some .boolean) wsX4_anySpeakIn RX4 D cI ad L) (t : Nat) (hT : is_X4 L t) (x1 : Int32) : ∀ (n : Nat) (x2 : Int32) (M : Mem), X4_anySpeakIn_2 t x1 n x2 M = some (r, M') → me_W p l e rmX4_anySpeakIn s m args below meth c D cI ad L (some (.int r)) M' 5 2 [(0, .ref (ad t)), (1, .int x1), (2, .int x2)] [] M := by
  obtain ⟨hx, hb, hr, hml, hown, hts, hlk, hK, hI⟩ := id C0
  intro n
  induction n with
  | zero =>
    intro x2 M h
    rw [X4_anySpeakIn_2] at h
    cases h
  | succ n ih =>
    intro x2 M h
    rw [X4_anySpeakIn_2] at h
    intro H locs ls hP hS hl
    refine lv_iload_n hx hb dX4_anySpeakIn_2 rfl (lv_at hl 2 rfl) ?_
    refine lv_aload_n hx hb dX4_anySpeakIn_3 rfl (lv_at hl 0 rfl) ?_
    refine me_get (ci := 4) (C := RX4) (T := TX4) (N := 8) hx hb hts in_X4_anySpeakIn_X4 hown hK hP hT.1 rfl 0 (by decide) (hts _ kX4_anySpeakIn_f24) rfl dX4_anySpeakIn_4 ?_
    refine lv_icmp_ge (tgt := 86) hx hb dX4_anySpeakIn_7 (by decide) (fun q => ?_) (fun q => ?_)
    · rw [if_pos q] at h
      refine lv_iconst (v := (0 : Int32)) hx hb dX4_anySpeakIn_86 (by decide) ?_
      exact me_zret hx hb hr hlk hP hS h dX4_anySpeakIn_87
    · rw [if_neg q] at h
      refine lv_iload_n hx hb dX4_anySpeakIn_10 rfl (lv_at hl 2 rfl) ?_
      refine lv_iconst (v := (1 : Int32)) hx hb dX4_anySpeakIn_11 (by decide) ?_
      refine lv_iadd hx hb dX4_anySpeakIn_12 ?_
      refine lv_topi (fun x3_13 ev => ?_)
      replace h := s_let_inv h x3_13 ev
      refine lv_istore_n (lv' := [(3, .int x3_13), (0, .ref (ad t)), (1, .int x1), (2, .int x2)]) hx hb dX4_anySpeakIn_13 rfl hl (by decide) rfl (fun ls hl => ?_)
      exact w_X4_anySpeakIn_14 C0 t hT x1 x2 (X4_anySpeakIn_2 t x1 n) (fun x2 M h => ih x2 M h) FU x3_13 M h H locs ls hP hS (lv_sub hl [1, 2, 3, 0] rfl)
set_option maxRecDepth 100000 in
set_option maxHeartbeats 4000000 in
theorem w_X4_anySpeakIn {p : Program} {l : Launch} {e : Env} {s : State} {m : MethodId} {args : Array Value} {below : List Frame} {meth : Method} {c : Code} {D : va_G} {cI : ClassId} {ad : Nat → Nat} {L : List CDs} {r : Int32} {M' : Mem} (C0 : me_X p s m args meth c cX4_anySpeakIn 5 (some .boolean) wsX4_anySpeakIn RX4 D cI ad L) (t : Nat) (hT : is_X4 L t) (x1 : Int32) : ∀  (M : Mem), X4_anySpeakIn t x1 M = some (r, M') → me_W p l e rmX4_anySpeakIn s m args below meth c D cI ad L (some (.int r)) M' 5 0 [(0, .ref (ad t)), (1, .int x1)] [] M := by
  obtain ⟨hx, hb, hr, hml, hown, hts, hlk, hK, hI⟩ := id C0
  intro M h
  unfold X4_anySpeakIn at h
  intro H locs ls hP hS hl
  refine lv_iconst (v := (0 : Int32)) hx hb dX4_anySpeakIn_0 (by decide) ?_
  refine lv_istore_n (lv' := [(2, .int (0 : Int32)), (0, .ref (ad t)), (1, .int x1)]) hx hb dX4_anySpeakIn_1 rfl hl (by decide) rfl (fun ls hl => ?_)
  exact w_X4_anySpeakIn_2 C0 t hT x1 FU (0 : Int32) M h H locs ls hP hS (lv_sub hl [1, 2, 0] rfl)
theorem c_X4_anySpeakIn {l : Launch} {D : va_G} {cI : ClassId} {ad : Nat → Nat} {L : List CDs} {t : Nat} (hT : is_X4 L t) {x1 : Int32} {M M' : Mem} {r : Int32} (h : X4_anySpeakIn t x1 M = some (r, M')) : me_Met l yX4_anySpeakIn wsX4_anySpeakIn rmX4_anySpeakIn D cI ad L [.ref (ad t), .int x1] (some (.int r)) M M' :=
  me_ofW (by decide) rfl (Nat.le_of_ble_eq_true rfl) (fun p e s m below meth c C0 => w_X4_anySpeakIn C0 t hT x1 M h)
abbrev rmX4_linkSpeakers : Room := { frames := 2, cells := 0, slots := 0, locals := 44 }
theorem kX4_linkSpeakers_f24 : (Cond.fieldLink RX4 24 "LadderOfBows$Town" "persons" "I") ∈ wsX4_linkSpeakers := List.mem_of_getElem? (i := 1) rfl
theorem in_X4_linkSpeakers_X4 : ∀ w ∈ wsX40, w ∈ wsX4_linkSpeakers := by decide +kernel
theorem hd_X4_linkSpeakers : yX4_linkSpeakers.cls = RX4 ∧ yX4_linkSpeakers.cls ≠ "java/lang/invoke/MethodHandle" ∧ yX4_linkSpeakers.cls ≠ "java/lang/invoke/VarHandle" ∧ (parseMethodDescriptor yX4_linkSpeakers.desc).map (fun d => d.parameters.length) = some 1 := by decide +kernel
set_option maxRecDepth 100000 in
set_option maxHeartbeats 4000000 in
theorem w_X4_linkSpeakers_20 {p : Program} {l : Launch} {e : Env} {s : State} {m : MethodId} {args : Array Value} {below : List Frame} {meth : Method} {c : Code} {D : va_G} {cI : ClassId} {ad : Nat → Nat} {L : List CDs} {r : Unit} {M' : Mem} (C0 : me_X p s m args meth c cX4_linkSpeakers 4 none wsX4_linkSpeakers RX4 D cI ad L) (t : Nat) (hT : is_X4 L t) (t1 : Nat) (hT1 : is_X2 L t1) (x2 : Int32) (k10 : Int32 → Mem → Option (Unit × Mem)) (hk10 : ∀ (x2 : Int32) (M : Mem), k10 x2 M = some (r, M') → me_W p l e rmX4_linkSpeakers s m args below meth c D cI ad L none M' 4 10 [(0, .ref (ad t)), (1, .ref (ad t1)), (2, .int x2)] [] M) : ∀ (n : Nat) (x3 : Int32) (M : Mem), X4_linkSpeakers_20 t t1 x2 k10 n x3 M = some (r, M') → me_W p l e rmX4_linkSpeakers s m args below meth c D cI ad L none M' 4 20 [(0, .ref (ad t)), (1, .ref (ad t1)), (2, .int x2), (3, .int x3)] [] M := by
  obtain ⟨hx, hb, hr, hml, hown, hts, hlk, hK, hI⟩ := id C0
  intro n
  induction n with
  | zero =>
    intro x3 M h
    rw [X4_linkSpeakers_20] at h
    cases h
  | succ n ih =>
    intro x3 M h
    rw [X4_linkSpeakers_20] at h
    intro H locs ls hP hS hl
    refine lv_iload_n hx hb dX4_linkSpeakers_20 rfl (lv_at hl 3 rfl) ?_
    refine lv_aload_n hx hb dX4_linkSpeakers_21 rfl (lv_at hl 0 rfl) ?_
    refine me_get (ci := 4) (C := RX4) (T := TX4) (N := 8) hx hb hts in_X4_linkSpeakers_X4 hown hK hP hT.1 rfl 0 (by decide) (hts _ kX4_linkSpeakers_f24) rfl dX4_linkSpeakers_22 ?_
    refine lv_icmp_ge (tgt := 49) hx hb dX4_linkSpeakers_25 (by decide) (fun q => ?_) (fun q => ?_)
    · rw [if_pos q] at h
      refine lv_iinc (k := 2) (v := (x2 + (1 : Int32))) (lv' := [(2, .int (x2 + (1 : Int32))), (0, .ref (ad t)), (1, .ref (ad t1)), (3, .int x3)]) hx hb dX4_linkSpeakers_49 hl rfl rfl (by decide) rfl (fun ls hl => ?_)
      refine lv_goto (tgt := 10) hx hb dX4_linkSpeakers_52 (by decide) ?_
      exact hk10 (x2 + (1 : Int32)) M h H locs ls hP hS (lv_sub hl [1, 2, 0] rfl)
    · rw [if_neg q] at h
      refine lv_aload_n hx hb dX4_linkSpeakers_28 rfl (lv_at hl 0 rfl) ?_
      refine lv_iload_n hx hb dX4_linkSpeakers_29 rfl (lv_at hl 2 rfl) ?_
      refine lv_iload_n hx hb dX4_linkSpeakers_30 rfl (lv_at hl 3 rfl) ?_
      obtain ⟨v31, M31, h1, h⟩ := s_call_inv h
      refine me_callVi (As := [.int x2, .int x3]) (rest := []) ⟨hx, hb, hml, hown, hts⟩ (c_X4_maySpeak hT h1) (cwV 2 hts gX4_linkSpeakers_X4_maySpeak rfl rfl rfl hd_X4_maySpeak ⟨(Nat.le_of_ble_eq_true rfl), (Nat.le_of_ble_eq_true rfl)⟩) hK hI hP hS hT.1 rfl rfl hl.1 rfl (Nat.le_of_ble_eq_true rfl) dX4_linkSpeakers_31 ⟨Nat.zero_le _, Nat.zero_le _⟩ (fun H locs hP hS => ?_)
      refine lv_if_eq (tgt := 43) hx hb dX4_linkSpeakers_34 (by decide) (fun q => ?_) (fun q => ?_)
      · rw [if_pos q] at h
        refine lv_iinc (k := 3) (v := (x3 + (1 : Int32))) (lv' := [(3, .int (x3 + (1 : Int32))), (0, .ref (ad t)), (1, .ref (ad t1)), (2, .int x2)]) hx hb dX4_linkSpeakers_43 hl rfl rfl (by decide) rfl (fun ls hl => ?_)
        refine lv_goto (tgt := 20) hx hb dX4_linkSpeakers_46 (by decide) ?_
        exact ih (x3 + (1 : Int32)) M31 h H locs ls hP hS (lv_sub hl [1, 2, 3, 0] rfl)
      · rw [if_neg q] at h
        refine lv_aload_n hx hb dX4_linkSpeakers_37 rfl (lv_at hl 1 rfl) ?_
        refine lv_iload_n hx hb dX4_linkSpeakers_38 rfl (lv_at hl 2 rfl) ?_
        refine lv_iload_n hx hb dX4_linkSpeakers_39 rfl (lv_at hl 3 rfl) ?_
        obtain ⟨u40, M40, h1, h⟩ := s_call_inv h
        refine me_callVv (As := [.int x2, .int x3]) (rest := []) ⟨hx, hb, hml, hown, hts⟩ (c_X2_link hT1 h1) (cwV 2 hts gX4_linkSpeakers_X2_link rfl rfl rfl hd_X2_link ⟨(Nat.le_of_ble_eq_true rfl), (Nat.le_of_ble_eq_true rfl)⟩) hK hI hP hS hT1.1 rfl rfl hl.1 rfl (Nat.le_of_ble_eq_true rfl) dX4_linkSpeakers_40 ⟨Nat.zero_le _, Nat.zero_le _⟩ (fun H locs hP hS => ?_)
        refine lv_iinc (k := 3) (v := (x3 + (1 : Int32))) (lv' := [(3, .int (x3 + (1 : Int32))), (0, .ref (ad t)), (1, .ref (ad t1)), (2, .int x2)]) hx hb dX4_linkSpeakers_43 hl rfl rfl (by decide) rfl (fun ls hl => ?_)
        refine lv_goto (tgt := 20) hx hb dX4_linkSpeakers_46 (by decide) ?_
        exact ih (x3 + (1 : Int32)) M40 h H locs ls hP hS (lv_sub hl [1, 2, 3, 0] rfl)
set_option maxRecDepth 100000 in
set_option maxHeartbeats 4000000 in
theorem w_X4_linkSpeakers_10 {p : Program} {l : Launch} {e : Env} {s : State} {m : MethodId} {args : Array Value} {below : List Frame} {meth : Method} {c : Code} {D : va_G} {cI : ClassId} {ad : Nat → Nat} {L : List CDs} {r : Unit} {M' : Mem} (C0 : me_X p s m args meth c cX4_linkSpeakers 4 none wsX4_linkSpeakers RX4 D cI ad L) (t : Nat) (hT : is_X4 L t) (t1 : Nat) (hT1 : is_X2 L t1) : ∀ (n : Nat) (x2 : Int32) (M : Mem), X4_linkSpeakers_10 t t1 n x2 M = some (r, M') → me_W p l e rmX4_linkSpeakers s m args below meth c D cI ad L none M' 4 10 [(0, .ref (ad t)), (1, .ref (ad t1)), (2, .int x2)] [] M := by
  obtain ⟨hx, hb, hr, hml, hown, hts, hlk, hK, hI⟩ := id C0
  intro n
  induction n with
  | zero =>
    intro x2 M h
    rw [X4_linkSpeakers_10] at h
    cases h
  | succ n ih =>
    intro x2 M h
    rw [X4_linkSpeakers_10] at h
    intro H locs ls hP hS hl
    refine lv_iload_n hx hb dX4_linkSpeakers_10 rfl (lv_at hl 2 rfl) ?_
    refine lv_aload_n hx hb dX4_linkSpeakers_11 rfl (lv_at hl 0 rfl) ?_
    refine me_get (ci := 4) (C := RX4) (T := TX4) (N := 8) hx hb hts in_X4_linkSpeakers_X4 hown hK hP hT.1 rfl 0 (by decide) (hts _ kX4_linkSpeakers_f24) rfl dX4_linkSpeakers_12 ?_
    refine lv_icmp_ge (tgt := 55) hx hb dX4_linkSpeakers_15 (by decide) (fun q => ?_) (fun q => ?_)
    · rw [if_pos q] at h
      exact me_vret hx hb hr hlk hP hS h dX4_linkSpeakers_55
    · rw [if_neg q] at h
      refine lv_iconst (v := (0 : Int32)) hx hb dX4_linkSpeakers_18 (by decide) ?_
      refine lv_istore_n (lv' := [(3, .int (0 : Int32)), (0, .ref (ad t)), (1, .ref (ad t1)), (2, .int x2)]) hx hb dX4_linkSpeakers_19 rfl hl (by decide) rfl (fun ls hl => ?_)
      exact w_X4_linkSpeakers_20 C0 t hT t1 hT1 x2 (X4_linkSpeakers_10 t t1 n) (fun x2 M h => ih x2 M h) FU (0 : Int32) M h H locs ls hP hS (lv_sub hl [1, 2, 3, 0] rfl)
set_option maxRecDepth 100000 in
set_option maxHeartbeats 4000000 in
theorem w_X4_linkSpeakers {p : Program} {l : Launch} {e : Env} {s : State} {m : MethodId} {args : Array Value} {below : List Frame} {meth : Method} {c : Code} {D : va_G} {cI : ClassId} {ad : Nat → Nat} {L : List CDs} {r : Unit} {M' : Mem} (C0 : me_X p s m args meth c cX4_linkSpeakers 4 none wsX4_linkSpeakers RX4 D cI ad L) (t : Nat) (hT : is_X4 L t) (t1 : Nat) (hT1 : is_X2 L t1) : ∀  (M : Mem), X4_linkSpeakers t t1 M = some (r, M') → me_W p l e rmX4_linkSpeakers s m args below meth c D cI ad L none M' 4 0 [(0, .ref (ad t)), (1, .ref (ad t1))] [] M := by
  obtain ⟨hx, hb, hr, hml, hown, hts, hlk, hK, hI⟩ := id C0
  intro M h
  unfold X4_linkSpeakers at h
  intro H locs ls hP hS hl
  refine lv_aload_n hx hb dX4_linkSpeakers_0 rfl (lv_at hl 1 rfl) ?_
  refine lv_aload_n hx hb dX4_linkSpeakers_1 rfl (lv_at hl 0 rfl) ?_
  refine me_get (ci := 4) (C := RX4) (T := TX4) (N := 8) hx hb hts in_X4_linkSpeakers_X4 hown hK hP hT.1 rfl 0 (by decide) (hts _ kX4_linkSpeakers_f24) rfl dX4_linkSpeakers_2 ?_
  obtain ⟨u5, M5, h1, h⟩ := s_call_inv h
  refine me_callVv (As := [.int (M t 0)]) (rest := []) ⟨hx, hb, hml, hown, hts⟩ (c_X2_clear hT1 h1) (cwV 1 hts gX4_linkSpeakers_X2_clear rfl rfl rfl hd_X2_clear ⟨(Nat.le_of_ble_eq_true rfl), (Nat.le_of_ble_eq_true rfl)⟩) hK hI hP hS hT1.1 rfl rfl hl.1 rfl (Nat.le_of_ble_eq_true rfl) dX4_linkSpeakers_5 ⟨Nat.zero_le _, Nat.zero_le _⟩ (fun H locs hP hS => ?_)
  refine lv_iconst (v := (0 : Int32)) hx hb dX4_linkSpeakers_8 (by decide) ?_
  refine lv_istore_n (lv' := [(2, .int (0 : Int32)), (0, .ref (ad t)), (1, .ref (ad t1))]) hx hb dX4_linkSpeakers_9 rfl hl (by decide) rfl (fun ls hl => ?_)
  exact w_X4_linkSpeakers_10 C0 t hT t1 hT1 FU (0 : Int32) M5 h H locs ls hP hS (lv_sub hl [1, 2, 0] rfl)
theorem c_X4_linkSpeakers {l : Launch} {D : va_G} {cI : ClassId} {ad : Nat → Nat} {L : List CDs} {t : Nat} (hT : is_X4 L t) {t1 : Nat} (hT1 : is_X2 L t1)  {M M' : Mem} {r : Unit} (h : X4_linkSpeakers t t1 M = some (r, M')) : me_Met l yX4_linkSpeakers wsX4_linkSpeakers rmX4_linkSpeakers D cI ad L [.ref (ad t), .ref (ad t1)] none M M' :=
  me_ofW (by decide) rfl (Nat.le_of_ble_eq_true rfl) (fun p e s m below meth c C0 => w_X4_linkSpeakers C0 t hT t1 hT1 M h)
abbrev rmX4_linkDebts : Room := { frames := 2, cells := 0, slots := 0, locals := 44 }
theorem kX4_linkDebts_f24 : (Cond.fieldLink RX4 24 "LadderOfBows$Town" "persons" "I") ∈ wsX4_linkDebts := List.mem_of_getElem? (i := 1) rfl
theorem in_X4_linkDebts_X4 : ∀ w ∈ wsX40, w ∈ wsX4_linkDebts := by decide +kernel
theorem hd_X4_linkDebts : yX4_linkDebts.cls = RX4 ∧ yX4_linkDebts.cls ≠ "java/lang/invoke/MethodHandle" ∧ yX4_linkDebts.cls ≠ "java/lang/invoke/VarHandle" ∧ (parseMethodDescriptor yX4_linkDebts.desc).map (fun d => d.parameters.length) = some 1 := by decide +kernel
set_option maxRecDepth 100000 in
set_option maxHeartbeats 4000000 in
theorem w_X4_linkDebts_20 {p : Program} {l : Launch} {e : Env} {s : State} {m : MethodId} {args : Array Value} {below : List Frame} {meth : Method} {c : Code} {D : va_G} {cI : ClassId} {ad : Nat → Nat} {L : List CDs} {r : Unit} {M' : Mem} (C0 : me_X p s m args meth c cX4_linkDebts 4 none wsX4_linkDebts RX4 D cI ad L) (t : Nat) (hT : is_X4 L t) (t1 : Nat) (hT1 : is_X2 L t1) (x2 : Int32) (k10 : Int32 → Mem → Option (Unit × Mem)) (hk10 : ∀ (x2 : Int32) (M : Mem), k10 x2 M = some (r, M') → me_W p l e rmX4_linkDebts s m args below meth c D cI ad L none M' 4 10 [(0, .ref (ad t)), (1, .ref (ad t1)), (2, .int x2)] [] M) : ∀ (n : Nat) (x3 : Int32) (M : Mem), X4_linkDebts_20 t t1 x2 k10 n x3 M = some (r, M') → me_W p l e rmX4_linkDebts s m args below meth c D cI ad L none M' 4 20 [(0, .ref (ad t)), (1, .ref (ad t1)), (2, .int x2), (3, .int x3)] [] M := by
  obtain ⟨hx, hb, hr, hml, hown, hts, hlk, hK, hI⟩ := id C0
  intro n
  induction n with
  | zero =>
    intro x3 M h
    rw [X4_linkDebts_20] at h
    cases h
  | succ n ih =>
    intro x3 M h
    rw [X4_linkDebts_20] at h
    intro H locs ls hP hS hl
    refine lv_iload_n hx hb dX4_linkDebts_20 rfl (lv_at hl 3 rfl) ?_
    refine lv_aload_n hx hb dX4_linkDebts_21 rfl (lv_at hl 0 rfl) ?_
    refine me_get (ci := 4) (C := RX4) (T := TX4) (N := 8) hx hb hts in_X4_linkDebts_X4 hown hK hP hT.1 rfl 0 (by decide) (hts _ kX4_linkDebts_f24) rfl dX4_linkDebts_22 ?_
    refine lv_icmp_ge (tgt := 49) hx hb dX4_linkDebts_25 (by decide) (fun q => ?_) (fun q => ?_)
    · rw [if_pos q] at h
      refine lv_iinc (k := 2) (v := (x2 + (1 : Int32))) (lv' := [(2, .int (x2 + (1 : Int32))), (0, .ref (ad t)), (1, .ref (ad t1)), (3, .int x3)]) hx hb dX4_linkDebts_49 hl rfl rfl (by decide) rfl (fun ls hl => ?_)
      refine lv_goto (tgt := 10) hx hb dX4_linkDebts_52 (by decide) ?_
      exact hk10 (x2 + (1 : Int32)) M h H locs ls hP hS (lv_sub hl [1, 2, 0] rfl)
    · rw [if_neg q] at h
      refine lv_aload_n hx hb dX4_linkDebts_28 rfl (lv_at hl 0 rfl) ?_
      refine lv_iload_n hx hb dX4_linkDebts_29 rfl (lv_at hl 2 rfl) ?_
      refine lv_iload_n hx hb dX4_linkDebts_30 rfl (lv_at hl 3 rfl) ?_
      obtain ⟨v31, M31, h1, h⟩ := s_call_inv h
      refine me_callVi (As := [.int x2, .int x3]) (rest := []) ⟨hx, hb, hml, hown, hts⟩ (c_X4_debt hT h1) (cwV 2 hts gX4_linkDebts_X4_debt rfl rfl rfl hd_X4_debt ⟨(Nat.le_of_ble_eq_true rfl), (Nat.le_of_ble_eq_true rfl)⟩) hK hI hP hS hT.1 rfl rfl hl.1 rfl (Nat.le_of_ble_eq_true rfl) dX4_linkDebts_31 ⟨Nat.zero_le _, Nat.zero_le _⟩ (fun H locs hP hS => ?_)
      refine lv_if_le (tgt := 43) hx hb dX4_linkDebts_34 (by decide) (fun q => ?_) (fun q => ?_)
      · rw [if_pos q] at h
        refine lv_iinc (k := 3) (v := (x3 + (1 : Int32))) (lv' := [(3, .int (x3 + (1 : Int32))), (0, .ref (ad t)), (1, .ref (ad t1)), (2, .int x2)]) hx hb dX4_linkDebts_43 hl rfl rfl (by decide) rfl (fun ls hl => ?_)
        refine lv_goto (tgt := 20) hx hb dX4_linkDebts_46 (by decide) ?_
        exact ih (x3 + (1 : Int32)) M31 h H locs ls hP hS (lv_sub hl [1, 2, 3, 0] rfl)
      · rw [if_neg q] at h
        refine lv_aload_n hx hb dX4_linkDebts_37 rfl (lv_at hl 1 rfl) ?_
        refine lv_iload_n hx hb dX4_linkDebts_38 rfl (lv_at hl 2 rfl) ?_
        refine lv_iload_n hx hb dX4_linkDebts_39 rfl (lv_at hl 3 rfl) ?_
        obtain ⟨u40, M40, h1, h⟩ := s_call_inv h
        refine me_callVv (As := [.int x2, .int x3]) (rest := []) ⟨hx, hb, hml, hown, hts⟩ (c_X2_link hT1 h1) (cwV 2 hts gX4_linkDebts_X2_link rfl rfl rfl hd_X2_link ⟨(Nat.le_of_ble_eq_true rfl), (Nat.le_of_ble_eq_true rfl)⟩) hK hI hP hS hT1.1 rfl rfl hl.1 rfl (Nat.le_of_ble_eq_true rfl) dX4_linkDebts_40 ⟨Nat.zero_le _, Nat.zero_le _⟩ (fun H locs hP hS => ?_)
        refine lv_iinc (k := 3) (v := (x3 + (1 : Int32))) (lv' := [(3, .int (x3 + (1 : Int32))), (0, .ref (ad t)), (1, .ref (ad t1)), (2, .int x2)]) hx hb dX4_linkDebts_43 hl rfl rfl (by decide) rfl (fun ls hl => ?_)
        refine lv_goto (tgt := 20) hx hb dX4_linkDebts_46 (by decide) ?_
        exact ih (x3 + (1 : Int32)) M40 h H locs ls hP hS (lv_sub hl [1, 2, 3, 0] rfl)
set_option maxRecDepth 100000 in
set_option maxHeartbeats 4000000 in
theorem w_X4_linkDebts_10 {p : Program} {l : Launch} {e : Env} {s : State} {m : MethodId} {args : Array Value} {below : List Frame} {meth : Method} {c : Code} {D : va_G} {cI : ClassId} {ad : Nat → Nat} {L : List CDs} {r : Unit} {M' : Mem} (C0 : me_X p s m args meth c cX4_linkDebts 4 none wsX4_linkDebts RX4 D cI ad L) (t : Nat) (hT : is_X4 L t) (t1 : Nat) (hT1 : is_X2 L t1) : ∀ (n : Nat) (x2 : Int32) (M : Mem), X4_linkDebts_10 t t1 n x2 M = some (r, M') → me_W p l e rmX4_linkDebts s m args below meth c D cI ad L none M' 4 10 [(0, .ref (ad t)), (1, .ref (ad t1)), (2, .int x2)] [] M := by
  obtain ⟨hx, hb, hr, hml, hown, hts, hlk, hK, hI⟩ := id C0
  intro n
  induction n with
  | zero =>
    intro x2 M h
    rw [X4_linkDebts_10] at h
    cases h
  | succ n ih =>
    intro x2 M h
    rw [X4_linkDebts_10] at h
    intro H locs ls hP hS hl
    refine lv_iload_n hx hb dX4_linkDebts_10 rfl (lv_at hl 2 rfl) ?_
    refine lv_aload_n hx hb dX4_linkDebts_11 rfl (lv_at hl 0 rfl) ?_
    refine me_get (ci := 4) (C := RX4) (T := TX4) (N := 8) hx hb hts in_X4_linkDebts_X4 hown hK hP hT.1 rfl 0 (by decide) (hts _ kX4_linkDebts_f24) rfl dX4_linkDebts_12 ?_
    refine lv_icmp_ge (tgt := 55) hx hb dX4_linkDebts_15 (by decide) (fun q => ?_) (fun q => ?_)
    · rw [if_pos q] at h
      exact me_vret hx hb hr hlk hP hS h dX4_linkDebts_55
    · rw [if_neg q] at h
      refine lv_iconst (v := (0 : Int32)) hx hb dX4_linkDebts_18 (by decide) ?_
      refine lv_istore_n (lv' := [(3, .int (0 : Int32)), (0, .ref (ad t)), (1, .ref (ad t1)), (2, .int x2)]) hx hb dX4_linkDebts_19 rfl hl (by decide) rfl (fun ls hl => ?_)
      exact w_X4_linkDebts_20 C0 t hT t1 hT1 x2 (X4_linkDebts_10 t t1 n) (fun x2 M h => ih x2 M h) FU (0 : Int32) M h H locs ls hP hS (lv_sub hl [1, 2, 3, 0] rfl)
set_option maxRecDepth 100000 in
set_option maxHeartbeats 4000000 in
theorem w_X4_linkDebts {p : Program} {l : Launch} {e : Env} {s : State} {m : MethodId} {args : Array Value} {below : List Frame} {meth : Method} {c : Code} {D : va_G} {cI : ClassId} {ad : Nat → Nat} {L : List CDs} {r : Unit} {M' : Mem} (C0 : me_X p s m args meth c cX4_linkDebts 4 none wsX4_linkDebts RX4 D cI ad L) (t : Nat) (hT : is_X4 L t) (t1 : Nat) (hT1 : is_X2 L t1) : ∀  (M : Mem), X4_linkDebts t t1 M = some (r, M') → me_W p l e rmX4_linkDebts s m args below meth c D cI ad L none M' 4 0 [(0, .ref (ad t)), (1, .ref (ad t1))] [] M := by
  obtain ⟨hx, hb, hr, hml, hown, hts, hlk, hK, hI⟩ := id C0
  intro M h
  unfold X4_linkDebts at h
  intro H locs ls hP hS hl
  refine lv_aload_n hx hb dX4_linkDebts_0 rfl (lv_at hl 1 rfl) ?_
  refine lv_aload_n hx hb dX4_linkDebts_1 rfl (lv_at hl 0 rfl) ?_
  refine me_get (ci := 4) (C := RX4) (T := TX4) (N := 8) hx hb hts in_X4_linkDebts_X4 hown hK hP hT.1 rfl 0 (by decide) (hts _ kX4_linkDebts_f24) rfl dX4_linkDebts_2 ?_
  obtain ⟨u5, M5, h1, h⟩ := s_call_inv h
  refine me_callVv (As := [.int (M t 0)]) (rest := []) ⟨hx, hb, hml, hown, hts⟩ (c_X2_clear hT1 h1) (cwV 1 hts gX4_linkDebts_X2_clear rfl rfl rfl hd_X2_clear ⟨(Nat.le_of_ble_eq_true rfl), (Nat.le_of_ble_eq_true rfl)⟩) hK hI hP hS hT1.1 rfl rfl hl.1 rfl (Nat.le_of_ble_eq_true rfl) dX4_linkDebts_5 ⟨Nat.zero_le _, Nat.zero_le _⟩ (fun H locs hP hS => ?_)
  refine lv_iconst (v := (0 : Int32)) hx hb dX4_linkDebts_8 (by decide) ?_
  refine lv_istore_n (lv' := [(2, .int (0 : Int32)), (0, .ref (ad t)), (1, .ref (ad t1))]) hx hb dX4_linkDebts_9 rfl hl (by decide) rfl (fun ls hl => ?_)
  exact w_X4_linkDebts_10 C0 t hT t1 hT1 FU (0 : Int32) M5 h H locs ls hP hS (lv_sub hl [1, 2, 0] rfl)
theorem c_X4_linkDebts {l : Launch} {D : va_G} {cI : ClassId} {ad : Nat → Nat} {L : List CDs} {t : Nat} (hT : is_X4 L t) {t1 : Nat} (hT1 : is_X2 L t1)  {M M' : Mem} {r : Unit} (h : X4_linkDebts t t1 M = some (r, M')) : me_Met l yX4_linkDebts wsX4_linkDebts rmX4_linkDebts D cI ad L [.ref (ad t), .ref (ad t1)] none M M' :=
  me_ofW (by decide) rfl (Nat.le_of_ble_eq_true rfl) (fun p e s m below meth c C0 => w_X4_linkDebts C0 t hT t1 hT1 M h)
abbrev rmX4_canBow : Room := { frames := 1, cells := 0, slots := 0, locals := 22 }
theorem hd_X4_canBow : yX4_canBow.cls = RX4 ∧ yX4_canBow.cls ≠ "java/lang/invoke/MethodHandle" ∧ yX4_canBow.cls ≠ "java/lang/invoke/VarHandle" ∧ (parseMethodDescriptor yX4_canBow.desc).map (fun d => d.parameters.length) = some 2 := by decide +kernel
set_option maxRecDepth 100000 in
set_option maxHeartbeats 4000000 in
theorem w_X4_canBow {p : Program} {l : Launch} {e : Env} {s : State} {m : MethodId} {args : Array Value} {below : List Frame} {meth : Method} {c : Code} {D : va_G} {cI : ClassId} {ad : Nat → Nat} {L : List CDs} {r : Int32} {M' : Mem} (C0 : me_X p s m args meth c cX4_canBow 3 (some .boolean) wsX4_canBow RX4 D cI ad L) (t : Nat) (hT : is_X4 L t) (x1 : Int32) (x2 : Int32) : ∀  (M : Mem), X4_canBow t x1 x2 M = some (r, M') → me_W p l e rmX4_canBow s m args below meth c D cI ad L (some (.int r)) M' 3 0 [(0, .ref (ad t)), (1, .int x1), (2, .int x2)] [] M := by
  obtain ⟨hx, hb, hr, hml, hown, hts, hlk, hK, hI⟩ := id C0
  intro M h
  unfold X4_canBow at h
  intro H locs ls hP hS hl
  refine lv_aload_n hx hb dX4_canBow_0 rfl (lv_at hl 0 rfl) ?_
  refine lv_iload_n hx hb dX4_canBow_1 rfl (lv_at hl 1 rfl) ?_
  refine lv_iload_n hx hb dX4_canBow_2 rfl (lv_at hl 2 rfl) ?_
  obtain ⟨v3, M3, h1, h⟩ := s_call_inv h
  refine me_callVi (As := [.int x1, .int x2]) (rest := []) ⟨hx, hb, hml, hown, hts⟩ (c_X4_debt hT h1) (cwV 2 hts gX4_canBow_X4_debt rfl rfl rfl hd_X4_debt ⟨(Nat.le_of_ble_eq_true rfl), (Nat.le_of_ble_eq_true rfl)⟩) hK hI hP hS hT.1 rfl rfl hl.1 rfl (Nat.le_of_ble_eq_true rfl) dX4_canBow_3 ⟨Nat.zero_le _, Nat.zero_le _⟩ (fun H locs hP hS => ?_)
  refine lv_if_le (tgt := 21) hx hb dX4_canBow_6 (by decide) (fun q => ?_) (fun q => ?_)
  · rw [if_pos q] at h
    refine lv_iconst (v := (0 : Int32)) hx hb dX4_canBow_21 (by decide) ?_
    exact me_zret hx hb hr hlk hP hS h dX4_canBow_22
  · rw [if_neg q] at h
    refine lv_aload_n hx hb dX4_canBow_9 rfl (lv_at hl 0 rfl) ?_
    refine lv_iload_n hx hb dX4_canBow_10 rfl (lv_at hl 2 rfl) ?_
    obtain ⟨v11, M11, h1, h⟩ := s_call_inv h
    refine me_callVi (As := [.int x2]) (rest := []) ⟨hx, hb, hml, hown, hts⟩ (c_X4_takesApology hT h1) (cwV 1 hts gX4_canBow_X4_takesApology rfl rfl rfl hd_X4_takesApology ⟨(Nat.le_of_ble_eq_true rfl), (Nat.le_of_ble_eq_true rfl)⟩) hK hI hP hS hT.1 rfl rfl hl.1 rfl (Nat.le_of_ble_eq_true rfl) dX4_canBow_11 ⟨Nat.zero_le _, Nat.zero_le _⟩ (fun H locs hP hS => ?_)
    refine lv_if_eq (tgt := 21) hx hb dX4_canBow_14 (by decide) (fun q => ?_) (fun q => ?_)
    · rw [if_pos q] at h
      refine lv_iconst (v := (0 : Int32)) hx hb dX4_canBow_21 (by decide) ?_
      exact me_zret hx hb hr hlk hP hS h dX4_canBow_22
    · rw [if_neg q] at h
      refine lv_iconst (v := (1 : Int32)) hx hb dX4_canBow_17 (by decide) ?_
      refine lv_goto (tgt := 22) hx hb dX4_canBow_18 (by decide) ?_
      exact me_zret hx hb hr hlk hP hS h dX4_canBow_22
theorem c_X4_canBow {l : Launch} {D : va_G} {cI : ClassId} {ad : Nat → Nat} {L : List CDs} {t : Nat} (hT : is_X4 L t) {x1 : Int32} {x2 : Int32} {M M' : Mem} {r : Int32} (h : X4_canBow t x1 x2 M = some (r, M')) : me_Met l yX4_canBow wsX4_canBow rmX4_canBow D cI ad L [.ref (ad t), .int x1, .int x2] (some (.int r)) M M' :=
  me_ofW (by decide) rfl (Nat.le_of_ble_eq_true rfl) (fun p e s m below meth c C0 => w_X4_canBow C0 t hT x1 x2 M h)
abbrev rmX4_canBowAtOnce : Room := { frames := 1, cells := 0, slots := 0, locals := 22 }
theorem kX4_canBowAtOnce_f21 : (Cond.fieldLink RX4 21 "LadderOfBows$Town" "owing" "[I") ∈ wsX4_canBowAtOnce := List.mem_of_getElem? (i := 1) rfl
theorem in_X4_canBowAtOnce_X4 : ∀ w ∈ wsX40, w ∈ wsX4_canBowAtOnce := by decide +kernel
theorem hd_X4_canBowAtOnce : yX4_canBowAtOnce.cls = RX4 ∧ yX4_canBowAtOnce.cls ≠ "java/lang/invoke/MethodHandle" ∧ yX4_canBowAtOnce.cls ≠ "java/lang/invoke/VarHandle" ∧ (parseMethodDescriptor yX4_canBowAtOnce.desc).map (fun d => d.parameters.length) = some 2 := by decide +kernel
set_option maxRecDepth 100000 in
set_option maxHeartbeats 4000000 in
theorem w_X4_canBowAtOnce {p : Program} {l : Launch} {e : Env} {s : State} {m : MethodId} {args : Array Value} {below : List Frame} {meth : Method} {c : Code} {D : va_G} {cI : ClassId} {ad : Nat → Nat} {L : List CDs} {r : Int32} {M' : Mem} (C0 : me_X p s m args meth c cX4_canBowAtOnce 3 (some .boolean) wsX4_canBowAtOnce RX4 D cI ad L) (t : Nat) (hT : is_X4 L t) (x1 : Int32) (x2 : Int32) : ∀  (M : Mem), X4_canBowAtOnce t x1 x2 M = some (r, M') → me_W p l e rmX4_canBowAtOnce s m args below meth c D cI ad L (some (.int r)) M' 3 0 [(0, .ref (ad t)), (1, .int x1), (2, .int x2)] [] M := by
  obtain ⟨hx, hb, hr, hml, hown, hts, hlk, hK, hI⟩ := id C0
  intro M h
  unfold X4_canBowAtOnce at h
  intro H locs ls hP hS hl
  refine lv_aload_n hx hb dX4_canBowAtOnce_0 rfl (lv_at hl 0 rfl) ?_
  refine lv_iload_n hx hb dX4_canBowAtOnce_1 rfl (lv_at hl 1 rfl) ?_
  refine lv_iload_n hx hb dX4_canBowAtOnce_2 rfl (lv_at hl 2 rfl) ?_
  obtain ⟨v3, M3, h1, h⟩ := s_call_inv h
  refine me_callVi (As := [.int x1, .int x2]) (rest := []) ⟨hx, hb, hml, hown, hts⟩ (c_X4_debt hT h1) (cwV 2 hts gX4_canBowAtOnce_X4_debt rfl rfl rfl hd_X4_debt ⟨(Nat.le_of_ble_eq_true rfl), (Nat.le_of_ble_eq_true rfl)⟩) hK hI hP hS hT.1 rfl rfl hl.1 rfl (Nat.le_of_ble_eq_true rfl) dX4_canBowAtOnce_3 ⟨Nat.zero_le _, Nat.zero_le _⟩ (fun H locs hP hS => ?_)
  refine lv_if_le (tgt := 52) hx hb dX4_canBowAtOnce_6 (by decide) (fun q => ?_) (fun q => ?_)
  · rw [if_pos q] at h
    refine lv_iconst (v := (0 : Int32)) hx hb dX4_canBowAtOnce_52 (by decide) ?_
    exact me_zret hx hb hr hlk hP hS h dX4_canBowAtOnce_53
  · rw [if_neg q] at h
    refine lv_aload_n hx hb dX4_canBowAtOnce_9 rfl (lv_at hl 0 rfl) ?_
    refine lv_iload_n hx hb dX4_canBowAtOnce_10 rfl (lv_at hl 2 rfl) ?_
    refine lv_iload_n hx hb dX4_canBowAtOnce_11 rfl (lv_at hl 1 rfl) ?_
    obtain ⟨v12, M12, h1, h⟩ := s_call_inv h
    refine me_callVi (As := [.int x2, .int x1]) (rest := []) ⟨hx, hb, hml, hown, hts⟩ (c_X4_debt hT h1) (cwV 2 hts gX4_canBowAtOnce_X4_debt rfl rfl rfl hd_X4_debt ⟨(Nat.le_of_ble_eq_true rfl), (Nat.le_of_ble_eq_true rfl)⟩) hK hI hP hS hT.1 rfl rfl hl.1 rfl (Nat.le_of_ble_eq_true rfl) dX4_canBowAtOnce_12 ⟨Nat.zero_le _, Nat.zero_le _⟩ (fun H locs hP hS => ?_)
    refine lv_if_le (tgt := 52) hx hb dX4_canBowAtOnce_15 (by decide) (fun q => ?_) (fun q => ?_)
    · rw [if_pos q] at h
      refine lv_iconst (v := (0 : Int32)) hx hb dX4_canBowAtOnce_52 (by decide) ?_
      exact me_zret hx hb hr hlk hP hS h dX4_canBowAtOnce_53
    · rw [if_neg q] at h
      refine lv_aload_n hx hb dX4_canBowAtOnce_18 rfl (lv_at hl 0 rfl) ?_
      refine me_getr (ci := 4) (C := RX4) (T := TX4) (N := 8) hx hb hts in_X4_canBowAtOnce_X4 hown hK hP hT.1 rfl 7 (by decide) (hts _ kX4_canBowAtOnce_f21) rfl dX4_canBowAtOnce_19 ?_
      refine lv_iload_n hx hb dX4_canBowAtOnce_22 rfl (lv_at hl 1 rfl) ?_
      obtain ⟨hi, h⟩ := s_ald_inv h
      refine me_ald hx hb hK hP hT.2.2.2.2 hi dX4_canBowAtOnce_23 (fun v23 ev => ?_)
      replace h := h v23 ev
      refine lv_aload_n hx hb dX4_canBowAtOnce_24 rfl (lv_at hl 0 rfl) ?_
      refine lv_iload_n hx hb dX4_canBowAtOnce_25 rfl (lv_at hl 1 rfl) ?_
      refine lv_iload_n hx hb dX4_canBowAtOnce_26 rfl (lv_at hl 2 rfl) ?_
      obtain ⟨v27, M27, h1, h⟩ := s_call_inv h
      refine me_callVi (As := [.int x1, .int x2]) (rest := [.int v23]) ⟨hx, hb, hml, hown, hts⟩ (c_X4_debt hT h1) (cwV 2 hts gX4_canBowAtOnce_X4_debt rfl rfl rfl hd_X4_debt ⟨(Nat.le_of_ble_eq_true rfl), (Nat.le_of_ble_eq_true rfl)⟩) hK hI hP hS hT.1 rfl rfl hl.1 rfl (Nat.le_of_ble_eq_true rfl) dX4_canBowAtOnce_27 ⟨Nat.zero_le _, Nat.zero_le _⟩ (fun H locs hP hS => ?_)
      refine lv_icmp_ne (tgt := 52) hx hb dX4_canBowAtOnce_30 (by decide) (fun q => ?_) (fun q => ?_)
      · rw [if_pos q] at h
        refine lv_iconst (v := (0 : Int32)) hx hb dX4_canBowAtOnce_52 (by decide) ?_
        exact me_zret hx hb hr hlk hP hS h dX4_canBowAtOnce_53
      · rw [if_neg (not_not_intro q)] at h
        refine lv_aload_n hx hb dX4_canBowAtOnce_33 rfl (lv_at hl 0 rfl) ?_
        refine me_getr (ci := 4) (C := RX4) (T := TX4) (N := 8) hx hb hts in_X4_canBowAtOnce_X4 hown hK hP hT.1 rfl 7 (by decide) (hts _ kX4_canBowAtOnce_f21) rfl dX4_canBowAtOnce_34 ?_
        refine lv_iload_n hx hb dX4_canBowAtOnce_37 rfl (lv_at hl 2 rfl) ?_
        obtain ⟨hi, h⟩ := s_ald_inv h
        refine me_ald hx hb hK hP hT.2.2.2.2 hi dX4_canBowAtOnce_38 (fun v38 ev => ?_)
        replace h := h v38 ev
        refine lv_aload_n hx hb dX4_canBowAtOnce_39 rfl (lv_at hl 0 rfl) ?_
        refine lv_iload_n hx hb dX4_canBowAtOnce_40 rfl (lv_at hl 2 rfl) ?_
        refine lv_iload_n hx hb dX4_canBowAtOnce_41 rfl (lv_at hl 1 rfl) ?_
        obtain ⟨v42, M42, h1, h⟩ := s_call_inv h
        refine me_callVi (As := [.int x2, .int x1]) (rest := [.int v38]) ⟨hx, hb, hml, hown, hts⟩ (c_X4_debt hT h1) (cwV 2 hts gX4_canBowAtOnce_X4_debt rfl rfl rfl hd_X4_debt ⟨(Nat.le_of_ble_eq_true rfl), (Nat.le_of_ble_eq_true rfl)⟩) hK hI hP hS hT.1 rfl rfl hl.1 rfl (Nat.le_of_ble_eq_true rfl) dX4_canBowAtOnce_42 ⟨Nat.zero_le _, Nat.zero_le _⟩ (fun H locs hP hS => ?_)
        refine lv_icmp_ne (tgt := 52) hx hb dX4_canBowAtOnce_45 (by decide) (fun q => ?_) (fun q => ?_)
        · rw [if_pos q] at h
          refine lv_iconst (v := (0 : Int32)) hx hb dX4_canBowAtOnce_52 (by decide) ?_
          exact me_zret hx hb hr hlk hP hS h dX4_canBowAtOnce_53
        · rw [if_neg (not_not_intro q)] at h
          refine lv_iconst (v := (1 : Int32)) hx hb dX4_canBowAtOnce_48 (by decide) ?_
          refine lv_goto (tgt := 53) hx hb dX4_canBowAtOnce_49 (by decide) ?_
          exact me_zret hx hb hr hlk hP hS h dX4_canBowAtOnce_53
theorem c_X4_canBowAtOnce {l : Launch} {D : va_G} {cI : ClassId} {ad : Nat → Nat} {L : List CDs} {t : Nat} (hT : is_X4 L t) {x1 : Int32} {x2 : Int32} {M M' : Mem} {r : Int32} (h : X4_canBowAtOnce t x1 x2 M = some (r, M')) : me_Met l yX4_canBowAtOnce wsX4_canBowAtOnce rmX4_canBowAtOnce D cI ad L [.ref (ad t), .int x1, .int x2] (some (.int r)) M M' :=
  me_ofW (by decide) rfl (Nat.le_of_ble_eq_true rfl) (fun p e s m below meth c C0 => w_X4_canBowAtOnce C0 t hT x1 x2 M h)
abbrev rmX4_canBeDone : Room := { frames := 2, cells := 0, slots := 0, locals := 44 }
theorem hd_X4_canBeDone : yX4_canBeDone.cls = RX4 ∧ yX4_canBeDone.cls ≠ "java/lang/invoke/MethodHandle" ∧ yX4_canBeDone.cls ≠ "java/lang/invoke/VarHandle" ∧ (parseMethodDescriptor yX4_canBeDone.desc).map (fun d => d.parameters.length) = some 3 := by decide +kernel
set_option maxRecDepth 100000 in
set_option maxHeartbeats 4000000 in
theorem w_X4_canBeDone {p : Program} {l : Launch} {e : Env} {s : State} {m : MethodId} {args : Array Value} {below : List Frame} {meth : Method} {c : Code} {D : va_G} {cI : ClassId} {ad : Nat → Nat} {L : List CDs} {r : Int32} {M' : Mem} (C0 : me_X p s m args meth c cX4_canBeDone 4 (some .boolean) wsX4_canBeDone RX4 D cI ad L) (t : Nat) (hT : is_X4 L t) (x1 : Int32) (x2 : Int32) (x3 : Int32) : ∀  (M : Mem), X4_canBeDone t x1 x2 x3 M = some (r, M') → me_W p l e rmX4_canBeDone s m args below meth c D cI ad L (some (.int r)) M' 4 0 [(0, .ref (ad t)), (1, .int x1), (2, .int x2), (3, .int x3)] [] M := by
  obtain ⟨hx, hb, hr, hml, hown, hts, hlk, hK, hI⟩ := id C0
  intro M h
  unfold X4_canBeDone at h
  intro H locs ls hP hS hl
  refine lv_iload_n hx hb dX4_canBeDone_0 rfl (lv_at hl 1 rfl) ?_
  by_cases q0 : x1 = (0 : Int32)
  · rw [if_pos q0] at h
    refine lv_tableIn (tgt := 36) (off := 35) hx hb dX4_canBeDone_1 (by rw [q0]; decide) (by rw [q0]; decide) (by rw [q0]; rfl) (by decide) ?_
    refine lv_iload_n hx hb dX4_canBeDone_36 rfl (lv_at hl 2 rfl) ?_
    refine lv_iload_n hx hb dX4_canBeDone_37 rfl (lv_at hl 3 rfl) ?_
    refine lv_icmp_eq (tgt := 72) hx hb dX4_canBeDone_38 (by decide) (fun q => ?_) (fun q => ?_)
    · rw [if_pos q] at h
      refine lv_iconst (v := (0 : Int32)) hx hb dX4_canBeDone_72 (by decide) ?_
      exact me_zret hx hb hr hlk hP hS h dX4_canBeDone_73
    · rw [if_neg q] at h
      refine lv_aload_n hx hb dX4_canBeDone_41 rfl (lv_at hl 0 rfl) ?_
      refine lv_iload_n hx hb dX4_canBeDone_42 rfl (lv_at hl 2 rfl) ?_
      obtain ⟨v43, M43, h1, h⟩ := s_call_inv h
      refine me_callVi (As := [.int x2]) (rest := []) ⟨hx, hb, hml, hown, hts⟩ (c_X4_isAlive hT h1) (cwV 1 hts gX4_canBeDone_X4_isAlive rfl rfl rfl hd_X4_isAlive ⟨(Nat.le_of_ble_eq_true rfl), (Nat.le_of_ble_eq_true rfl)⟩) hK hI hP hS hT.1 rfl rfl hl.1 rfl (Nat.le_of_ble_eq_true rfl) dX4_canBeDone_43 ⟨Nat.zero_le _, Nat.zero_le _⟩ (fun H locs hP hS => ?_)
      refine lv_if_eq (tgt := 72) hx hb dX4_canBeDone_46 (by decide) (fun q => ?_) (fun q => ?_)
      · rw [if_pos q] at h
        refine lv_iconst (v := (0 : Int32)) hx hb dX4_canBeDone_72 (by decide) ?_
        exact me_zret hx hb hr hlk hP hS h dX4_canBeDone_73
      · rw [if_neg q] at h
        refine lv_aload_n hx hb dX4_canBeDone_49 rfl (lv_at hl 0 rfl) ?_
        refine lv_iload_n hx hb dX4_canBeDone_50 rfl (lv_at hl 3 rfl) ?_
        obtain ⟨v51, M51, h1, h⟩ := s_call_inv h
        refine me_callVi (As := [.int x3]) (rest := []) ⟨hx, hb, hml, hown, hts⟩ (c_X4_isAlive hT h1) (cwV 1 hts gX4_canBeDone_X4_isAlive rfl rfl rfl hd_X4_isAlive ⟨(Nat.le_of_ble_eq_true rfl), (Nat.le_of_ble_eq_true rfl)⟩) hK hI hP hS hT.1 rfl rfl hl.1 rfl (Nat.le_of_ble_eq_true rfl) dX4_canBeDone_51 ⟨Nat.zero_le _, Nat.zero_le _⟩ (fun H locs hP hS => ?_)
        refine lv_if_eq (tgt := 72) hx hb dX4_canBeDone_54 (by decide) (fun q => ?_) (fun q => ?_)
        · rw [if_pos q] at h
          refine lv_iconst (v := (0 : Int32)) hx hb dX4_canBeDone_72 (by decide) ?_
          exact me_zret hx hb hr hlk hP hS h dX4_canBeDone_73
        · rw [if_neg q] at h
          refine lv_aload_n hx hb dX4_canBeDone_57 rfl (lv_at hl 0 rfl) ?_
          refine lv_iload_n hx hb dX4_canBeDone_58 rfl (lv_at hl 2 rfl) ?_
          refine lv_iload_n hx hb dX4_canBeDone_59 rfl (lv_at hl 3 rfl) ?_
          obtain ⟨v60, M60, h1, h⟩ := s_call_inv h
          refine me_callVi (As := [.int x2, .int x3]) (rest := []) ⟨hx, hb, hml, hown, hts⟩ (c_X4_debt hT h1) (cwV 2 hts gX4_canBeDone_X4_debt rfl rfl rfl hd_X4_debt ⟨(Nat.le_of_ble_eq_true rfl), (Nat.le_of_ble_eq_true rfl)⟩) hK hI hP hS hT.1 rfl rfl hl.1 rfl (Nat.le_of_ble_eq_true rfl) dX4_canBeDone_60 ⟨Nat.zero_le _, Nat.zero_le _⟩ (fun H locs hP hS => ?_)
          refine lv_bipush (v := (9 : Int32)) hx hb dX4_canBeDone_63 (by decide) ?_
          refine lv_icmp_ge (tgt := 72) hx hb dX4_canBeDone_65 (by decide) (fun q => ?_) (fun q => ?_)
          · rw [if_pos q] at h
            refine lv_iconst (v := (0 : Int32)) hx hb dX4_canBeDone_72 (by decide) ?_
            exact me_zret hx hb hr hlk hP hS h dX4_canBeDone_73
          · rw [if_neg q] at h
            refine lv_iconst (v := (1 : Int32)) hx hb dX4_canBeDone_68 (by decide) ?_
            refine lv_goto (tgt := 73) hx hb dX4_canBeDone_69 (by decide) ?_
            exact me_zret hx hb hr hlk hP hS h dX4_canBeDone_73
  rw [if_neg q0] at h
  by_cases q1 : x1 = (1 : Int32)
  · rw [if_pos q1] at h
    refine lv_tableIn (tgt := 74) (off := 73) hx hb dX4_canBeDone_1 (by rw [q1]; decide) (by rw [q1]; decide) (by rw [q1]; rfl) (by decide) ?_
    refine lv_aload_n hx hb dX4_canBeDone_74 rfl (lv_at hl 0 rfl) ?_
    refine lv_iload_n hx hb dX4_canBeDone_75 rfl (lv_at hl 2 rfl) ?_
    refine lv_iload_n hx hb dX4_canBeDone_76 rfl (lv_at hl 3 rfl) ?_
    obtain ⟨v77, M77, h1, h⟩ := s_call_inv h
    refine me_callVi (As := [.int x2, .int x3]) (rest := []) ⟨hx, hb, hml, hown, hts⟩ (c_X4_canBow hT h1) (cwV 2 hts gX4_canBeDone_X4_canBow rfl rfl rfl hd_X4_canBow ⟨(Nat.le_of_ble_eq_true rfl), (Nat.le_of_ble_eq_true rfl)⟩) hK hI hP hS hT.1 rfl rfl hl.1 rfl (Nat.le_of_ble_eq_true rfl) dX4_canBeDone_77 ⟨Nat.zero_le _, Nat.zero_le _⟩ (fun H locs hP hS => ?_)
    exact me_zret hx hb hr hlk hP hS h dX4_canBeDone_80
  rw [if_neg q1] at h
  by_cases q2 : x1 = (2 : Int32)
  · rw [if_pos q2] at h
    refine lv_tableIn (tgt := 81) (off := 80) hx hb dX4_canBeDone_1 (by rw [q2]; decide) (by rw [q2]; decide) (by rw [q2]; rfl) (by decide) ?_
    refine lv_aload_n hx hb dX4_canBeDone_81 rfl (lv_at hl 0 rfl) ?_
    refine lv_iload_n hx hb dX4_canBeDone_82 rfl (lv_at hl 2 rfl) ?_
    refine lv_iload_n hx hb dX4_canBeDone_83 rfl (lv_at hl 3 rfl) ?_
    obtain ⟨v84, M84, h1, h⟩ := s_call_inv h
    refine me_callVi (As := [.int x2, .int x3]) (rest := []) ⟨hx, hb, hml, hown, hts⟩ (c_X4_canBow hT h1) (cwV 2 hts gX4_canBeDone_X4_canBow rfl rfl rfl hd_X4_canBow ⟨(Nat.le_of_ble_eq_true rfl), (Nat.le_of_ble_eq_true rfl)⟩) hK hI hP hS hT.1 rfl rfl hl.1 rfl (Nat.le_of_ble_eq_true rfl) dX4_canBeDone_84 ⟨Nat.zero_le _, Nat.zero_le _⟩ (fun H locs hP hS => ?_)
    refine lv_if_eq (tgt := 105) hx hb dX4_canBeDone_87 (by decide) (fun q => ?_) (fun q => ?_)
    · rw [if_pos q] at h
      refine lv_iconst (v := (0 : Int32)) hx hb dX4_canBeDone_105 (by decide) ?_
      exact me_zret hx hb hr hlk hP hS h dX4_canBeDone_106
    · rw [if_neg q] at h
      refine lv_aload_n hx hb dX4_canBeDone_90 rfl (lv_at hl 0 rfl) ?_
      refine lv_iload_n hx hb dX4_canBeDone_91 rfl (lv_at hl 2 rfl) ?_
      refine lv_iload_n hx hb dX4_canBeDone_92 rfl (lv_at hl 3 rfl) ?_
      obtain ⟨v93, M93, h1, h⟩ := s_call_inv h
      refine me_callVi (As := [.int x2, .int x3]) (rest := []) ⟨hx, hb, hml, hown, hts⟩ (c_X4_debt hT h1) (cwV 2 hts gX4_canBeDone_X4_debt rfl rfl rfl hd_X4_debt ⟨(Nat.le_of_ble_eq_true rfl), (Nat.le_of_ble_eq_true rfl)⟩) hK hI hP hS hT.1 rfl rfl hl.1 rfl (Nat.le_of_ble_eq_true rfl) dX4_canBeDone_93 ⟨Nat.zero_le _, Nat.zero_le _⟩ (fun H locs hP hS => ?_)
      refine lv_bipush (v := (9 : Int32)) hx hb dX4_canBeDone_96 (by decide) ?_
      refine lv_icmp_ge (tgt := 105) hx hb dX4_canBeDone_98 (by decide) (fun q => ?_) (fun q => ?_)
      · rw [if_pos q] at h
        refine lv_iconst (v := (0 : Int32)) hx hb dX4_canBeDone_105 (by decide) ?_
        exact me_zret hx hb hr hlk hP hS h dX4_canBeDone_106
      · rw [if_neg q] at h
        refine lv_iconst (v := (1 : Int32)) hx hb dX4_canBeDone_101 (by decide) ?_
        refine lv_goto (tgt := 106) hx hb dX4_canBeDone_102 (by decide) ?_
        exact me_zret hx hb hr hlk hP hS h dX4_canBeDone_106
  rw [if_neg q2] at h
  by_cases q3 : x1 = (3 : Int32)
  · rw [if_pos q3] at h
    refine lv_tableIn (tgt := 107) (off := 106) hx hb dX4_canBeDone_1 (by rw [q3]; decide) (by rw [q3]; decide) (by rw [q3]; rfl) (by decide) ?_
    refine lv_aload_n hx hb dX4_canBeDone_107 rfl (lv_at hl 0 rfl) ?_
    refine lv_iload_n hx hb dX4_canBeDone_108 rfl (lv_at hl 2 rfl) ?_
    refine lv_iload_n hx hb dX4_canBeDone_109 rfl (lv_at hl 3 rfl) ?_
    obtain ⟨v110, M110, h1, h⟩ := s_call_inv h
    refine me_callVi (As := [.int x2, .int x3]) (rest := []) ⟨hx, hb, hml, hown, hts⟩ (c_X4_canBowAtOnce hT h1) (cwV 2 hts gX4_canBeDone_X4_canBowAtOnce rfl rfl rfl hd_X4_canBowAtOnce ⟨(Nat.le_of_ble_eq_true rfl), (Nat.le_of_ble_eq_true rfl)⟩) hK hI hP hS hT.1 rfl rfl hl.1 rfl (Nat.le_of_ble_eq_true rfl) dX4_canBeDone_110 ⟨Nat.zero_le _, Nat.zero_le _⟩ (fun H locs hP hS => ?_)
    exact me_zret hx hb hr hlk hP hS h dX4_canBeDone_113
  rw [if_neg q3] at h
  by_cases q4 : x1 = (4 : Int32)
  · rw [if_pos q4] at h
    refine lv_tableIn (tgt := 114) (off := 113) hx hb dX4_canBeDone_1 (by rw [q4]; decide) (by rw [q4]; decide) (by rw [q4]; rfl) (by decide) ?_
    refine lv_aload_n hx hb dX4_canBeDone_114 rfl (lv_at hl 0 rfl) ?_
    refine lv_iload_n hx hb dX4_canBeDone_115 rfl (lv_at hl 2 rfl) ?_
    obtain ⟨v116, M116, h1, h⟩ := s_call_inv h
    refine me_callVi (As := [.int x2]) (rest := []) ⟨hx, hb, hml, hown, hts⟩ (c_X4_isAlive hT h1) (cwV 1 hts gX4_canBeDone_X4_isAlive rfl rfl rfl hd_X4_isAlive ⟨(Nat.le_of_ble_eq_true rfl), (Nat.le_of_ble_eq_true rfl)⟩) hK hI hP hS hT.1 rfl rfl hl.1 rfl (Nat.le_of_ble_eq_true rfl) dX4_canBeDone_116 ⟨Nat.zero_le _, Nat.zero_le _⟩ (fun H locs hP hS => ?_)
    exact me_zret hx hb hr hlk hP hS h dX4_canBeDone_119
  rw [if_neg q4] at h
  have e0 := lv_neT (a := 0) q0 (by decide)
  have e1 := lv_neT (a := 1) q1 (by decide)
  have e2 := lv_neT (a := 2) q2 (by decide)
  have e3 := lv_neT (a := 3) q3 (by decide)
  have e4 := lv_neT (a := 4) q4 (by decide)
  refine lv_tableOut (tgt := 120) hx hb dX4_canBeDone_1 (by omega) (by decide) ?_
  refine lv_iload_n hx hb dX4_canBeDone_120 rfl (lv_at hl 1 rfl) ?_
  refine lv_iconst (v := (5 : Int32)) hx hb dX4_canBeDone_121 (by decide) ?_
  refine lv_icmp_ne (tgt := 129) hx hb dX4_canBeDone_122 (by decide) (fun q => ?_) (fun q => ?_)
  · rw [if_pos q] at h
    refine lv_iconst (v := (0 : Int32)) hx hb dX4_canBeDone_129 (by decide) ?_
    exact me_zret hx hb hr hlk hP hS h dX4_canBeDone_130
  · rw [if_neg (not_not_intro q)] at h
    refine lv_iconst (v := (1 : Int32)) hx hb dX4_canBeDone_125 (by decide) ?_
    refine lv_goto (tgt := 130) hx hb dX4_canBeDone_126 (by decide) ?_
    exact me_zret hx hb hr hlk hP hS h dX4_canBeDone_130
theorem c_X4_canBeDone {l : Launch} {D : va_G} {cI : ClassId} {ad : Nat → Nat} {L : List CDs} {t : Nat} (hT : is_X4 L t) {x1 : Int32} {x2 : Int32} {x3 : Int32} {M M' : Mem} {r : Int32} (h : X4_canBeDone t x1 x2 x3 M = some (r, M')) : me_Met l yX4_canBeDone wsX4_canBeDone rmX4_canBeDone D cI ad L [.ref (ad t), .int x1, .int x2, .int x3] (some (.int r)) M M' :=
  me_ofW (by decide) rfl (Nat.le_of_ble_eq_true rfl) (fun p e s m below meth c C0 => w_X4_canBeDone C0 t hT x1 x2 x3 M h)
abbrev rmX4_oweOneMore : Room := { frames := 1, cells := 0, slots := 0, locals := 24 }
theorem kX4_oweOneMore_m106 : (Cond.methodLink RX4 106 Lib.Math.min.name) ∈ wsX4_oweOneMore := List.mem_of_getElem? (i := 1) rfl
theorem kX4_oweOneMore_st_min : (Cond.static Lib.Math.min.name) ∈ wsX4_oweOneMore := List.mem_of_getElem? (i := 2) rfl
theorem kX4_oweOneMore_iniMath : (Cond.initialized "java/lang/Math") ∈ wsX4_oweOneMore := List.mem_of_getElem? (i := 3) rfl
theorem kX4_oweOneMore_cd_min : (Cond.code Lib.Math.min.name Lib.Math.min.code 2 (some .int)) ∈ wsX4_oweOneMore := List.mem_of_getElem? (i := 4) rfl
theorem hd_X4_oweOneMore : yX4_oweOneMore.cls = RX4 ∧ yX4_oweOneMore.cls ≠ "java/lang/invoke/MethodHandle" ∧ yX4_oweOneMore.cls ≠ "java/lang/invoke/VarHandle" ∧ (parseMethodDescriptor yX4_oweOneMore.desc).map (fun d => d.parameters.length) = some 2 := by decide +kernel
set_option maxRecDepth 100000 in
set_option maxHeartbeats 4000000 in
theorem w_X4_oweOneMore {p : Program} {l : Launch} {e : Env} {s : State} {m : MethodId} {args : Array Value} {below : List Frame} {meth : Method} {c : Code} {D : va_G} {cI : ClassId} {ad : Nat → Nat} {L : List CDs} {r : Unit} {M' : Mem} (C0 : me_X p s m args meth c cX4_oweOneMore 3 none wsX4_oweOneMore RX4 D cI ad L) (t : Nat) (hT : is_X4 L t) (x1 : Int32) (x2 : Int32) : ∀  (M : Mem), X4_oweOneMore t x1 x2 M = some (r, M') → me_W p l e rmX4_oweOneMore s m args below meth c D cI ad L none M' 3 0 [(0, .ref (ad t)), (1, .int x1), (2, .int x2)] [] M := by
  obtain ⟨hx, hb, hr, hml, hown, hts, hlk, hK, hI⟩ := id C0
  intro M h
  unfold X4_oweOneMore at h
  intro H locs ls hP hS hl
  refine lv_aload_n hx hb dX4_oweOneMore_0 rfl (lv_at hl 0 rfl) ?_
  refine lv_iload_n hx hb dX4_oweOneMore_1 rfl (lv_at hl 1 rfl) ?_
  refine lv_iload_n hx hb dX4_oweOneMore_2 rfl (lv_at hl 2 rfl) ?_
  refine lv_bipush (v := (9 : Int32)) hx hb dX4_oweOneMore_3 (by decide) ?_
  refine lv_aload_n hx hb dX4_oweOneMore_5 rfl (lv_at hl 0 rfl) ?_
  refine lv_iload_n hx hb dX4_oweOneMore_6 rfl (lv_at hl 1 rfl) ?_
  refine lv_iload_n hx hb dX4_oweOneMore_7 rfl (lv_at hl 2 rfl) ?_
  obtain ⟨v8, M8, h1, h⟩ := s_call_inv h
  refine me_callVi (As := [.int x1, .int x2]) (rest := [.int (9 : Int32), .int x2, .int x1, .ref (ad t)]) ⟨hx, hb, hml, hown, hts⟩ (c_X4_debt hT h1) (cwV 2 hts gX4_oweOneMore_X4_debt rfl rfl rfl hd_X4_debt ⟨(Nat.le_of_ble_eq_true rfl), (Nat.le_of_ble_eq_true rfl)⟩) hK hI hP hS hT.1 rfl rfl hl.1 rfl (Nat.le_of_ble_eq_true rfl) dX4_oweOneMore_8 ⟨Nat.zero_le _, Nat.zero_le _⟩ (fun H locs hP hS => ?_)
  refine lv_iconst (v := (1 : Int32)) hx hb dX4_oweOneMore_11 (by decide) ?_
  refine lv_iadd hx hb dX4_oweOneMore_12 ?_
  refine va_mmin (rest := [.int x2, .int x1, .ref (ad t)]) hx hb (hml.trans hl.1.symm) hown (hts _ kX4_oweOneMore_m106) (hts _ kX4_oweOneMore_st_min) (hts _ kX4_oweOneMore_iniMath) (hts _ kX4_oweOneMore_cd_min) (Nat.le_of_ble_eq_true rfl) (Nat.le_of_ble_eq_true rfl) (Nat.zero_le _) (Nat.zero_le _) dX4_oweOneMore_13 ?_
  obtain ⟨u16, M16, h1, h⟩ := s_call_inv h
  refine me_callVv (As := [.int x1, .int x2, .int (if (v8 + (1 : Int32)) < (9 : Int32) then (v8 + (1 : Int32)) else (9 : Int32))]) (rest := []) ⟨hx, hb, hml, hown, hts⟩ (c_X4_setDebt hT h1) (cwV 3 hts gX4_oweOneMore_X4_setDebt rfl rfl rfl hd_X4_setDebt ⟨(Nat.le_of_ble_eq_true rfl), (Nat.le_of_ble_eq_true rfl)⟩) hK hI hP hS hT.1 rfl rfl hl.1 rfl (Nat.le_of_ble_eq_true rfl) dX4_oweOneMore_16 ⟨Nat.zero_le _, Nat.zero_le _⟩ (fun H locs hP hS => ?_)
  exact me_vret hx hb hr hlk hP hS h dX4_oweOneMore_19
theorem c_X4_oweOneMore {l : Launch} {D : va_G} {cI : ClassId} {ad : Nat → Nat} {L : List CDs} {t : Nat} (hT : is_X4 L t) {x1 : Int32} {x2 : Int32} {M M' : Mem} {r : Unit} (h : X4_oweOneMore t x1 x2 M = some (r, M')) : me_Met l yX4_oweOneMore wsX4_oweOneMore rmX4_oweOneMore D cI ad L [.ref (ad t), .int x1, .int x2] none M M' :=
  me_ofW (by decide) rfl (Nat.le_of_ble_eq_true rfl) (fun p e s m below meth c C0 => w_X4_oweOneMore C0 t hT x1 x2 M h)
abbrev rmX4_paysToday : Room := { frames := 0, cells := 0, slots := 0, locals := 0 }
theorem kX4_paysToday_f9 : (Cond.fieldLink RX4 9 "LadderOfBows$Town" "kinds" "[I") ∈ wsX4_paysToday := List.mem_of_getElem? (i := 1) rfl
theorem kX4_paysToday_f28 : (Cond.fieldLink RX4 28 "LadderOfBows$Town" "day" "I") ∈ wsX4_paysToday := List.mem_of_getElem? (i := 2) rfl
theorem in_X4_paysToday_X4 : ∀ w ∈ wsX40, w ∈ wsX4_paysToday := by decide +kernel
theorem hd_X4_paysToday : yX4_paysToday.cls = RX4 ∧ yX4_paysToday.cls ≠ "java/lang/invoke/MethodHandle" ∧ yX4_paysToday.cls ≠ "java/lang/invoke/VarHandle" ∧ (parseMethodDescriptor yX4_paysToday.desc).map (fun d => d.parameters.length) = some 1 := by decide +kernel
set_option maxRecDepth 100000 in
set_option maxHeartbeats 4000000 in
theorem w_X4_paysToday {p : Program} {l : Launch} {e : Env} {s : State} {m : MethodId} {args : Array Value} {below : List Frame} {meth : Method} {c : Code} {D : va_G} {cI : ClassId} {ad : Nat → Nat} {L : List CDs} {r : Int32} {M' : Mem} (C0 : me_X p s m args meth c cX4_paysToday 2 (some .boolean) wsX4_paysToday RX4 D cI ad L) (t : Nat) (hT : is_X4 L t) (x1 : Int32) : ∀  (M : Mem), X4_paysToday t x1 M = some (r, M') → me_W p l e rmX4_paysToday s m args below meth c D cI ad L (some (.int r)) M' 2 0 [(0, .ref (ad t)), (1, .int x1)] [] M := by
  obtain ⟨hx, hb, hr, hml, hown, hts, hlk, hK, hI⟩ := id C0
  intro M h
  unfold X4_paysToday at h
  intro H locs ls hP hS hl
  refine lv_aload_n hx hb dX4_paysToday_0 rfl (lv_at hl 0 rfl) ?_
  refine me_getr (ci := 4) (C := RX4) (T := TX4) (N := 8) hx hb hts in_X4_paysToday_X4 hown hK hP hT.1 rfl 4 (by decide) (hts _ kX4_paysToday_f9) rfl dX4_paysToday_1 ?_
  refine lv_iload_n hx hb dX4_paysToday_4 rfl (lv_at hl 1 rfl) ?_
  obtain ⟨hi, h⟩ := s_ald_inv h
  refine me_ald hx hb hK hP hT.2.1 hi dX4_paysToday_5 (fun v5 ev => ?_)
  replace h := h v5 ev
  refine lv_iconst (v := (3 : Int32)) hx hb dX4_paysToday_6 (by decide) ?_
  refine lv_icmp_ne (tgt := 19) hx hb dX4_paysToday_7 (by decide) (fun q => ?_) (fun q => ?_)
  · rw [if_pos q] at h
    refine lv_iconst (v := (1 : Int32)) hx hb dX4_paysToday_19 (by decide) ?_
    refine lv_goto (tgt := 24) hx hb dX4_paysToday_20 (by decide) ?_
    exact me_zret hx hb hr hlk hP hS h dX4_paysToday_24
  · rw [if_neg (not_not_intro q)] at h
    refine lv_aload_n hx hb dX4_paysToday_10 rfl (lv_at hl 0 rfl) ?_
    refine me_get (ci := 4) (C := RX4) (T := TX4) (N := 8) hx hb hts in_X4_paysToday_X4 hown hK hP hT.1 rfl 1 (by decide) (hts _ kX4_paysToday_f28) rfl dX4_paysToday_11 ?_
    refine lv_iconst (v := (2 : Int32)) hx hb dX4_paysToday_14 (by decide) ?_
    obtain ⟨hi, h⟩ := s_rem_inv h
    refine lv_irem hx hb dX4_paysToday_15 hi ?_
    refine lv_topi (fun v15 ev => ?_)
    replace h := h v15 ev
    refine lv_if_ne (tgt := 23) hx hb dX4_paysToday_16 (by decide) (fun q => ?_) (fun q => ?_)
    · rw [if_pos q] at h
      refine lv_iconst (v := (0 : Int32)) hx hb dX4_paysToday_23 (by decide) ?_
      exact me_zret hx hb hr hlk hP hS h dX4_paysToday_24
    · rw [if_neg (not_not_intro q)] at h
      refine lv_iconst (v := (1 : Int32)) hx hb dX4_paysToday_19 (by decide) ?_
      refine lv_goto (tgt := 24) hx hb dX4_paysToday_20 (by decide) ?_
      exact me_zret hx hb hr hlk hP hS h dX4_paysToday_24
theorem c_X4_paysToday {l : Launch} {D : va_G} {cI : ClassId} {ad : Nat → Nat} {L : List CDs} {t : Nat} (hT : is_X4 L t) {x1 : Int32} {M M' : Mem} {r : Int32} (h : X4_paysToday t x1 M = some (r, M')) : me_Met l yX4_paysToday wsX4_paysToday rmX4_paysToday D cI ad L [.ref (ad t), .int x1] (some (.int r)) M M' :=
  me_ofW (by decide) rfl (Nat.le_of_ble_eq_true rfl) (fun p e s m below meth c C0 => w_X4_paysToday C0 t hT x1 M h)
