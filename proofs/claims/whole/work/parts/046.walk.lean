/-! ===== the walks, by program (wip/gen/gen.py) ===== -/
abbrev rmX6_person : Room := { frames := 3, cells := 0, slots := 0, locals := 69 }
theorem kX6_person_c175 : (Cond.constantLong RX6 175 (5)) ∈ wsX6_person := List.mem_of_getElem? (i := 1) rfl
theorem kX6_person_f16 : (Cond.fieldLink RX6 16 "LadderOfBowsModel" "kinds" "[I") ∈ wsX6_person := List.mem_of_getElem? (i := 2) rfl
theorem kX6_person_f19 : (Cond.fieldLink RX6 19 "LadderOfBowsModel" "streets" "[I") ∈ wsX6_person := List.mem_of_getElem? (i := 3) rfl
theorem in_X6_person_X6 : ∀ w ∈ wsX60, w ∈ wsX6_person := by decide +kernel
theorem hd_X6_person : yX6_person.cls = RX6 ∧ yX6_person.cls ≠ "java/lang/invoke/MethodHandle" ∧ yX6_person.cls ≠ "java/lang/invoke/VarHandle" ∧ (parseMethodDescriptor yX6_person.desc).map (fun d => d.parameters.length) = some 2 := by decide +kernel
set_option maxRecDepth 100000 in
set_option maxHeartbeats 4000000 in
theorem w_X6_person {p : Program} {l : Launch} {e : Env} {s : State} {m : MethodId} {args : Array Value} {below : List Frame} {meth : Method} {c : Code} {D : va_G} {cI : ClassId} {ad : Nat → Nat} {L : List CDs} {r : Int32} {M' : Mem} (C0 : me_X p s m args meth c cX6_person 3 (some .int) wsX6_person RX6 D cI ad L) (t : Nat) (hT : is_X6 L t) (x1 : Int32) (x2 : Int32) : ∀  (M : Mem), X6_person t x1 x2 M = some (r, M') → me_W p l e rmX6_person s m args below meth c D cI ad L (some (.int r)) M' 3 0 [(0, .ref (ad t)), (1, .int x1), (2, .int x2)] [] M := by
  obtain ⟨hx, hb, hr, hml, hown, hts, hlk, hK, hI⟩ := id C0
  intro M h
  unfold X6_person at h
  intro H locs ls hP hS hl
  refine lv_aload_n hx hb dX6_person_0 rfl (lv_at hl 0 rfl) ?_
  refine lv_iload_n hx hb dX6_person_1 rfl (lv_at hl 1 rfl) ?_
  obtain ⟨v2, M2, h1, h⟩ := s_call_inv h
  refine me_callVi (As := [.int x1]) (rest := []) ⟨hx, hb, hml, hown, hts⟩ (c_X6_isPerson hT h1) (cwV 1 hts gX6_person_X6_isPerson rfl rfl rfl hd_X6_isPerson ⟨(Nat.le_of_ble_eq_true rfl), (Nat.le_of_ble_eq_true rfl)⟩) hK hI hP hS hT.1 rfl rfl hl.1 rfl (Nat.le_of_ble_eq_true rfl) dX6_person_2 ⟨Nat.zero_le _, Nat.zero_le _⟩ (fun H locs hP hS => ?_)
  refine lv_if_eq (tgt := 20) hx hb dX6_person_5 (by decide) (fun q => ?_) (fun q => ?_)
  · rw [if_pos q] at h
    refine lv_iconst (v := (-1 : Int32)) hx hb dX6_person_20 (by decide) ?_
    exact me_iret hx hb hr hlk hP hS h dX6_person_21
  · rw [if_neg q] at h
    refine lv_iload_n hx hb dX6_person_8 rfl (lv_at hl 2 rfl) ?_
    refine lv_i2l (v := (x2).toInt64) hx hb dX6_person_9 rfl ?_
    refine lv_lconst (v := (0 : Int64)) hx hb dX6_person_10 (by decide) ?_
    refine lv_ldc2 (v := (5 : Int64)) hx hb hown (hts _ kX6_person_c175) dX6_person_11 ?_
    obtain ⟨v14, M14, h1, h⟩ := s_call_inv h
    refine me_callSi (As := [.long ((x2).toInt64), .long (0 : Int64), .long (5 : Int64)]) (rest := []) ⟨hx, hb, hml, hown, hts⟩ (c_X6_in h1) (va_cwS 3 hts gX6_person_X6_in rfl rfl rfl hd_X6_in.2 ⟨(Nat.le_of_ble_eq_true rfl), (Nat.le_of_ble_eq_true rfl)⟩) hK hI hP hS rfl hl.1 rfl (Nat.le_of_ble_eq_true rfl) dX6_person_14 ⟨Nat.zero_le _, Nat.zero_le _⟩ (fun H locs hP hS => ?_)
    refine lv_if_ne (tgt := 22) hx hb dX6_person_17 (by decide) (fun q => ?_) (fun q => ?_)
    · rw [if_pos q] at h
      refine lv_iload_n hx hb dX6_person_22 rfl (lv_at hl 2 rfl) ?_
      by_cases q0 : x2 = (0 : Int32)
      · rw [if_pos q0] at h
        refine lv_tableIn (tgt := 56) (off := 33) hx hb dX6_person_23 (by rw [q0]; decide) (by rw [q0]; decide) (by rw [q0]; rfl) (by decide) ?_
        refine lv_aload_n hx hb dX6_person_56 rfl (lv_at hl 0 rfl) ?_
        refine me_getr (ci := 6) (C := RX6) (T := TX6) (N := 22) hx hb hts in_X6_person_X6 hown hK hP hT.1 rfl 3 (by decide) (hts _ kX6_person_f16) rfl dX6_person_57 ?_
        refine lv_iload_n hx hb dX6_person_60 rfl (lv_at hl 1 rfl) ?_
        obtain ⟨hi, h⟩ := s_ald_inv h
        refine me_ald hx hb hK hP hT.2.2.2.1 hi dX6_person_61 (fun v61 ev => ?_)
        replace h := h v61 ev
        exact me_iret hx hb hr hlk hP hS h dX6_person_62
      rw [if_neg q0] at h
      by_cases q1 : x2 = (1 : Int32)
      · rw [if_pos q1] at h
        refine lv_tableIn (tgt := 63) (off := 40) hx hb dX6_person_23 (by rw [q1]; decide) (by rw [q1]; decide) (by rw [q1]; rfl) (by decide) ?_
        refine lv_aload_n hx hb dX6_person_63 rfl (lv_at hl 0 rfl) ?_
        refine me_getr (ci := 6) (C := RX6) (T := TX6) (N := 22) hx hb hts in_X6_person_X6 hown hK hP hT.1 rfl 4 (by decide) (hts _ kX6_person_f19) rfl dX6_person_64 ?_
        refine lv_iload_n hx hb dX6_person_67 rfl (lv_at hl 1 rfl) ?_
        obtain ⟨hi, h⟩ := s_ald_inv h
        refine me_ald hx hb hK hP hT.2.2.2.2.1 hi dX6_person_68 (fun v68 ev => ?_)
        replace h := h v68 ev
        exact me_iret hx hb hr hlk hP hS h dX6_person_69
      rw [if_neg q1] at h
      by_cases q2 : x2 = (2 : Int32)
      · rw [if_pos q2] at h
        refine lv_tableIn (tgt := 70) (off := 47) hx hb dX6_person_23 (by rw [q2]; decide) (by rw [q2]; decide) (by rw [q2]; rfl) (by decide) ?_
        refine lv_aload_n hx hb dX6_person_70 rfl (lv_at hl 0 rfl) ?_
        refine lv_iconst (v := (0 : Int32)) hx hb dX6_person_71 (by decide) ?_
        refine lv_iload_n hx hb dX6_person_72 rfl (lv_at hl 1 rfl) ?_
        obtain ⟨v73, M73, h1, h⟩ := s_call_inv h
        refine me_callVi (As := [.int (0 : Int32), .int x1]) (rest := []) ⟨hx, hb, hml, hown, hts⟩ (c_X6_isAlive hT h1) (cwV 2 hts gX6_person_X6_isAlive rfl rfl rfl hd_X6_isAlive ⟨(Nat.le_of_ble_eq_true rfl), (Nat.le_of_ble_eq_true rfl)⟩) hK hI hP hS hT.1 rfl rfl hl.1 rfl (Nat.le_of_ble_eq_true rfl) dX6_person_73 ⟨Nat.zero_le _, Nat.zero_le _⟩ (fun H locs hP hS => ?_)
        refine lv_if_eq (tgt := 83) hx hb dX6_person_76 (by decide) (fun q => ?_) (fun q => ?_)
        · rw [if_pos q] at h
          refine lv_iconst (v := (0 : Int32)) hx hb dX6_person_83 (by decide) ?_
          exact me_iret hx hb hr hlk hP hS h dX6_person_84
        · rw [if_neg q] at h
          refine lv_iconst (v := (1 : Int32)) hx hb dX6_person_79 (by decide) ?_
          refine lv_goto (tgt := 84) hx hb dX6_person_80 (by decide) ?_
          exact me_iret hx hb hr hlk hP hS h dX6_person_84
      rw [if_neg q2] at h
      by_cases q3 : x2 = (3 : Int32)
      · rw [if_pos q3] at h
        refine lv_tableIn (tgt := 85) (off := 62) hx hb dX6_person_23 (by rw [q3]; decide) (by rw [q3]; decide) (by rw [q3]; rfl) (by decide) ?_
        refine lv_aload_n hx hb dX6_person_85 rfl (lv_at hl 0 rfl) ?_
        refine lv_iconst (v := (0 : Int32)) hx hb dX6_person_86 (by decide) ?_
        refine lv_iload_n hx hb dX6_person_87 rfl (lv_at hl 1 rfl) ?_
        obtain ⟨v88, M88, h1, h⟩ := s_call_inv h
        refine me_callVi (As := [.int (0 : Int32), .int x1]) (rest := []) ⟨hx, hb, hml, hown, hts⟩ (c_X6_debtsOf hT h1) (cwV 2 hts gX6_person_X6_debtsOf rfl rfl rfl hd_X6_debtsOf ⟨(Nat.le_of_ble_eq_true rfl), (Nat.le_of_ble_eq_true rfl)⟩) hK hI hP hS hT.1 rfl rfl hl.1 rfl (Nat.le_of_ble_eq_true rfl) dX6_person_88 ⟨Nat.zero_le _, Nat.zero_le _⟩ (fun H locs hP hS => ?_)
        exact me_iret hx hb hr hlk hP hS h dX6_person_91
      rw [if_neg q3] at h
      by_cases q4 : x2 = (4 : Int32)
      · rw [if_pos q4] at h
        refine lv_tableIn (tgt := 92) (off := 69) hx hb dX6_person_23 (by rw [q4]; decide) (by rw [q4]; decide) (by rw [q4]; rfl) (by decide) ?_
        refine lv_aload_n hx hb dX6_person_92 rfl (lv_at hl 0 rfl) ?_
        refine lv_iconst (v := (0 : Int32)) hx hb dX6_person_93 (by decide) ?_
        refine lv_iload_n hx hb dX6_person_94 rfl (lv_at hl 1 rfl) ?_
        obtain ⟨v95, M95, h1, h⟩ := s_call_inv h
        refine me_callVi (As := [.int (0 : Int32), .int x1]) (rest := []) ⟨hx, hb, hml, hown, hts⟩ (c_X6_owedTo hT h1) (cwV 2 hts gX6_person_X6_owedTo rfl rfl rfl hd_X6_owedTo ⟨(Nat.le_of_ble_eq_true rfl), (Nat.le_of_ble_eq_true rfl)⟩) hK hI hP hS hT.1 rfl rfl hl.1 rfl (Nat.le_of_ble_eq_true rfl) dX6_person_95 ⟨Nat.zero_le _, Nat.zero_le _⟩ (fun H locs hP hS => ?_)
        exact me_iret hx hb hr hlk hP hS h dX6_person_98
      rw [if_neg q4] at h
      have e0 := lv_neT (a := 0) q0 (by decide)
      have e1 := lv_neT (a := 1) q1 (by decide)
      have e2 := lv_neT (a := 2) q2 (by decide)
      have e3 := lv_neT (a := 3) q3 (by decide)
      have e4 := lv_neT (a := 4) q4 (by decide)
      refine lv_tableOut (tgt := 99) hx hb dX6_person_23 (by omega) (by decide) ?_
      refine lv_aload_n hx hb dX6_person_99 rfl (lv_at hl 0 rfl) ?_
      refine lv_iconst (v := (0 : Int32)) hx hb dX6_person_100 (by decide) ?_
      refine lv_iload_n hx hb dX6_person_101 rfl (lv_at hl 1 rfl) ?_
      obtain ⟨v102, M102, h1, h⟩ := s_call_inv h
      refine me_callVi (As := [.int (0 : Int32), .int x1]) (rest := []) ⟨hx, hb, hml, hown, hts⟩ (c_X6_takes hT h1) (cwV 2 hts gX6_person_X6_takes rfl rfl rfl hd_X6_takes ⟨(Nat.le_of_ble_eq_true rfl), (Nat.le_of_ble_eq_true rfl)⟩) hK hI hP hS hT.1 rfl rfl hl.1 rfl (Nat.le_of_ble_eq_true rfl) dX6_person_102 ⟨Nat.zero_le _, Nat.zero_le _⟩ (fun H locs hP hS => ?_)
      refine lv_if_eq (tgt := 112) hx hb dX6_person_105 (by decide) (fun q => ?_) (fun q => ?_)
      · rw [if_pos q] at h
        refine lv_iconst (v := (0 : Int32)) hx hb dX6_person_112 (by decide) ?_
        exact me_iret hx hb hr hlk hP hS h dX6_person_113
      · rw [if_neg q] at h
        refine lv_iconst (v := (1 : Int32)) hx hb dX6_person_108 (by decide) ?_
        refine lv_goto (tgt := 113) hx hb dX6_person_109 (by decide) ?_
        exact me_iret hx hb hr hlk hP hS h dX6_person_113
    · rw [if_neg (not_not_intro q)] at h
      refine lv_iconst (v := (-1 : Int32)) hx hb dX6_person_20 (by decide) ?_
      exact me_iret hx hb hr hlk hP hS h dX6_person_21
theorem c_X6_person {l : Launch} {D : va_G} {cI : ClassId} {ad : Nat → Nat} {L : List CDs} {t : Nat} (hT : is_X6 L t) {x1 : Int32} {x2 : Int32} {M M' : Mem} {r : Int32} (h : X6_person t x1 x2 M = some (r, M')) : me_Met l yX6_person wsX6_person rmX6_person D cI ad L [.ref (ad t), .int x1, .int x2] (some (.int r)) M M' :=
  me_ofW (by decide) rfl (Nat.le_of_ble_eq_true rfl) (fun p e s m below meth c C0 => w_X6_person C0 t hT x1 x2 M h)
abbrev rmX6_owes : Room := { frames := 3, cells := 0, slots := 0, locals := 68 }
theorem hd_X6_owes : yX6_owes.cls = RX6 ∧ yX6_owes.cls ≠ "java/lang/invoke/MethodHandle" ∧ yX6_owes.cls ≠ "java/lang/invoke/VarHandle" ∧ (parseMethodDescriptor yX6_owes.desc).map (fun d => d.parameters.length) = some 2 := by decide +kernel
set_option maxRecDepth 100000 in
set_option maxHeartbeats 4000000 in
theorem w_X6_owes {p : Program} {l : Launch} {e : Env} {s : State} {m : MethodId} {args : Array Value} {below : List Frame} {meth : Method} {c : Code} {D : va_G} {cI : ClassId} {ad : Nat → Nat} {L : List CDs} {r : Int32} {M' : Mem} (C0 : me_X p s m args meth c cX6_owes 3 (some .int) wsX6_owes RX6 D cI ad L) (t : Nat) (hT : is_X6 L t) (x1 : Int32) (x2 : Int32) : ∀  (M : Mem), X6_owes t x1 x2 M = some (r, M') → me_W p l e rmX6_owes s m args below meth c D cI ad L (some (.int r)) M' 3 0 [(0, .ref (ad t)), (1, .int x1), (2, .int x2)] [] M := by
  obtain ⟨hx, hb, hr, hml, hown, hts, hlk, hK, hI⟩ := id C0
  intro M h
  unfold X6_owes at h
  intro H locs ls hP hS hl
  refine lv_aload_n hx hb dX6_owes_0 rfl (lv_at hl 0 rfl) ?_
  refine lv_iload_n hx hb dX6_owes_1 rfl (lv_at hl 1 rfl) ?_
  refine lv_iload_n hx hb dX6_owes_2 rfl (lv_at hl 2 rfl) ?_
  obtain ⟨v3, M3, h1, h⟩ := s_call_inv h
  refine me_callVi (As := [.int x1, .int x2]) (rest := []) ⟨hx, hb, hml, hown, hts⟩ (c_X6_areTwo hT h1) (cwV 2 hts gX6_owes_X6_areTwo rfl rfl rfl hd_X6_areTwo ⟨(Nat.le_of_ble_eq_true rfl), (Nat.le_of_ble_eq_true rfl)⟩) hK hI hP hS hT.1 rfl rfl hl.1 rfl (Nat.le_of_ble_eq_true rfl) dX6_owes_3 ⟨Nat.zero_le _, Nat.zero_le _⟩ (fun H locs hP hS => ?_)
  refine lv_if_eq (tgt := 19) hx hb dX6_owes_6 (by decide) (fun q => ?_) (fun q => ?_)
  · rw [if_pos q] at h
    refine lv_iconst (v := (-1 : Int32)) hx hb dX6_owes_19 (by decide) ?_
    exact me_iret hx hb hr hlk hP hS h dX6_owes_20
  · rw [if_neg q] at h
    refine lv_aload_n hx hb dX6_owes_9 rfl (lv_at hl 0 rfl) ?_
    refine lv_iconst (v := (0 : Int32)) hx hb dX6_owes_10 (by decide) ?_
    refine lv_iload_n hx hb dX6_owes_11 rfl (lv_at hl 1 rfl) ?_
    refine lv_iload_n hx hb dX6_owes_12 rfl (lv_at hl 2 rfl) ?_
    obtain ⟨v13, M13, h1, h⟩ := s_call_inv h
    refine me_callVi (As := [.int (0 : Int32), .int x1, .int x2]) (rest := []) ⟨hx, hb, hml, hown, hts⟩ (c_X6_debt hT h1) (cwV 3 hts gX6_owes_X6_debt rfl rfl rfl hd_X6_debt ⟨(Nat.le_of_ble_eq_true rfl), (Nat.le_of_ble_eq_true rfl)⟩) hK hI hP hS hT.1 rfl rfl hl.1 rfl (Nat.le_of_ble_eq_true rfl) dX6_owes_13 ⟨Nat.zero_le _, Nat.zero_le _⟩ (fun H locs hP hS => ?_)
    refine lv_goto (tgt := 20) hx hb dX6_owes_16 (by decide) ?_
    exact me_iret hx hb hr hlk hP hS h dX6_owes_20
theorem c_X6_owes {l : Launch} {D : va_G} {cI : ClassId} {ad : Nat → Nat} {L : List CDs} {t : Nat} (hT : is_X6 L t) {x1 : Int32} {x2 : Int32} {M M' : Mem} {r : Int32} (h : X6_owes t x1 x2 M = some (r, M')) : me_Met l yX6_owes wsX6_owes rmX6_owes D cI ad L [.ref (ad t), .int x1, .int x2] (some (.int r)) M M' :=
  me_ofW (by decide) rfl (Nat.le_of_ble_eq_true rfl) (fun p e s m below meth c C0 => w_X6_owes C0 t hT x1 x2 M h)
abbrev rmX6_speak : Room := { frames := 3, cells := 0, slots := 0, locals := 68 }
theorem hd_X6_speak : yX6_speak.cls = RX6 ∧ yX6_speak.cls ≠ "java/lang/invoke/MethodHandle" ∧ yX6_speak.cls ≠ "java/lang/invoke/VarHandle" ∧ (parseMethodDescriptor yX6_speak.desc).map (fun d => d.parameters.length) = some 2 := by decide +kernel
set_option maxRecDepth 100000 in
set_option maxHeartbeats 4000000 in
theorem w_X6_speak {p : Program} {l : Launch} {e : Env} {s : State} {m : MethodId} {args : Array Value} {below : List Frame} {meth : Method} {c : Code} {D : va_G} {cI : ClassId} {ad : Nat → Nat} {L : List CDs} {r : Int32} {M' : Mem} (C0 : me_X p s m args meth c cX6_speak 3 (some .int) wsX6_speak RX6 D cI ad L) (t : Nat) (hT : is_X6 L t) (x1 : Int32) (x2 : Int32) : ∀  (M : Mem), X6_speak t x1 x2 M = some (r, M') → me_W p l e rmX6_speak s m args below meth c D cI ad L (some (.int r)) M' 3 0 [(0, .ref (ad t)), (1, .int x1), (2, .int x2)] [] M := by
  obtain ⟨hx, hb, hr, hml, hown, hts, hlk, hK, hI⟩ := id C0
  intro M h
  unfold X6_speak at h
  intro H locs ls hP hS hl
  refine lv_aload_n hx hb dX6_speak_0 rfl (lv_at hl 0 rfl) ?_
  refine lv_iload_n hx hb dX6_speak_1 rfl (lv_at hl 1 rfl) ?_
  refine lv_iload_n hx hb dX6_speak_2 rfl (lv_at hl 2 rfl) ?_
  obtain ⟨v3, M3, h1, h⟩ := s_call_inv h
  refine me_callVi (As := [.int x1, .int x2]) (rest := []) ⟨hx, hb, hml, hown, hts⟩ (c_X6_areTwo hT h1) (cwV 2 hts gX6_speak_X6_areTwo rfl rfl rfl hd_X6_areTwo ⟨(Nat.le_of_ble_eq_true rfl), (Nat.le_of_ble_eq_true rfl)⟩) hK hI hP hS hT.1 rfl rfl hl.1 rfl (Nat.le_of_ble_eq_true rfl) dX6_speak_3 ⟨Nat.zero_le _, Nat.zero_le _⟩ (fun H locs hP hS => ?_)
  refine lv_if_ne (tgt := 13) hx hb dX6_speak_6 (by decide) (fun q => ?_) (fun q => ?_)
  · rw [if_pos q] at h
    refine lv_aload_n hx hb dX6_speak_13 rfl (lv_at hl 0 rfl) ?_
    refine lv_iconst (v := (0 : Int32)) hx hb dX6_speak_14 (by decide) ?_
    refine lv_iload_n hx hb dX6_speak_15 rfl (lv_at hl 1 rfl) ?_
    refine lv_iload_n hx hb dX6_speak_16 rfl (lv_at hl 2 rfl) ?_
    obtain ⟨v17, M17, h1, h⟩ := s_call_inv h
    refine me_callVi (As := [.int (0 : Int32), .int x1, .int x2]) (rest := []) ⟨hx, hb, hml, hown, hts⟩ (c_X6_maySpeak hT h1) (cwV 3 hts gX6_speak_X6_maySpeak rfl rfl rfl hd_X6_maySpeak ⟨(Nat.le_of_ble_eq_true rfl), (Nat.le_of_ble_eq_true rfl)⟩) hK hI hP hS hT.1 rfl rfl hl.1 rfl (Nat.le_of_ble_eq_true rfl) dX6_speak_17 ⟨Nat.zero_le _, Nat.zero_le _⟩ (fun H locs hP hS => ?_)
    refine lv_if_eq (tgt := 27) hx hb dX6_speak_20 (by decide) (fun q => ?_) (fun q => ?_)
    · rw [if_pos q] at h
      refine lv_iconst (v := (0 : Int32)) hx hb dX6_speak_27 (by decide) ?_
      exact me_iret hx hb hr hlk hP hS h dX6_speak_28
    · rw [if_neg q] at h
      refine lv_iconst (v := (1 : Int32)) hx hb dX6_speak_23 (by decide) ?_
      refine lv_goto (tgt := 28) hx hb dX6_speak_24 (by decide) ?_
      exact me_iret hx hb hr hlk hP hS h dX6_speak_28
  · rw [if_neg (not_not_intro q)] at h
    refine lv_iconst (v := (-1 : Int32)) hx hb dX6_speak_9 (by decide) ?_
    refine lv_goto (tgt := 28) hx hb dX6_speak_10 (by decide) ?_
    exact me_iret hx hb hr hlk hP hS h dX6_speak_28
theorem c_X6_speak {l : Launch} {D : va_G} {cI : ClassId} {ad : Nat → Nat} {L : List CDs} {t : Nat} (hT : is_X6 L t) {x1 : Int32} {x2 : Int32} {M M' : Mem} {r : Int32} (h : X6_speak t x1 x2 M = some (r, M')) : me_Met l yX6_speak wsX6_speak rmX6_speak D cI ad L [.ref (ad t), .int x1, .int x2] (some (.int r)) M M' :=
  me_ofW (by decide) rfl (Nat.le_of_ble_eq_true rfl) (fun p e s m below meth c C0 => w_X6_speak C0 t hT x1 x2 M h)
abbrev rmX6_act : Room := { frames := 5, cells := 0, slots := 0, locals := 116 }
theorem kX6_act_f28 : (Cond.fieldLink RX6 28 "LadderOfBowsModel" "acts" "[I") ∈ wsX6_act := List.mem_of_getElem? (i := 1) rfl
theorem kX6_act_f31 : (Cond.fieldLink RX6 31 "LadderOfBowsModel" "actKind" "[I") ∈ wsX6_act := List.mem_of_getElem? (i := 2) rfl
theorem kX6_act_f34 : (Cond.fieldLink RX6 34 "LadderOfBowsModel" "actOne" "[I") ∈ wsX6_act := List.mem_of_getElem? (i := 3) rfl
theorem kX6_act_f37 : (Cond.fieldLink RX6 37 "LadderOfBowsModel" "actTwo" "[I") ∈ wsX6_act := List.mem_of_getElem? (i := 4) rfl
theorem in_X6_act_X6 : ∀ w ∈ wsX60, w ∈ wsX6_act := by decide +kernel
theorem hd_X6_act : yX6_act.cls = RX6 ∧ yX6_act.cls ≠ "java/lang/invoke/MethodHandle" ∧ yX6_act.cls ≠ "java/lang/invoke/VarHandle" ∧ (parseMethodDescriptor yX6_act.desc).map (fun d => d.parameters.length) = some 3 := by decide +kernel
set_option maxRecDepth 100000 in
set_option maxHeartbeats 4000000 in
theorem w_X6_act {p : Program} {l : Launch} {e : Env} {s : State} {m : MethodId} {args : Array Value} {below : List Frame} {meth : Method} {c : Code} {D : va_G} {cI : ClassId} {ad : Nat → Nat} {L : List CDs} {r : Int32} {M' : Mem} (C0 : me_X p s m args meth c cX6_act 4 (some .int) wsX6_act RX6 D cI ad L) (t : Nat) (hT : is_X6 L t) (x1 : Int32) (x2 : Int32) (x3 : Int32) : ∀  (M : Mem), X6_act t x1 x2 x3 M = some (r, M') → me_W p l e rmX6_act s m args below meth c D cI ad L (some (.int r)) M' 4 0 [(0, .ref (ad t)), (1, .int x1), (2, .int x2), (3, .int x3)] [] M := by
  obtain ⟨hx, hb, hr, hml, hown, hts, hlk, hK, hI⟩ := id C0
  intro M h
  unfold X6_act at h
  intro H locs ls hP hS hl
  refine lv_aload_n hx hb dX6_act_0 rfl (lv_at hl 0 rfl) ?_
  refine lv_iconst (v := (0 : Int32)) hx hb dX6_act_1 (by decide) ?_
  refine lv_iload_n hx hb dX6_act_2 rfl (lv_at hl 1 rfl) ?_
  refine lv_iload_n hx hb dX6_act_3 rfl (lv_at hl 2 rfl) ?_
  refine lv_iload_n hx hb dX6_act_4 rfl (lv_at hl 3 rfl) ?_
  obtain ⟨v5, M5, h1, h⟩ := s_call_inv h
  refine me_callVi (As := [.int (0 : Int32), .int x1, .int x2, .int x3]) (rest := []) ⟨hx, hb, hml, hown, hts⟩ (c_X6_canDo hT h1) (cwV 4 hts gX6_act_X6_canDo rfl rfl rfl hd_X6_canDo ⟨(Nat.le_of_ble_eq_true rfl), (Nat.le_of_ble_eq_true rfl)⟩) hK hI hP hS hT.1 rfl rfl hl.1 rfl (Nat.le_of_ble_eq_true rfl) dX6_act_5 ⟨Nat.zero_le _, Nat.zero_le _⟩ (fun H locs hP hS => ?_)
  refine lv_if_ne (tgt := 14) hx hb dX6_act_8 (by decide) (fun q => ?_) (fun q => ?_)
  · rw [if_pos q] at h
    refine lv_aload_n hx hb dX6_act_14 rfl (lv_at hl 0 rfl) ?_
    refine me_getr (ci := 6) (C := RX6) (T := TX6) (N := 22) hx hb hts in_X6_act_X6 hown hK hP hT.1 rfl 7 (by decide) (hts _ kX6_act_f28) rfl dX6_act_15 ?_
    refine lv_iconst (v := (0 : Int32)) hx hb dX6_act_18 (by decide) ?_
    obtain ⟨hi, h⟩ := s_ald_inv h
    refine me_ald hx hb hK hP hT.2.2.2.2.2.2.2.1 hi dX6_act_19 (fun v19 ev => ?_)
    replace h := h v19 ev
    refine lv_bipush (v := (40 : Int32)) hx hb dX6_act_20 (by decide) ?_
    refine lv_icmp_ne (tgt := 28) hx hb dX6_act_22 (by decide) (fun q => ?_) (fun q => ?_)
    · rw [if_pos q] at h
      refine lv_aload_n hx hb dX6_act_28 rfl (lv_at hl 0 rfl) ?_
      refine me_getr (ci := 6) (C := RX6) (T := TX6) (N := 22) hx hb hts in_X6_act_X6 hown hK hP hT.1 rfl 8 (by decide) (hts _ kX6_act_f31) rfl dX6_act_29 ?_
      refine lv_aload_n hx hb dX6_act_32 rfl (lv_at hl 0 rfl) ?_
      refine me_getr (ci := 6) (C := RX6) (T := TX6) (N := 22) hx hb hts in_X6_act_X6 hown hK hP hT.1 rfl 7 (by decide) (hts _ kX6_act_f28) rfl dX6_act_33 ?_
      refine lv_iconst (v := (0 : Int32)) hx hb dX6_act_36 (by decide) ?_
      obtain ⟨hi, h⟩ := s_ald_inv h
      refine me_ald hx hb hK hP hT.2.2.2.2.2.2.2.1 hi dX6_act_37 (fun v37 ev => ?_)
      replace h := h v37 ev
      refine lv_iload_n hx hb dX6_act_38 rfl (lv_at hl 1 rfl) ?_
      obtain ⟨hi, h⟩ := s_ast_inv h
      refine me_ast hx hb hK hI hP hS hT.2.2.2.2.2.2.2.2.1 hi dX6_act_39 (fun H locs M39 eM hP hS => ?_)
      replace h := h M39 eM
      refine lv_aload_n hx hb dX6_act_40 rfl (lv_at hl 0 rfl) ?_
      refine me_getr (ci := 6) (C := RX6) (T := TX6) (N := 22) hx hb hts in_X6_act_X6 hown hK hP hT.1 rfl 9 (by decide) (hts _ kX6_act_f34) rfl dX6_act_41 ?_
      refine lv_aload_n hx hb dX6_act_44 rfl (lv_at hl 0 rfl) ?_
      refine me_getr (ci := 6) (C := RX6) (T := TX6) (N := 22) hx hb hts in_X6_act_X6 hown hK hP hT.1 rfl 7 (by decide) (hts _ kX6_act_f28) rfl dX6_act_45 ?_
      refine lv_iconst (v := (0 : Int32)) hx hb dX6_act_48 (by decide) ?_
      obtain ⟨hi, h⟩ := s_ald_inv h
      refine me_ald hx hb hK hP hT.2.2.2.2.2.2.2.1 hi dX6_act_49 (fun v49 ev => ?_)
      replace h := h v49 ev
      refine lv_iload_n hx hb dX6_act_50 rfl (lv_at hl 2 rfl) ?_
      obtain ⟨hi, h⟩ := s_ast_inv h
      refine me_ast hx hb hK hI hP hS hT.2.2.2.2.2.2.2.2.2.1 hi dX6_act_51 (fun H locs M51 eM hP hS => ?_)
      replace h := h M51 eM
      refine lv_aload_n hx hb dX6_act_52 rfl (lv_at hl 0 rfl) ?_
      refine me_getr (ci := 6) (C := RX6) (T := TX6) (N := 22) hx hb hts in_X6_act_X6 hown hK hP hT.1 rfl 10 (by decide) (hts _ kX6_act_f37) rfl dX6_act_53 ?_
      refine lv_aload_n hx hb dX6_act_56 rfl (lv_at hl 0 rfl) ?_
      refine me_getr (ci := 6) (C := RX6) (T := TX6) (N := 22) hx hb hts in_X6_act_X6 hown hK hP hT.1 rfl 7 (by decide) (hts _ kX6_act_f28) rfl dX6_act_57 ?_
      refine lv_iconst (v := (0 : Int32)) hx hb dX6_act_60 (by decide) ?_
      obtain ⟨hi, h⟩ := s_ald_inv h
      refine me_ald hx hb hK hP hT.2.2.2.2.2.2.2.1 hi dX6_act_61 (fun v61 ev => ?_)
      replace h := h v61 ev
      refine lv_iload_n hx hb dX6_act_62 rfl (lv_at hl 3 rfl) ?_
      obtain ⟨hi, h⟩ := s_ast_inv h
      refine me_ast hx hb hK hI hP hS hT.2.2.2.2.2.2.2.2.2.2.1 hi dX6_act_63 (fun H locs M63 eM hP hS => ?_)
      replace h := h M63 eM
      refine lv_aload_n hx hb dX6_act_64 rfl (lv_at hl 0 rfl) ?_
      refine me_getr (ci := 6) (C := RX6) (T := TX6) (N := 22) hx hb hts in_X6_act_X6 hown hK hP hT.1 rfl 7 (by decide) (hts _ kX6_act_f28) rfl dX6_act_65 ?_
      refine lv_iconst (v := (0 : Int32)) hx hb dX6_act_68 (by decide) ?_
      refine lv_dup2_11 hx hb dX6_act_69 rfl rfl ?_
      obtain ⟨hi, h⟩ := s_ald_inv h
      refine me_ald hx hb hK hP hT.2.2.2.2.2.2.2.1 hi dX6_act_70 (fun v70 ev => ?_)
      replace h := h v70 ev
      refine lv_iconst (v := (1 : Int32)) hx hb dX6_act_71 (by decide) ?_
      refine lv_iadd hx hb dX6_act_72 ?_
      obtain ⟨hi, h⟩ := s_ast_inv h
      refine me_ast hx hb hK hI hP hS hT.2.2.2.2.2.2.2.1 hi dX6_act_73 (fun H locs M73 eM hP hS => ?_)
      replace h := h M73 eM
      refine lv_aload_n hx hb dX6_act_74 rfl (lv_at hl 0 rfl) ?_
      refine lv_iconst (v := (0 : Int32)) hx hb dX6_act_75 (by decide) ?_
      refine lv_iload_n hx hb dX6_act_76 rfl (lv_at hl 1 rfl) ?_
      refine lv_iload_n hx hb dX6_act_77 rfl (lv_at hl 2 rfl) ?_
      refine lv_iload_n hx hb dX6_act_78 rfl (lv_at hl 3 rfl) ?_
      obtain ⟨u79, M79, h1, h⟩ := s_call_inv h
      refine me_callVv (As := [.int (0 : Int32), .int x1, .int x2, .int x3]) (rest := []) ⟨hx, hb, hml, hown, hts⟩ (c_X6_doAct hT h1) (cwV 4 hts gX6_act_X6_doAct rfl rfl rfl hd_X6_doAct ⟨(Nat.le_of_ble_eq_true rfl), (Nat.le_of_ble_eq_true rfl)⟩) hK hI hP hS hT.1 rfl rfl hl.1 rfl (Nat.le_of_ble_eq_true rfl) dX6_act_79 ⟨Nat.zero_le _, Nat.zero_le _⟩ (fun H locs hP hS => ?_)
      refine lv_iconst (v := (0 : Int32)) hx hb dX6_act_82 (by decide) ?_
      exact me_iret hx hb hr hlk hP hS h dX6_act_83
    · rw [if_neg (not_not_intro q)] at h
      refine lv_bipush (v := (-3 : Int32)) hx hb dX6_act_25 (by decide) ?_
      exact me_iret hx hb hr hlk hP hS h dX6_act_27
  · rw [if_neg (not_not_intro q)] at h
    refine lv_bipush (v := (-2 : Int32)) hx hb dX6_act_11 (by decide) ?_
    exact me_iret hx hb hr hlk hP hS h dX6_act_13
theorem c_X6_act {l : Launch} {D : va_G} {cI : ClassId} {ad : Nat → Nat} {L : List CDs} {t : Nat} (hT : is_X6 L t) {x1 : Int32} {x2 : Int32} {x3 : Int32} {M M' : Mem} {r : Int32} (h : X6_act t x1 x2 x3 M = some (r, M')) : me_Met l yX6_act wsX6_act rmX6_act D cI ad L [.ref (ad t), .int x1, .int x2, .int x3] (some (.int r)) M M' :=
  me_ofW (by decide) rfl (Nat.le_of_ble_eq_true rfl) (fun p e s m below meth c C0 => w_X6_act C0 t hT x1 x2 x3 M h)
abbrev rmX6_actOfTwo : Room := { frames := 6, cells := 0, slots := 0, locals := 139 }
theorem hd_X6_actOfTwo : yX6_actOfTwo.cls = RX6 ∧ yX6_actOfTwo.cls ≠ "java/lang/invoke/MethodHandle" ∧ yX6_actOfTwo.cls ≠ "java/lang/invoke/VarHandle" ∧ (parseMethodDescriptor yX6_actOfTwo.desc).map (fun d => d.parameters.length) = some 3 := by decide +kernel
set_option maxRecDepth 100000 in
set_option maxHeartbeats 4000000 in
theorem w_X6_actOfTwo_20 {p : Program} {l : Launch} {e : Env} {s : State} {m : MethodId} {args : Array Value} {below : List Frame} {meth : Method} {c : Code} {D : va_G} {cI : ClassId} {ad : Nat → Nat} {L : List CDs} {r : Int32} {M' : Mem} (C0 : me_X p s m args meth c cX6_actOfTwo 5 (some .int) wsX6_actOfTwo RX6 D cI ad L) (t : Nat) (hT : is_X6 L t) (x1 : Int32) (x2 : Int32) (x3 : Int32) : ∀ (y0 : Int32) (M : Mem), X6_actOfTwo_20 t x1 x2 x3 y0 M = some (r, M') → me_W p l e rmX6_actOfTwo s m args below meth c D cI ad L (some (.int r)) M' 5 20 [(0, .ref (ad t)), (1, .int x1), (2, .int x2), (3, .int x3)] [.int y0] M := by
  obtain ⟨hx, hb, hr, hml, hown, hts, hlk, hK, hI⟩ := id C0
  intro y0 M h
  unfold X6_actOfTwo_20 at h
  intro H locs ls hP hS hl
  refine lv_istore (lv' := [(4, .int y0), (0, .ref (ad t)), (1, .int x1), (2, .int x2), (3, .int x3)]) hx hb dX6_actOfTwo_20 hl (by decide) rfl (fun ls hl => ?_)
  refine lv_iload hx hb dX6_actOfTwo_22 (lv_at hl 0 rfl) ?_
  refine lv_if_ge (tgt := 32) hx hb dX6_actOfTwo_24 (by decide) (fun q => ?_) (fun q => ?_)
  · rw [if_pos q] at h
    refine lv_iload_n hx hb dX6_actOfTwo_32 rfl (lv_at hl 2 rfl) ?_
    refine lv_iconst (v := (3 : Int32)) hx hb dX6_actOfTwo_33 (by decide) ?_
    refine lv_icmp_ne (tgt := 55) hx hb dX6_actOfTwo_34 (by decide) (fun q => ?_) (fun q => ?_)
    · rw [if_pos q] at h
      refine lv_aload_n hx hb dX6_actOfTwo_55 rfl (lv_at hl 1 rfl) ?_
      refine lv_iconst (v := (0 : Int32)) hx hb dX6_actOfTwo_56 (by decide) ?_
      refine lv_iload_n hx hb dX6_actOfTwo_57 rfl (lv_at hl 3 rfl) ?_
      refine lv_iload_n hx hb dX6_actOfTwo_58 rfl (lv_at hl 4 rfl) ?_
      obtain ⟨v59, M59, h1, h⟩ := s_call_inv h
      refine me_callVi (As := [.int (0 : Int32), .int x2, .int x3]) (rest := []) ⟨hx, hb, hml, hown, hts⟩ (c_X6_debt hT h1) (cwV 3 hts gX6_actOfTwo_X6_debt rfl rfl rfl hd_X6_debt ⟨(Nat.le_of_ble_eq_true rfl), (Nat.le_of_ble_eq_true rfl)⟩) hK hI hP hS hT.1 rfl rfl hl.1 rfl (Nat.le_of_ble_eq_true rfl) dX6_actOfTwo_59 ⟨Nat.zero_le _, Nat.zero_le _⟩ (fun H locs hP hS => ?_)
      exact me_iret hx hb hr hlk hP hS h dX6_actOfTwo_62
    · rw [if_neg (not_not_intro q)] at h
      refine lv_aload_n hx hb dX6_actOfTwo_37 rfl (lv_at hl 1 rfl) ?_
      refine lv_iconst (v := (0 : Int32)) hx hb dX6_actOfTwo_38 (by decide) ?_
      refine lv_iload_n hx hb dX6_actOfTwo_39 rfl (lv_at hl 3 rfl) ?_
      refine lv_iload_n hx hb dX6_actOfTwo_40 rfl (lv_at hl 4 rfl) ?_
      obtain ⟨v41, M41, h1, h⟩ := s_call_inv h
      refine me_callVi (As := [.int (0 : Int32), .int x2, .int x3]) (rest := []) ⟨hx, hb, hml, hown, hts⟩ (c_X6_debt hT h1) (cwV 3 hts gX6_actOfTwo_X6_debt rfl rfl rfl hd_X6_debt ⟨(Nat.le_of_ble_eq_true rfl), (Nat.le_of_ble_eq_true rfl)⟩) hK hI hP hS hT.1 rfl rfl hl.1 rfl (Nat.le_of_ble_eq_true rfl) dX6_actOfTwo_41 ⟨Nat.zero_le _, Nat.zero_le _⟩ (fun H locs hP hS => ?_)
      refine lv_aload_n hx hb dX6_actOfTwo_44 rfl (lv_at hl 1 rfl) ?_
      refine lv_iconst (v := (0 : Int32)) hx hb dX6_actOfTwo_45 (by decide) ?_
      refine lv_iload_n hx hb dX6_actOfTwo_46 rfl (lv_at hl 4 rfl) ?_
      refine lv_iload_n hx hb dX6_actOfTwo_47 rfl (lv_at hl 3 rfl) ?_
      obtain ⟨v48, M48, h1, h⟩ := s_call_inv h
      refine me_callVi (As := [.int (0 : Int32), .int x3, .int x2]) (rest := [.int v41]) ⟨hx, hb, hml, hown, hts⟩ (c_X6_debt hT h1) (cwV 3 hts gX6_actOfTwo_X6_debt rfl rfl rfl hd_X6_debt ⟨(Nat.le_of_ble_eq_true rfl), (Nat.le_of_ble_eq_true rfl)⟩) hK hI hP hS hT.1 rfl rfl hl.1 rfl (Nat.le_of_ble_eq_true rfl) dX6_actOfTwo_48 ⟨Nat.zero_le _, Nat.zero_le _⟩ (fun H locs hP hS => ?_)
      refine lv_iadd hx hb dX6_actOfTwo_51 ?_
      refine lv_goto (tgt := 62) hx hb dX6_actOfTwo_52 (by decide) ?_
      exact me_iret hx hb hr hlk hP hS h dX6_actOfTwo_62
  · rw [if_neg q] at h
    refine lv_iload hx hb dX6_actOfTwo_27 (lv_at hl 0 rfl) ?_
    refine lv_goto (tgt := 62) hx hb dX6_actOfTwo_29 (by decide) ?_
    exact me_iret hx hb hr hlk hP hS h dX6_actOfTwo_62
set_option maxRecDepth 100000 in
set_option maxHeartbeats 4000000 in
theorem w_X6_actOfTwo {p : Program} {l : Launch} {e : Env} {s : State} {m : MethodId} {args : Array Value} {below : List Frame} {meth : Method} {c : Code} {D : va_G} {cI : ClassId} {ad : Nat → Nat} {L : List CDs} {r : Int32} {M' : Mem} (C0 : me_X p s m args meth c cX6_actOfTwo 5 (some .int) wsX6_actOfTwo RX6 D cI ad L) (t : Nat) (hT : is_X6 L t) (x1 : Int32) (x2 : Int32) (x3 : Int32) : ∀  (M : Mem), X6_actOfTwo t x1 x2 x3 M = some (r, M') → me_W p l e rmX6_actOfTwo s m args below meth c D cI ad L (some (.int r)) M' 5 0 [(0, .ref (ad t)), (1, .int x1), (2, .int x2), (3, .int x3)] [] M := by
  obtain ⟨hx, hb, hr, hml, hown, hts, hlk, hK, hI⟩ := id C0
  intro M h
  unfold X6_actOfTwo at h
  intro H locs ls hP hS hl
  refine lv_aload_n hx hb dX6_actOfTwo_0 rfl (lv_at hl 0 rfl) ?_
  refine lv_iload_n hx hb dX6_actOfTwo_1 rfl (lv_at hl 2 rfl) ?_
  refine lv_iload_n hx hb dX6_actOfTwo_2 rfl (lv_at hl 3 rfl) ?_
  obtain ⟨v3, M3, h1, h⟩ := s_call_inv h
  refine me_callVi (As := [.int x2, .int x3]) (rest := []) ⟨hx, hb, hml, hown, hts⟩ (c_X6_areTwo hT h1) (cwV 2 hts gX6_actOfTwo_X6_areTwo rfl rfl rfl hd_X6_areTwo ⟨(Nat.le_of_ble_eq_true rfl), (Nat.le_of_ble_eq_true rfl)⟩) hK hI hP hS hT.1 rfl rfl hl.1 rfl (Nat.le_of_ble_eq_true rfl) dX6_actOfTwo_3 ⟨Nat.zero_le _, Nat.zero_le _⟩ (fun H locs hP hS => ?_)
  refine lv_if_eq (tgt := 19) hx hb dX6_actOfTwo_6 (by decide) (fun q => ?_) (fun q => ?_)
  · rw [if_pos q] at h
    refine lv_iconst (v := (-1 : Int32)) hx hb dX6_actOfTwo_19 (by decide) ?_
    exact w_X6_actOfTwo_20 C0 t hT x1 x2 x3 (-1 : Int32) M3 h H locs ls hP hS (lv_sub hl [0, 1, 2, 3] rfl)
  · rw [if_neg q] at h
    refine lv_aload_n hx hb dX6_actOfTwo_9 rfl (lv_at hl 0 rfl) ?_
    refine lv_iload_n hx hb dX6_actOfTwo_10 rfl (lv_at hl 1 rfl) ?_
    refine lv_iload_n hx hb dX6_actOfTwo_11 rfl (lv_at hl 2 rfl) ?_
    refine lv_iload_n hx hb dX6_actOfTwo_12 rfl (lv_at hl 3 rfl) ?_
    obtain ⟨v13, M13, h1, h⟩ := s_call_inv h
    refine me_callVi (As := [.int x1, .int x2, .int x3]) (rest := []) ⟨hx, hb, hml, hown, hts⟩ (c_X6_act hT h1) (cwV 3 hts gX6_actOfTwo_X6_act rfl rfl rfl hd_X6_act ⟨(Nat.le_of_ble_eq_true rfl), (Nat.le_of_ble_eq_true rfl)⟩) hK hI hP hS hT.1 rfl rfl hl.1 rfl (Nat.le_of_ble_eq_true rfl) dX6_actOfTwo_13 ⟨Nat.zero_le _, Nat.zero_le _⟩ (fun H locs hP hS => ?_)
    refine lv_goto (tgt := 20) hx hb dX6_actOfTwo_16 (by decide) ?_
    exact w_X6_actOfTwo_20 C0 t hT x1 x2 x3 v13 M13 h H locs ls hP hS (lv_sub hl [0, 1, 2, 3] rfl)
theorem c_X6_actOfTwo {l : Launch} {D : va_G} {cI : ClassId} {ad : Nat → Nat} {L : List CDs} {t : Nat} (hT : is_X6 L t) {x1 : Int32} {x2 : Int32} {x3 : Int32} {M M' : Mem} {r : Int32} (h : X6_actOfTwo t x1 x2 x3 M = some (r, M')) : me_Met l yX6_actOfTwo wsX6_actOfTwo rmX6_actOfTwo D cI ad L [.ref (ad t), .int x1, .int x2, .int x3] (some (.int r)) M M' :=
  me_ofW (by decide) rfl (Nat.le_of_ble_eq_true rfl) (fun p e s m below meth c C0 => w_X6_actOfTwo C0 t hT x1 x2 x3 M h)
abbrev rmX6_wrong : Room := { frames := 7, cells := 0, slots := 0, locals := 163 }
theorem hd_X6_wrong : yX6_wrong.cls = RX6 ∧ yX6_wrong.cls ≠ "java/lang/invoke/MethodHandle" ∧ yX6_wrong.cls ≠ "java/lang/invoke/VarHandle" ∧ (parseMethodDescriptor yX6_wrong.desc).map (fun d => d.parameters.length) = some 2 := by decide +kernel
set_option maxRecDepth 100000 in
set_option maxHeartbeats 4000000 in
theorem w_X6_wrong {p : Program} {l : Launch} {e : Env} {s : State} {m : MethodId} {args : Array Value} {below : List Frame} {meth : Method} {c : Code} {D : va_G} {cI : ClassId} {ad : Nat → Nat} {L : List CDs} {r : Int32} {M' : Mem} (C0 : me_X p s m args meth c cX6_wrong 3 (some .int) wsX6_wrong RX6 D cI ad L) (t : Nat) (hT : is_X6 L t) (x1 : Int32) (x2 : Int32) : ∀  (M : Mem), X6_wrong t x1 x2 M = some (r, M') → me_W p l e rmX6_wrong s m args below meth c D cI ad L (some (.int r)) M' 3 0 [(0, .ref (ad t)), (1, .int x1), (2, .int x2)] [] M := by
  obtain ⟨hx, hb, hr, hml, hown, hts, hlk, hK, hI⟩ := id C0
  intro M h
  unfold X6_wrong at h
  intro H locs ls hP hS hl
  refine lv_aload_n hx hb dX6_wrong_0 rfl (lv_at hl 0 rfl) ?_
  refine lv_iconst (v := (0 : Int32)) hx hb dX6_wrong_1 (by decide) ?_
  refine lv_iload_n hx hb dX6_wrong_2 rfl (lv_at hl 1 rfl) ?_
  refine lv_iload_n hx hb dX6_wrong_3 rfl (lv_at hl 2 rfl) ?_
  obtain ⟨v4, M4, h1, h⟩ := s_call_inv h
  refine me_callVi (As := [.int (0 : Int32), .int x1, .int x2]) (rest := []) ⟨hx, hb, hml, hown, hts⟩ (c_X6_actOfTwo hT h1) (cwV 3 hts gX6_wrong_X6_actOfTwo rfl rfl rfl hd_X6_actOfTwo ⟨(Nat.le_of_ble_eq_true rfl), (Nat.le_of_ble_eq_true rfl)⟩) hK hI hP hS hT.1 rfl rfl hl.1 rfl (Nat.le_of_ble_eq_true rfl) dX6_wrong_4 ⟨Nat.zero_le _, Nat.zero_le _⟩ (fun H locs hP hS => ?_)
  exact me_iret hx hb hr hlk hP hS h dX6_wrong_7
theorem c_X6_wrong {l : Launch} {D : va_G} {cI : ClassId} {ad : Nat → Nat} {L : List CDs} {t : Nat} (hT : is_X6 L t) {x1 : Int32} {x2 : Int32} {M M' : Mem} {r : Int32} (h : X6_wrong t x1 x2 M = some (r, M')) : me_Met l yX6_wrong wsX6_wrong rmX6_wrong D cI ad L [.ref (ad t), .int x1, .int x2] (some (.int r)) M M' :=
  me_ofW (by decide) rfl (Nat.le_of_ble_eq_true rfl) (fun p e s m below meth c C0 => w_X6_wrong C0 t hT x1 x2 M h)
abbrev rmX6_bow : Room := { frames := 7, cells := 0, slots := 0, locals := 163 }
theorem hd_X6_bow : yX6_bow.cls = RX6 ∧ yX6_bow.cls ≠ "java/lang/invoke/MethodHandle" ∧ yX6_bow.cls ≠ "java/lang/invoke/VarHandle" ∧ (parseMethodDescriptor yX6_bow.desc).map (fun d => d.parameters.length) = some 2 := by decide +kernel
set_option maxRecDepth 100000 in
set_option maxHeartbeats 4000000 in
theorem w_X6_bow {p : Program} {l : Launch} {e : Env} {s : State} {m : MethodId} {args : Array Value} {below : List Frame} {meth : Method} {c : Code} {D : va_G} {cI : ClassId} {ad : Nat → Nat} {L : List CDs} {r : Int32} {M' : Mem} (C0 : me_X p s m args meth c cX6_bow 3 (some .int) wsX6_bow RX6 D cI ad L) (t : Nat) (hT : is_X6 L t) (x1 : Int32) (x2 : Int32) : ∀  (M : Mem), X6_bow t x1 x2 M = some (r, M') → me_W p l e rmX6_bow s m args below meth c D cI ad L (some (.int r)) M' 3 0 [(0, .ref (ad t)), (1, .int x1), (2, .int x2)] [] M := by
  obtain ⟨hx, hb, hr, hml, hown, hts, hlk, hK, hI⟩ := id C0
  intro M h
  unfold X6_bow at h
  intro H locs ls hP hS hl
  refine lv_aload_n hx hb dX6_bow_0 rfl (lv_at hl 0 rfl) ?_
  refine lv_iconst (v := (1 : Int32)) hx hb dX6_bow_1 (by decide) ?_
  refine lv_iload_n hx hb dX6_bow_2 rfl (lv_at hl 1 rfl) ?_
  refine lv_iload_n hx hb dX6_bow_3 rfl (lv_at hl 2 rfl) ?_
  obtain ⟨v4, M4, h1, h⟩ := s_call_inv h
  refine me_callVi (As := [.int (1 : Int32), .int x1, .int x2]) (rest := []) ⟨hx, hb, hml, hown, hts⟩ (c_X6_actOfTwo hT h1) (cwV 3 hts gX6_bow_X6_actOfTwo rfl rfl rfl hd_X6_actOfTwo ⟨(Nat.le_of_ble_eq_true rfl), (Nat.le_of_ble_eq_true rfl)⟩) hK hI hP hS hT.1 rfl rfl hl.1 rfl (Nat.le_of_ble_eq_true rfl) dX6_bow_4 ⟨Nat.zero_le _, Nat.zero_le _⟩ (fun H locs hP hS => ?_)
  exact me_iret hx hb hr hlk hP hS h dX6_bow_7
theorem c_X6_bow {l : Launch} {D : va_G} {cI : ClassId} {ad : Nat → Nat} {L : List CDs} {t : Nat} (hT : is_X6 L t) {x1 : Int32} {x2 : Int32} {M M' : Mem} {r : Int32} (h : X6_bow t x1 x2 M = some (r, M')) : me_Met l yX6_bow wsX6_bow rmX6_bow D cI ad L [.ref (ad t), .int x1, .int x2] (some (.int r)) M M' :=
  me_ofW (by decide) rfl (Nat.le_of_ble_eq_true rfl) (fun p e s m below meth c C0 => w_X6_bow C0 t hT x1 x2 M h)
abbrev rmX6_refuse : Room := { frames := 7, cells := 0, slots := 0, locals := 163 }
theorem hd_X6_refuse : yX6_refuse.cls = RX6 ∧ yX6_refuse.cls ≠ "java/lang/invoke/MethodHandle" ∧ yX6_refuse.cls ≠ "java/lang/invoke/VarHandle" ∧ (parseMethodDescriptor yX6_refuse.desc).map (fun d => d.parameters.length) = some 2 := by decide +kernel
set_option maxRecDepth 100000 in
set_option maxHeartbeats 4000000 in
theorem w_X6_refuse {p : Program} {l : Launch} {e : Env} {s : State} {m : MethodId} {args : Array Value} {below : List Frame} {meth : Method} {c : Code} {D : va_G} {cI : ClassId} {ad : Nat → Nat} {L : List CDs} {r : Int32} {M' : Mem} (C0 : me_X p s m args meth c cX6_refuse 3 (some .int) wsX6_refuse RX6 D cI ad L) (t : Nat) (hT : is_X6 L t) (x1 : Int32) (x2 : Int32) : ∀  (M : Mem), X6_refuse t x1 x2 M = some (r, M') → me_W p l e rmX6_refuse s m args below meth c D cI ad L (some (.int r)) M' 3 0 [(0, .ref (ad t)), (1, .int x1), (2, .int x2)] [] M := by
  obtain ⟨hx, hb, hr, hml, hown, hts, hlk, hK, hI⟩ := id C0
  intro M h
  unfold X6_refuse at h
  intro H locs ls hP hS hl
  refine lv_aload_n hx hb dX6_refuse_0 rfl (lv_at hl 0 rfl) ?_
  refine lv_iconst (v := (2 : Int32)) hx hb dX6_refuse_1 (by decide) ?_
  refine lv_iload_n hx hb dX6_refuse_2 rfl (lv_at hl 1 rfl) ?_
  refine lv_iload_n hx hb dX6_refuse_3 rfl (lv_at hl 2 rfl) ?_
  obtain ⟨v4, M4, h1, h⟩ := s_call_inv h
  refine me_callVi (As := [.int (2 : Int32), .int x1, .int x2]) (rest := []) ⟨hx, hb, hml, hown, hts⟩ (c_X6_actOfTwo hT h1) (cwV 3 hts gX6_refuse_X6_actOfTwo rfl rfl rfl hd_X6_actOfTwo ⟨(Nat.le_of_ble_eq_true rfl), (Nat.le_of_ble_eq_true rfl)⟩) hK hI hP hS hT.1 rfl rfl hl.1 rfl (Nat.le_of_ble_eq_true rfl) dX6_refuse_4 ⟨Nat.zero_le _, Nat.zero_le _⟩ (fun H locs hP hS => ?_)
  exact me_iret hx hb hr hlk hP hS h dX6_refuse_7
theorem c_X6_refuse {l : Launch} {D : va_G} {cI : ClassId} {ad : Nat → Nat} {L : List CDs} {t : Nat} (hT : is_X6 L t) {x1 : Int32} {x2 : Int32} {M M' : Mem} {r : Int32} (h : X6_refuse t x1 x2 M = some (r, M')) : me_Met l yX6_refuse wsX6_refuse rmX6_refuse D cI ad L [.ref (ad t), .int x1, .int x2] (some (.int r)) M M' :=
  me_ofW (by decide) rfl (Nat.le_of_ble_eq_true rfl) (fun p e s m below meth c C0 => w_X6_refuse C0 t hT x1 x2 M h)
abbrev rmX6_atOnce : Room := { frames := 7, cells := 0, slots := 0, locals := 163 }
theorem hd_X6_atOnce : yX6_atOnce.cls = RX6 ∧ yX6_atOnce.cls ≠ "java/lang/invoke/MethodHandle" ∧ yX6_atOnce.cls ≠ "java/lang/invoke/VarHandle" ∧ (parseMethodDescriptor yX6_atOnce.desc).map (fun d => d.parameters.length) = some 2 := by decide +kernel
set_option maxRecDepth 100000 in
set_option maxHeartbeats 4000000 in
theorem w_X6_atOnce {p : Program} {l : Launch} {e : Env} {s : State} {m : MethodId} {args : Array Value} {below : List Frame} {meth : Method} {c : Code} {D : va_G} {cI : ClassId} {ad : Nat → Nat} {L : List CDs} {r : Int32} {M' : Mem} (C0 : me_X p s m args meth c cX6_atOnce 3 (some .int) wsX6_atOnce RX6 D cI ad L) (t : Nat) (hT : is_X6 L t) (x1 : Int32) (x2 : Int32) : ∀  (M : Mem), X6_atOnce t x1 x2 M = some (r, M') → me_W p l e rmX6_atOnce s m args below meth c D cI ad L (some (.int r)) M' 3 0 [(0, .ref (ad t)), (1, .int x1), (2, .int x2)] [] M := by
  obtain ⟨hx, hb, hr, hml, hown, hts, hlk, hK, hI⟩ := id C0
  intro M h
  unfold X6_atOnce at h
  intro H locs ls hP hS hl
  refine lv_aload_n hx hb dX6_atOnce_0 rfl (lv_at hl 0 rfl) ?_
  refine lv_iconst (v := (3 : Int32)) hx hb dX6_atOnce_1 (by decide) ?_
  refine lv_iload_n hx hb dX6_atOnce_2 rfl (lv_at hl 1 rfl) ?_
  refine lv_iload_n hx hb dX6_atOnce_3 rfl (lv_at hl 2 rfl) ?_
  obtain ⟨v4, M4, h1, h⟩ := s_call_inv h
  refine me_callVi (As := [.int (3 : Int32), .int x1, .int x2]) (rest := []) ⟨hx, hb, hml, hown, hts⟩ (c_X6_actOfTwo hT h1) (cwV 3 hts gX6_atOnce_X6_actOfTwo rfl rfl rfl hd_X6_actOfTwo ⟨(Nat.le_of_ble_eq_true rfl), (Nat.le_of_ble_eq_true rfl)⟩) hK hI hP hS hT.1 rfl rfl hl.1 rfl (Nat.le_of_ble_eq_true rfl) dX6_atOnce_4 ⟨Nat.zero_le _, Nat.zero_le _⟩ (fun H locs hP hS => ?_)
  exact me_iret hx hb hr hlk hP hS h dX6_atOnce_7
theorem c_X6_atOnce {l : Launch} {D : va_G} {cI : ClassId} {ad : Nat → Nat} {L : List CDs} {t : Nat} (hT : is_X6 L t) {x1 : Int32} {x2 : Int32} {M M' : Mem} {r : Int32} (h : X6_atOnce t x1 x2 M = some (r, M')) : me_Met l yX6_atOnce wsX6_atOnce rmX6_atOnce D cI ad L [.ref (ad t), .int x1, .int x2] (some (.int r)) M M' :=
  me_ofW (by decide) rfl (Nat.le_of_ble_eq_true rfl) (fun p e s m below meth c C0 => w_X6_atOnce C0 t hT x1 x2 M h)
abbrev rmX6_bits : Room := { frames := 0, cells := 0, slots := 0, locals := 0 }
theorem hd_X6_bits : yX6_bits.cls = RX6 ∧ yX6_bits.cls ≠ "java/lang/invoke/MethodHandle" ∧ yX6_bits.cls ≠ "java/lang/invoke/VarHandle" ∧ (parseMethodDescriptor yX6_bits.desc).map (fun d => d.parameters.length) = some 1 := by decide +kernel
set_option maxRecDepth 100000 in
set_option maxHeartbeats 4000000 in
theorem w_X6_bits_4 {p : Program} {l : Launch} {e : Env} {s : State} {m : MethodId} {args : Array Value} {below : List Frame} {meth : Method} {c : Code} {D : va_G} {cI : ClassId} {ad : Nat → Nat} {L : List CDs} {r : Int32} {M' : Mem} (C0 : me_X p s m args meth c cX6_bits 3 (some .int) wsX6_bits RX6 D cI ad L)  : ∀ (n : Nat) (x1 : Int32) (x2 : Int32) (M : Mem), X6_bits_4 n x1 x2 M = some (r, M') → me_W p l e rmX6_bits s m args below meth c D cI ad L (some (.int r)) M' 3 4 [(1, .int x1), (2, .int x2)] [] M := by
  obtain ⟨hx, hb, hr, hml, hown, hts, hlk, hK, hI⟩ := id C0
  intro n
  induction n with
  | zero =>
    intro x1 x2 M h
    rw [X6_bits_4] at h
    cases h
  | succ n ih =>
    intro x1 x2 M h
    rw [X6_bits_4] at h
    intro H locs ls hP hS hl
    refine lv_iload_n hx hb dX6_bits_4 rfl (lv_at hl 1 rfl) ?_
    refine lv_if_eq (tgt := 20) hx hb dX6_bits_5 (by decide) (fun q => ?_) (fun q => ?_)
    · rw [if_pos q] at h
      refine lv_iload_n hx hb dX6_bits_20 rfl (lv_at hl 0 rfl) ?_
      exact me_iret hx hb hr hlk hP hS h dX6_bits_21
    · rw [if_neg q] at h
      refine lv_iinc (k := 0) (v := (x1 + (1 : Int32))) (lv' := [(1, .int (x1 + (1 : Int32))), (2, .int x2)]) hx hb dX6_bits_8 hl rfl rfl (by decide) rfl (fun ls hl => ?_)
      refine lv_iload_n hx hb dX6_bits_11 rfl (lv_at hl 1 rfl) ?_
      refine lv_iload_n hx hb dX6_bits_12 rfl (lv_at hl 1 rfl) ?_
      refine lv_iconst (v := (1 : Int32)) hx hb dX6_bits_13 (by decide) ?_
      refine lv_isub hx hb dX6_bits_14 ?_
      refine lv_iand hx hb dX6_bits_15 ?_
      refine lv_topi (fun x2_16 ev => ?_)
      replace h := s_let_inv h x2_16 ev
      refine lv_istore_n (lv' := [(2, .int x2_16), (1, .int (x1 + (1 : Int32)))]) hx hb dX6_bits_16 rfl hl (by decide) rfl (fun ls hl => ?_)
      refine lv_goto (tgt := 4) hx hb dX6_bits_17 (by decide) ?_
      exact ih (x1 + (1 : Int32)) x2_16 M h H locs ls hP hS (lv_sub hl [1, 0] rfl)
set_option maxRecDepth 100000 in
set_option maxHeartbeats 4000000 in
theorem w_X6_bits {p : Program} {l : Launch} {e : Env} {s : State} {m : MethodId} {args : Array Value} {below : List Frame} {meth : Method} {c : Code} {D : va_G} {cI : ClassId} {ad : Nat → Nat} {L : List CDs} {r : Int32} {M' : Mem} (C0 : me_X p s m args meth c cX6_bits 3 (some .int) wsX6_bits RX6 D cI ad L)  (x0 : Int32) : ∀  (M : Mem), X6_bits x0 M = some (r, M') → me_W p l e rmX6_bits s m args below meth c D cI ad L (some (.int r)) M' 3 0 [(0, .int x0)] [] M := by
  obtain ⟨hx, hb, hr, hml, hown, hts, hlk, hK, hI⟩ := id C0
  intro M h
  unfold X6_bits at h
  intro H locs ls hP hS hl
  refine lv_iconst (v := (0 : Int32)) hx hb dX6_bits_0 (by decide) ?_
  refine lv_istore_n (lv' := [(1, .int (0 : Int32)), (0, .int x0)]) hx hb dX6_bits_1 rfl hl (by decide) rfl (fun ls hl => ?_)
  refine lv_iload_n hx hb dX6_bits_2 rfl (lv_at hl 1 rfl) ?_
  refine lv_istore_n (lv' := [(2, .int x0), (1, .int (0 : Int32)), (0, .int x0)]) hx hb dX6_bits_3 rfl hl (by decide) rfl (fun ls hl => ?_)
  exact w_X6_bits_4 C0 FU (0 : Int32) x0 M h H locs ls hP hS (lv_sub hl [1, 0] rfl)
theorem c_X6_bits {l : Launch} {D : va_G} {cI : ClassId} {ad : Nat → Nat} {L : List CDs}  {x0 : Int32} {M M' : Mem} {r : Int32} (h : X6_bits x0 M = some (r, M')) : me_Met l yX6_bits wsX6_bits rmX6_bits D cI ad L [.int x0] (some (.int r)) M M' :=
  me_ofW (by decide) rfl (Nat.le_of_ble_eq_true rfl) (fun p e s m below meth c C0 => w_X6_bits C0 x0 M h)
abbrev rmX6_die : Room := { frames := 6, cells := 0, slots := 0, locals := 139 }
theorem kX6_die_f49 : (Cond.fieldLink RX6 49 "LadderOfBowsModel" "alive" "[I") ∈ wsX6_die := List.mem_of_getElem? (i := 1) rfl
theorem in_X6_die_X6 : ∀ w ∈ wsX60, w ∈ wsX6_die := by decide +kernel
theorem hd_X6_die : yX6_die.cls = RX6 ∧ yX6_die.cls ≠ "java/lang/invoke/MethodHandle" ∧ yX6_die.cls ≠ "java/lang/invoke/VarHandle" ∧ (parseMethodDescriptor yX6_die.desc).map (fun d => d.parameters.length) = some 1 := by decide +kernel
set_option maxRecDepth 100000 in
set_option maxHeartbeats 4000000 in
theorem w_X6_die {p : Program} {l : Launch} {e : Env} {s : State} {m : MethodId} {args : Array Value} {below : List Frame} {meth : Method} {c : Code} {D : va_G} {cI : ClassId} {ad : Nat → Nat} {L : List CDs} {r : Int32} {M' : Mem} (C0 : me_X p s m args meth c cX6_die 3 (some .int) wsX6_die RX6 D cI ad L) (t : Nat) (hT : is_X6 L t) (x1 : Int32) : ∀  (M : Mem), X6_die t x1 M = some (r, M') → me_W p l e rmX6_die s m args below meth c D cI ad L (some (.int r)) M' 3 0 [(0, .ref (ad t)), (1, .int x1)] [] M := by
  obtain ⟨hx, hb, hr, hml, hown, hts, hlk, hK, hI⟩ := id C0
  intro M h
  unfold X6_die at h
  intro H locs ls hP hS hl
  refine lv_aload_n hx hb dX6_die_0 rfl (lv_at hl 0 rfl) ?_
  refine lv_iload_n hx hb dX6_die_1 rfl (lv_at hl 1 rfl) ?_
  obtain ⟨v2, M2, h1, h⟩ := s_call_inv h
  refine me_callVi (As := [.int x1]) (rest := []) ⟨hx, hb, hml, hown, hts⟩ (c_X6_isPerson hT h1) (cwV 1 hts gX6_die_X6_isPerson rfl rfl rfl hd_X6_isPerson ⟨(Nat.le_of_ble_eq_true rfl), (Nat.le_of_ble_eq_true rfl)⟩) hK hI hP hS hT.1 rfl rfl hl.1 rfl (Nat.le_of_ble_eq_true rfl) dX6_die_2 ⟨Nat.zero_le _, Nat.zero_le _⟩ (fun H locs hP hS => ?_)
  refine lv_if_eq (tgt := 18) hx hb dX6_die_5 (by decide) (fun q => ?_) (fun q => ?_)
  · rw [if_pos q] at h
    refine lv_iconst (v := (-1 : Int32)) hx hb dX6_die_18 (by decide) ?_
    refine lv_istore_n (lv' := [(2, .int (-1 : Int32)), (0, .ref (ad t)), (1, .int x1)]) hx hb dX6_die_19 rfl hl (by decide) rfl (fun ls hl => ?_)
    refine lv_iload_n hx hb dX6_die_20 rfl (lv_at hl 0 rfl) ?_
    refine lv_if_ge (tgt := 28) hx hb dX6_die_21 (by decide) (fun q => ?_) (fun q => ?_)
    · rw [if_pos q] at h
      refine lv_aload_n hx hb dX6_die_28 rfl (lv_at hl 1 rfl) ?_
      refine me_getr (ci := 6) (C := RX6) (T := TX6) (N := 22) hx hb hts in_X6_die_X6 hown hK hP hT.1 rfl 17 (by decide) (hts _ kX6_die_f49) rfl dX6_die_29 ?_
      refine lv_iconst (v := (0 : Int32)) hx hb dX6_die_32 (by decide) ?_
      obtain ⟨hi, h⟩ := s_ald_inv h
      refine me_ald hx hb hK hP hT.2.2.2.2.2.2.2.2.2.2.2.2.2.2.1 hi dX6_die_33 (fun v33 ev => ?_)
      replace h := h v33 ev
      obtain ⟨v34, M34, h1, h⟩ := s_call_inv h
      refine me_callSi (As := [.int v33]) (rest := []) ⟨hx, hb, hml, hown, hts⟩ (c_X6_bits h1) (va_cwS 1 hts gX6_die_X6_bits rfl rfl rfl hd_X6_bits.2 ⟨(Nat.le_of_ble_eq_true rfl), (Nat.le_of_ble_eq_true rfl)⟩) hK hI hP hS rfl hl.1 rfl (Nat.le_of_ble_eq_true rfl) dX6_die_34 ⟨Nat.zero_le _, Nat.zero_le _⟩ (fun H locs hP hS => ?_)
      exact me_iret hx hb hr hlk hP hS h dX6_die_37
    · rw [if_neg q] at h
      refine lv_iload_n hx hb dX6_die_24 rfl (lv_at hl 0 rfl) ?_
      refine lv_goto (tgt := 37) hx hb dX6_die_25 (by decide) ?_
      exact me_iret hx hb hr hlk hP hS h dX6_die_37
  · rw [if_neg q] at h
    refine lv_aload_n hx hb dX6_die_8 rfl (lv_at hl 0 rfl) ?_
    refine lv_iconst (v := (4 : Int32)) hx hb dX6_die_9 (by decide) ?_
    refine lv_iload_n hx hb dX6_die_10 rfl (lv_at hl 1 rfl) ?_
    refine lv_iconst (v := (0 : Int32)) hx hb dX6_die_11 (by decide) ?_
    obtain ⟨v12, M12, h1, h⟩ := s_call_inv h
    refine me_callVi (As := [.int (4 : Int32), .int x1, .int (0 : Int32)]) (rest := []) ⟨hx, hb, hml, hown, hts⟩ (c_X6_act hT h1) (cwV 3 hts gX6_die_X6_act rfl rfl rfl hd_X6_act ⟨(Nat.le_of_ble_eq_true rfl), (Nat.le_of_ble_eq_true rfl)⟩) hK hI hP hS hT.1 rfl rfl hl.1 rfl (Nat.le_of_ble_eq_true rfl) dX6_die_12 ⟨Nat.zero_le _, Nat.zero_le _⟩ (fun H locs hP hS => ?_)
    refine lv_goto (tgt := 19) hx hb dX6_die_15 (by decide) ?_
    refine lv_istore_n (lv' := [(2, .int v12), (0, .ref (ad t)), (1, .int x1)]) hx hb dX6_die_19 rfl hl (by decide) rfl (fun ls hl => ?_)
    refine lv_iload_n hx hb dX6_die_20 rfl (lv_at hl 0 rfl) ?_
    refine lv_if_ge (tgt := 28) hx hb dX6_die_21 (by decide) (fun q => ?_) (fun q => ?_)
    · rw [if_pos q] at h
      refine lv_aload_n hx hb dX6_die_28 rfl (lv_at hl 1 rfl) ?_
      refine me_getr (ci := 6) (C := RX6) (T := TX6) (N := 22) hx hb hts in_X6_die_X6 hown hK hP hT.1 rfl 17 (by decide) (hts _ kX6_die_f49) rfl dX6_die_29 ?_
      refine lv_iconst (v := (0 : Int32)) hx hb dX6_die_32 (by decide) ?_
      obtain ⟨hi, h⟩ := s_ald_inv h
      refine me_ald hx hb hK hP hT.2.2.2.2.2.2.2.2.2.2.2.2.2.2.1 hi dX6_die_33 (fun v33 ev => ?_)
      replace h := h v33 ev
      obtain ⟨v34, M34, h1, h⟩ := s_call_inv h
      refine me_callSi (As := [.int v33]) (rest := []) ⟨hx, hb, hml, hown, hts⟩ (c_X6_bits h1) (va_cwS 1 hts gX6_die_X6_bits rfl rfl rfl hd_X6_bits.2 ⟨(Nat.le_of_ble_eq_true rfl), (Nat.le_of_ble_eq_true rfl)⟩) hK hI hP hS rfl hl.1 rfl (Nat.le_of_ble_eq_true rfl) dX6_die_34 ⟨Nat.zero_le _, Nat.zero_le _⟩ (fun H locs hP hS => ?_)
      exact me_iret hx hb hr hlk hP hS h dX6_die_37
    · rw [if_neg q] at h
      refine lv_iload_n hx hb dX6_die_24 rfl (lv_at hl 0 rfl) ?_
      refine lv_goto (tgt := 37) hx hb dX6_die_25 (by decide) ?_
      exact me_iret hx hb hr hlk hP hS h dX6_die_37
theorem c_X6_die {l : Launch} {D : va_G} {cI : ClassId} {ad : Nat → Nat} {L : List CDs} {t : Nat} (hT : is_X6 L t) {x1 : Int32} {M M' : Mem} {r : Int32} (h : X6_die t x1 M = some (r, M')) : me_Met l yX6_die wsX6_die rmX6_die D cI ad L [.ref (ad t), .int x1] (some (.int r)) M M' :=
  me_ofW (by decide) rfl (Nat.le_of_ble_eq_true rfl) (fun p e s m below meth c C0 => w_X6_die C0 t hT x1 M h)
abbrev rmX6_days : Room := { frames := 6, cells := 0, slots := 0, locals := 139 }
theorem kX6_days_c195 : (Cond.constantLong RX6 195 (9)) ∈ wsX6_days := List.mem_of_getElem? (i := 1) rfl
theorem kX6_days_f52 : (Cond.fieldLink RX6 52 "LadderOfBowsModel" "day" "[I") ∈ wsX6_days := List.mem_of_getElem? (i := 2) rfl
theorem in_X6_days_X6 : ∀ w ∈ wsX60, w ∈ wsX6_days := by decide +kernel
theorem hd_X6_days : yX6_days.cls = RX6 ∧ yX6_days.cls ≠ "java/lang/invoke/MethodHandle" ∧ yX6_days.cls ≠ "java/lang/invoke/VarHandle" ∧ (parseMethodDescriptor yX6_days.desc).map (fun d => d.parameters.length) = some 1 := by decide +kernel
set_option maxRecDepth 100000 in
set_option maxHeartbeats 4000000 in
theorem w_X6_days {p : Program} {l : Launch} {e : Env} {s : State} {m : MethodId} {args : Array Value} {below : List Frame} {meth : Method} {c : Code} {D : va_G} {cI : ClassId} {ad : Nat → Nat} {L : List CDs} {r : Int32} {M' : Mem} (C0 : me_X p s m args meth c cX6_days 3 (some .int) wsX6_days RX6 D cI ad L) (t : Nat) (hT : is_X6 L t) (x1 : Int32) : ∀  (M : Mem), X6_days t x1 M = some (r, M') → me_W p l e rmX6_days s m args below meth c D cI ad L (some (.int r)) M' 3 0 [(0, .ref (ad t)), (1, .int x1)] [] M := by
  obtain ⟨hx, hb, hr, hml, hown, hts, hlk, hK, hI⟩ := id C0
  intro M h
  unfold X6_days at h
  intro H locs ls hP hS hl
  refine lv_iload_n hx hb dX6_days_0 rfl (lv_at hl 1 rfl) ?_
  refine lv_i2l (v := (x1).toInt64) hx hb dX6_days_1 rfl ?_
  refine lv_lconst (v := (1 : Int64)) hx hb dX6_days_2 (by decide) ?_
  refine lv_ldc2 (v := (9 : Int64)) hx hb hown (hts _ kX6_days_c195) dX6_days_3 ?_
  obtain ⟨v6, M6, h1, h⟩ := s_call_inv h
  refine me_callSi (As := [.long ((x1).toInt64), .long (1 : Int64), .long (9 : Int64)]) (rest := []) ⟨hx, hb, hml, hown, hts⟩ (c_X6_in h1) (va_cwS 3 hts gX6_days_X6_in rfl rfl rfl hd_X6_in.2 ⟨(Nat.le_of_ble_eq_true rfl), (Nat.le_of_ble_eq_true rfl)⟩) hK hI hP hS rfl hl.1 rfl (Nat.le_of_ble_eq_true rfl) dX6_days_6 ⟨Nat.zero_le _, Nat.zero_le _⟩ (fun H locs hP hS => ?_)
  refine lv_if_eq (tgt := 22) hx hb dX6_days_9 (by decide) (fun q => ?_) (fun q => ?_)
  · rw [if_pos q] at h
    refine lv_iconst (v := (-1 : Int32)) hx hb dX6_days_22 (by decide) ?_
    refine lv_istore_n (lv' := [(2, .int (-1 : Int32)), (0, .ref (ad t)), (1, .int x1)]) hx hb dX6_days_23 rfl hl (by decide) rfl (fun ls hl => ?_)
    refine lv_iload_n hx hb dX6_days_24 rfl (lv_at hl 0 rfl) ?_
    refine lv_if_ge (tgt := 32) hx hb dX6_days_25 (by decide) (fun q => ?_) (fun q => ?_)
    · rw [if_pos q] at h
      refine lv_aload_n hx hb dX6_days_32 rfl (lv_at hl 1 rfl) ?_
      refine me_getr (ci := 6) (C := RX6) (T := TX6) (N := 22) hx hb hts in_X6_days_X6 hown hK hP hT.1 rfl 18 (by decide) (hts _ kX6_days_f52) rfl dX6_days_33 ?_
      refine lv_iconst (v := (0 : Int32)) hx hb dX6_days_36 (by decide) ?_
      obtain ⟨hi, h⟩ := s_ald_inv h
      refine me_ald hx hb hK hP hT.2.2.2.2.2.2.2.2.2.2.2.2.2.2.2.1 hi dX6_days_37 (fun v37 ev => ?_)
      replace h := h v37 ev
      exact me_iret hx hb hr hlk hP hS h dX6_days_38
    · rw [if_neg q] at h
      refine lv_iload_n hx hb dX6_days_28 rfl (lv_at hl 0 rfl) ?_
      refine lv_goto (tgt := 38) hx hb dX6_days_29 (by decide) ?_
      exact me_iret hx hb hr hlk hP hS h dX6_days_38
  · rw [if_neg q] at h
    refine lv_aload_n hx hb dX6_days_12 rfl (lv_at hl 0 rfl) ?_
    refine lv_iconst (v := (5 : Int32)) hx hb dX6_days_13 (by decide) ?_
    refine lv_iconst (v := (0 : Int32)) hx hb dX6_days_14 (by decide) ?_
    refine lv_iload_n hx hb dX6_days_15 rfl (lv_at hl 1 rfl) ?_
    obtain ⟨v16, M16, h1, h⟩ := s_call_inv h
    refine me_callVi (As := [.int (5 : Int32), .int (0 : Int32), .int x1]) (rest := []) ⟨hx, hb, hml, hown, hts⟩ (c_X6_act hT h1) (cwV 3 hts gX6_days_X6_act rfl rfl rfl hd_X6_act ⟨(Nat.le_of_ble_eq_true rfl), (Nat.le_of_ble_eq_true rfl)⟩) hK hI hP hS hT.1 rfl rfl hl.1 rfl (Nat.le_of_ble_eq_true rfl) dX6_days_16 ⟨Nat.zero_le _, Nat.zero_le _⟩ (fun H locs hP hS => ?_)
    refine lv_goto (tgt := 23) hx hb dX6_days_19 (by decide) ?_
    refine lv_istore_n (lv' := [(2, .int v16), (0, .ref (ad t)), (1, .int x1)]) hx hb dX6_days_23 rfl hl (by decide) rfl (fun ls hl => ?_)
    refine lv_iload_n hx hb dX6_days_24 rfl (lv_at hl 0 rfl) ?_
    refine lv_if_ge (tgt := 32) hx hb dX6_days_25 (by decide) (fun q => ?_) (fun q => ?_)
    · rw [if_pos q] at h
      refine lv_aload_n hx hb dX6_days_32 rfl (lv_at hl 1 rfl) ?_
      refine me_getr (ci := 6) (C := RX6) (T := TX6) (N := 22) hx hb hts in_X6_days_X6 hown hK hP hT.1 rfl 18 (by decide) (hts _ kX6_days_f52) rfl dX6_days_33 ?_
      refine lv_iconst (v := (0 : Int32)) hx hb dX6_days_36 (by decide) ?_
      obtain ⟨hi, h⟩ := s_ald_inv h
      refine me_ald hx hb hK hP hT.2.2.2.2.2.2.2.2.2.2.2.2.2.2.2.1 hi dX6_days_37 (fun v37 ev => ?_)
      replace h := h v37 ev
      exact me_iret hx hb hr hlk hP hS h dX6_days_38
    · rw [if_neg q] at h
      refine lv_iload_n hx hb dX6_days_28 rfl (lv_at hl 0 rfl) ?_
      refine lv_goto (tgt := 38) hx hb dX6_days_29 (by decide) ?_
      exact me_iret hx hb hr hlk hP hS h dX6_days_38
theorem c_X6_days {l : Launch} {D : va_G} {cI : ClassId} {ad : Nat → Nat} {L : List CDs} {t : Nat} (hT : is_X6 L t) {x1 : Int32} {M M' : Mem} {r : Int32} (h : X6_days t x1 M = some (r, M')) : me_Met l yX6_days wsX6_days rmX6_days D cI ad L [.ref (ad t), .int x1] (some (.int r)) M M' :=
  me_ofW (by decide) rfl (Nat.le_of_ble_eq_true rfl) (fun p e s m below meth c C0 => w_X6_days C0 t hT x1 M h)
abbrev rmX6_undo : Room := { frames := 7, cells := 0, slots := 0, locals := 159 }
theorem kX6_undo_f28 : (Cond.fieldLink RX6 28 "LadderOfBowsModel" "acts" "[I") ∈ wsX6_undo := List.mem_of_getElem? (i := 1) rfl
theorem in_X6_undo_X6 : ∀ w ∈ wsX60, w ∈ wsX6_undo := by decide +kernel
theorem hd_X6_undo : yX6_undo.cls = RX6 ∧ yX6_undo.cls ≠ "java/lang/invoke/MethodHandle" ∧ yX6_undo.cls ≠ "java/lang/invoke/VarHandle" ∧ (parseMethodDescriptor yX6_undo.desc).map (fun d => d.parameters.length) = some 0 := by decide +kernel
set_option maxRecDepth 100000 in
set_option maxHeartbeats 4000000 in
theorem w_X6_undo {p : Program} {l : Launch} {e : Env} {s : State} {m : MethodId} {args : Array Value} {below : List Frame} {meth : Method} {c : Code} {D : va_G} {cI : ClassId} {ad : Nat → Nat} {L : List CDs} {r : Int32} {M' : Mem} (C0 : me_X p s m args meth c cX6_undo 1 (some .int) wsX6_undo RX6 D cI ad L) (t : Nat) (hT : is_X6 L t) : ∀  (M : Mem), X6_undo t M = some (r, M') → me_W p l e rmX6_undo s m args below meth c D cI ad L (some (.int r)) M' 1 0 [(0, .ref (ad t))] [] M := by
  obtain ⟨hx, hb, hr, hml, hown, hts, hlk, hK, hI⟩ := id C0
  intro M h
  unfold X6_undo at h
  intro H locs ls hP hS hl
  refine lv_aload_n hx hb dX6_undo_0 rfl (lv_at hl 0 rfl) ?_
  refine me_getr (ci := 6) (C := RX6) (T := TX6) (N := 22) hx hb hts in_X6_undo_X6 hown hK hP hT.1 rfl 7 (by decide) (hts _ kX6_undo_f28) rfl dX6_undo_1 ?_
  refine lv_iconst (v := (0 : Int32)) hx hb dX6_undo_4 (by decide) ?_
  obtain ⟨hi, h⟩ := s_ald_inv h
  refine me_ald hx hb hK hP hT.2.2.2.2.2.2.2.1 hi dX6_undo_5 (fun v5 ev => ?_)
  replace h := h v5 ev
  refine lv_if_ne (tgt := 12) hx hb dX6_undo_6 (by decide) (fun q => ?_) (fun q => ?_)
  · rw [if_pos q] at h
    refine lv_aload_n hx hb dX6_undo_12 rfl (lv_at hl 0 rfl) ?_
    refine me_getr (ci := 6) (C := RX6) (T := TX6) (N := 22) hx hb hts in_X6_undo_X6 hown hK hP hT.1 rfl 7 (by decide) (hts _ kX6_undo_f28) rfl dX6_undo_13 ?_
    refine lv_iconst (v := (0 : Int32)) hx hb dX6_undo_16 (by decide) ?_
    refine lv_dup2_11 hx hb dX6_undo_17 rfl rfl ?_
    obtain ⟨hi, h⟩ := s_ald_inv h
    refine me_ald hx hb hK hP hT.2.2.2.2.2.2.2.1 hi dX6_undo_18 (fun v18 ev => ?_)
    replace h := h v18 ev
    refine lv_iconst (v := (1 : Int32)) hx hb dX6_undo_19 (by decide) ?_
    refine lv_isub hx hb dX6_undo_20 ?_
    obtain ⟨hi, h⟩ := s_ast_inv h
    refine me_ast hx hb hK hI hP hS hT.2.2.2.2.2.2.2.1 hi dX6_undo_21 (fun H locs M21 eM hP hS => ?_)
    replace h := h M21 eM
    refine lv_aload_n hx hb dX6_undo_22 rfl (lv_at hl 0 rfl) ?_
    obtain ⟨u23, M23, h1, h⟩ := s_call_inv h
    refine me_callVv (As := []) (rest := []) ⟨hx, hb, hml, hown, hts⟩ (c_X6_begin hT h1) (cwV 0 hts gX6_undo_X6_begin rfl rfl rfl hd_X6_begin ⟨(Nat.le_of_ble_eq_true rfl), (Nat.le_of_ble_eq_true rfl)⟩) hK hI hP hS hT.1 rfl rfl hl.1 rfl (Nat.le_of_ble_eq_true rfl) dX6_undo_23 ⟨Nat.zero_le _, Nat.zero_le _⟩ (fun H locs hP hS => ?_)
    refine lv_aload_n hx hb dX6_undo_26 rfl (lv_at hl 0 rfl) ?_
    refine me_getr (ci := 6) (C := RX6) (T := TX6) (N := 22) hx hb hts in_X6_undo_X6 hown hK hP hT.1 rfl 7 (by decide) (hts _ kX6_undo_f28) rfl dX6_undo_27 ?_
    refine lv_iconst (v := (0 : Int32)) hx hb dX6_undo_30 (by decide) ?_
    obtain ⟨hi, h⟩ := s_ald_inv h
    refine me_ald hx hb hK hP hT.2.2.2.2.2.2.2.1 hi dX6_undo_31 (fun v31 ev => ?_)
    replace h := h v31 ev
    exact me_iret hx hb hr hlk hP hS h dX6_undo_32
  · rw [if_neg (not_not_intro q)] at h
    refine lv_bipush (v := (-2 : Int32)) hx hb dX6_undo_9 (by decide) ?_
    exact me_iret hx hb hr hlk hP hS h dX6_undo_11
theorem c_X6_undo {l : Launch} {D : va_G} {cI : ClassId} {ad : Nat → Nat} {L : List CDs} {t : Nat} (hT : is_X6 L t)  {M M' : Mem} {r : Int32} (h : X6_undo t M = some (r, M')) : me_Met l yX6_undo wsX6_undo rmX6_undo D cI ad L [.ref (ad t)] (some (.int r)) M M' :=
  me_ofW (by decide) rfl (Nat.le_of_ble_eq_true rfl) (fun p e s m below meth c C0 => w_X6_undo C0 t hT M h)
abbrev rmX6_firstBow : Room := { frames := 4, cells := 0, slots := 0, locals := 92 }
theorem hd_X6_firstBow : yX6_firstBow.cls = RX6 ∧ yX6_firstBow.cls ≠ "java/lang/invoke/MethodHandle" ∧ yX6_firstBow.cls ≠ "java/lang/invoke/VarHandle" ∧ (parseMethodDescriptor yX6_firstBow.desc).map (fun d => d.parameters.length) = some 1 := by decide +kernel
set_option maxRecDepth 100000 in
set_option maxHeartbeats 4000000 in
theorem w_X6_firstBow_2 {p : Program} {l : Launch} {e : Env} {s : State} {m : MethodId} {args : Array Value} {below : List Frame} {meth : Method} {c : Code} {D : va_G} {cI : ClassId} {ad : Nat → Nat} {L : List CDs} {r : Int32} {M' : Mem} (C0 : me_X p s m args meth c cX6_firstBow 3 (some .int) wsX6_firstBow RX6 D cI ad L) (t : Nat) (hT : is_X6 L t) (x1 : Int32) : ∀ (n : Nat) (x2 : Int32) (M : Mem), X6_firstBow_2 t x1 n x2 M = some (r, M') → me_W p l e rmX6_firstBow s m args below meth c D cI ad L (some (.int r)) M' 3 2 [(0, .ref (ad t)), (1, .int x1), (2, .int x2)] [] M := by
  obtain ⟨hx, hb, hr, hml, hown, hts, hlk, hK, hI⟩ := id C0
  intro n
  induction n with
  | zero =>
    intro x2 M h
    rw [X6_firstBow_2] at h
    cases h
  | succ n ih =>
    intro x2 M h
    rw [X6_firstBow_2] at h
    intro H locs ls hP hS hl
    refine lv_iload_n hx hb dX6_firstBow_2 rfl (lv_at hl 2 rfl) ?_
    refine lv_bipush (v := (64 : Int32)) hx hb dX6_firstBow_3 (by decide) ?_
    refine lv_icmp_ge (tgt := 48) hx hb dX6_firstBow_5 (by decide) (fun q => ?_) (fun q => ?_)
    · rw [if_pos q] at h
      refine lv_bipush (v := (-4 : Int32)) hx hb dX6_firstBow_48 (by decide) ?_
      exact me_iret hx hb hr hlk hP hS h dX6_firstBow_50
    · rw [if_neg q] at h
      refine lv_aload_n hx hb dX6_firstBow_8 rfl (lv_at hl 0 rfl) ?_
      refine lv_iload_n hx hb dX6_firstBow_9 rfl (lv_at hl 1 rfl) ?_
      refine lv_iload_n hx hb dX6_firstBow_10 rfl (lv_at hl 2 rfl) ?_
      refine lv_bipush (v := (8 : Int32)) hx hb dX6_firstBow_11 (by decide) ?_
      obtain ⟨hi, h⟩ := s_div_inv h
      refine lv_idiv hx hb dX6_firstBow_13 hi ?_
      refine lv_topi (fun v13 ev => ?_)
      replace h := h v13 ev
      refine lv_iload_n hx hb dX6_firstBow_14 rfl (lv_at hl 2 rfl) ?_
      refine lv_bipush (v := (8 : Int32)) hx hb dX6_firstBow_15 (by decide) ?_
      obtain ⟨hi, h⟩ := s_rem_inv h
      refine lv_irem hx hb dX6_firstBow_17 hi ?_
      refine lv_topi (fun v17 ev => ?_)
      replace h := h v17 ev
      obtain ⟨v18, M18, h1, h⟩ := s_call_inv h
      refine me_callVi (As := [.int x1, .int v13, .int v17]) (rest := []) ⟨hx, hb, hml, hown, hts⟩ (c_X6_canBow hT h1) (cwV 3 hts gX6_firstBow_X6_canBow rfl rfl rfl hd_X6_canBow ⟨(Nat.le_of_ble_eq_true rfl), (Nat.le_of_ble_eq_true rfl)⟩) hK hI hP hS hT.1 rfl rfl hl.1 rfl (Nat.le_of_ble_eq_true rfl) dX6_firstBow_18 ⟨Nat.zero_le _, Nat.zero_le _⟩ (fun H locs hP hS => ?_)
      refine lv_if_eq (tgt := 42) hx hb dX6_firstBow_21 (by decide) (fun q => ?_) (fun q => ?_)
      · rw [if_pos q] at h
        refine lv_iinc (k := 2) (v := (x2 + (1 : Int32))) (lv' := [(2, .int (x2 + (1 : Int32))), (0, .ref (ad t)), (1, .int x1)]) hx hb dX6_firstBow_42 hl rfl rfl (by decide) rfl (fun ls hl => ?_)
        refine lv_goto (tgt := 2) hx hb dX6_firstBow_45 (by decide) ?_
        exact ih (x2 + (1 : Int32)) M18 h H locs ls hP hS (lv_sub hl [1, 2, 0] rfl)
      · rw [if_neg q] at h
        refine lv_aload_n hx hb dX6_firstBow_24 rfl (lv_at hl 0 rfl) ?_
        refine lv_iload_n hx hb dX6_firstBow_25 rfl (lv_at hl 1 rfl) ?_
        refine lv_iload_n hx hb dX6_firstBow_26 rfl (lv_at hl 2 rfl) ?_
        refine lv_bipush (v := (8 : Int32)) hx hb dX6_firstBow_27 (by decide) ?_
        obtain ⟨hi, h⟩ := s_div_inv h
        refine lv_idiv hx hb dX6_firstBow_29 hi ?_
        refine lv_topi (fun v29 ev => ?_)
        replace h := h v29 ev
        refine lv_iload_n hx hb dX6_firstBow_30 rfl (lv_at hl 2 rfl) ?_
        refine lv_bipush (v := (8 : Int32)) hx hb dX6_firstBow_31 (by decide) ?_
        obtain ⟨hi, h⟩ := s_rem_inv h
        refine lv_irem hx hb dX6_firstBow_33 hi ?_
        refine lv_topi (fun v33 ev => ?_)
        replace h := h v33 ev
        obtain ⟨v34, M34, h1, h⟩ := s_call_inv h
        refine me_callVi (As := [.int x1, .int v29, .int v33]) (rest := []) ⟨hx, hb, hml, hown, hts⟩ (c_X6_pays hT h1) (cwV 3 hts gX6_firstBow_X6_pays rfl rfl rfl hd_X6_pays ⟨(Nat.le_of_ble_eq_true rfl), (Nat.le_of_ble_eq_true rfl)⟩) hK hI hP hS hT.1 rfl rfl hl.1 rfl (Nat.le_of_ble_eq_true rfl) dX6_firstBow_34 ⟨Nat.zero_le _, Nat.zero_le _⟩ (fun H locs hP hS => ?_)
        refine lv_if_le (tgt := 42) hx hb dX6_firstBow_37 (by decide) (fun q => ?_) (fun q => ?_)
        · rw [if_pos q] at h
          refine lv_iinc (k := 2) (v := (x2 + (1 : Int32))) (lv' := [(2, .int (x2 + (1 : Int32))), (0, .ref (ad t)), (1, .int x1)]) hx hb dX6_firstBow_42 hl rfl rfl (by decide) rfl (fun ls hl => ?_)
          refine lv_goto (tgt := 2) hx hb dX6_firstBow_45 (by decide) ?_
          exact ih (x2 + (1 : Int32)) M34 h H locs ls hP hS (lv_sub hl [1, 2, 0] rfl)
        · rw [if_neg q] at h
          refine lv_iload_n hx hb dX6_firstBow_40 rfl (lv_at hl 2 rfl) ?_
          exact me_iret hx hb hr hlk hP hS h dX6_firstBow_41
set_option maxRecDepth 100000 in
set_option maxHeartbeats 4000000 in
theorem w_X6_firstBow {p : Program} {l : Launch} {e : Env} {s : State} {m : MethodId} {args : Array Value} {below : List Frame} {meth : Method} {c : Code} {D : va_G} {cI : ClassId} {ad : Nat → Nat} {L : List CDs} {r : Int32} {M' : Mem} (C0 : me_X p s m args meth c cX6_firstBow 3 (some .int) wsX6_firstBow RX6 D cI ad L) (t : Nat) (hT : is_X6 L t) (x1 : Int32) : ∀  (M : Mem), X6_firstBow t x1 M = some (r, M') → me_W p l e rmX6_firstBow s m args below meth c D cI ad L (some (.int r)) M' 3 0 [(0, .ref (ad t)), (1, .int x1)] [] M := by
  obtain ⟨hx, hb, hr, hml, hown, hts, hlk, hK, hI⟩ := id C0
  intro M h
  unfold X6_firstBow at h
  intro H locs ls hP hS hl
  refine lv_iconst (v := (0 : Int32)) hx hb dX6_firstBow_0 (by decide) ?_
  refine lv_istore_n (lv' := [(2, .int (0 : Int32)), (0, .ref (ad t)), (1, .int x1)]) hx hb dX6_firstBow_1 rfl hl (by decide) rfl (fun ls hl => ?_)
  exact w_X6_firstBow_2 C0 t hT x1 FU (0 : Int32) M h H locs ls hP hS (lv_sub hl [1, 2, 0] rfl)
theorem c_X6_firstBow {l : Launch} {D : va_G} {cI : ClassId} {ad : Nat → Nat} {L : List CDs} {t : Nat} (hT : is_X6 L t) {x1 : Int32} {M M' : Mem} {r : Int32} (h : X6_firstBow t x1 M = some (r, M')) : me_Met l yX6_firstBow wsX6_firstBow rmX6_firstBow D cI ad L [.ref (ad t), .int x1] (some (.int r)) M M' :=
  me_ofW (by decide) rfl (Nat.le_of_ble_eq_true rfl) (fun p e s m below meth c C0 => w_X6_firstBow C0 t hT x1 M h)
abbrev rmX6_firstAtOnce : Room := { frames := 3, cells := 0, slots := 0, locals := 70 }
theorem hd_X6_firstAtOnce : yX6_firstAtOnce.cls = RX6 ∧ yX6_firstAtOnce.cls ≠ "java/lang/invoke/MethodHandle" ∧ yX6_firstAtOnce.cls ≠ "java/lang/invoke/VarHandle" ∧ (parseMethodDescriptor yX6_firstAtOnce.desc).map (fun d => d.parameters.length) = some 1 := by decide +kernel
set_option maxRecDepth 100000 in
set_option maxHeartbeats 4000000 in
theorem w_X6_firstAtOnce_2 {p : Program} {l : Launch} {e : Env} {s : State} {m : MethodId} {args : Array Value} {below : List Frame} {meth : Method} {c : Code} {D : va_G} {cI : ClassId} {ad : Nat → Nat} {L : List CDs} {r : Int32} {M' : Mem} (C0 : me_X p s m args meth c cX6_firstAtOnce 5 (some .int) wsX6_firstAtOnce RX6 D cI ad L) (t : Nat) (hT : is_X6 L t) (x1 : Int32) : ∀ (n : Nat) (x2 : Int32) (M : Mem), X6_firstAtOnce_2 t x1 n x2 M = some (r, M') → me_W p l e rmX6_firstAtOnce s m args below meth c D cI ad L (some (.int r)) M' 5 2 [(0, .ref (ad t)), (1, .int x1), (2, .int x2)] [] M := by
  obtain ⟨hx, hb, hr, hml, hown, hts, hlk, hK, hI⟩ := id C0
  intro n
  induction n with
  | zero =>
    intro x2 M h
    rw [X6_firstAtOnce_2] at h
    cases h
  | succ n ih =>
    intro x2 M h
    rw [X6_firstAtOnce_2] at h
    intro H locs ls hP hS hl
    refine lv_iload_n hx hb dX6_firstAtOnce_2 rfl (lv_at hl 2 rfl) ?_
    refine lv_bipush (v := (64 : Int32)) hx hb dX6_firstAtOnce_3 (by decide) ?_
    refine lv_icmp_ge (tgt := 64) hx hb dX6_firstAtOnce_5 (by decide) (fun q => ?_) (fun q => ?_)
    · rw [if_pos q] at h
      refine lv_bipush (v := (-4 : Int32)) hx hb dX6_firstAtOnce_64 (by decide) ?_
      exact me_iret hx hb hr hlk hP hS h dX6_firstAtOnce_66
    · rw [if_neg q] at h
      refine lv_iload_n hx hb dX6_firstAtOnce_8 rfl (lv_at hl 2 rfl) ?_
      refine lv_bipush (v := (8 : Int32)) hx hb dX6_firstAtOnce_9 (by decide) ?_
      obtain ⟨hi, h⟩ := s_div_inv h
      refine lv_idiv hx hb dX6_firstAtOnce_11 hi ?_
      refine lv_topi (fun v11 ev => ?_)
      replace h := h v11 ev
      refine lv_istore_n (lv' := [(3, .int v11), (0, .ref (ad t)), (1, .int x1), (2, .int x2)]) hx hb dX6_firstAtOnce_12 rfl hl (by decide) rfl (fun ls hl => ?_)
      refine lv_iload_n hx hb dX6_firstAtOnce_13 rfl (lv_at hl 3 rfl) ?_
      refine lv_bipush (v := (8 : Int32)) hx hb dX6_firstAtOnce_14 (by decide) ?_
      obtain ⟨hi, h⟩ := s_rem_inv h
      refine lv_irem hx hb dX6_firstAtOnce_16 hi ?_
      refine lv_topi (fun v16 ev => ?_)
      replace h := h v16 ev
      refine lv_istore (lv' := [(4, .int v16), (3, .int v11), (0, .ref (ad t)), (1, .int x1), (2, .int x2)]) hx hb dX6_firstAtOnce_17 hl (by decide) rfl (fun ls hl => ?_)
      refine lv_iload_n hx hb dX6_firstAtOnce_19 rfl (lv_at hl 1 rfl) ?_
      refine lv_iload hx hb dX6_firstAtOnce_20 (lv_at hl 0 rfl) ?_
      refine lv_icmp_ge (tgt := 58) hx hb dX6_firstAtOnce_22 (by decide) (fun q => ?_) (fun q => ?_)
      · rw [if_pos q] at h
        refine lv_iinc (k := 4) (v := (x2 + (1 : Int32))) (lv' := [(2, .int (x2 + (1 : Int32))), (4, .int v16), (3, .int v11), (0, .ref (ad t)), (1, .int x1)]) hx hb dX6_firstAtOnce_58 hl rfl rfl (by decide) rfl (fun ls hl => ?_)
        refine lv_goto (tgt := 2) hx hb dX6_firstAtOnce_61 (by decide) ?_
        exact ih (x2 + (1 : Int32)) M h H locs ls hP hS (lv_sub hl [3, 4, 0] rfl)
      · rw [if_neg q] at h
        refine lv_aload_n hx hb dX6_firstAtOnce_25 rfl (lv_at hl 2 rfl) ?_
        refine lv_iload_n hx hb dX6_firstAtOnce_26 rfl (lv_at hl 3 rfl) ?_
        refine lv_iload_n hx hb dX6_firstAtOnce_27 rfl (lv_at hl 1 rfl) ?_
        refine lv_iload hx hb dX6_firstAtOnce_28 (lv_at hl 0 rfl) ?_
        obtain ⟨v30, M30, h1, h⟩ := s_call_inv h
        refine me_callVi (As := [.int x1, .int v11, .int v16]) (rest := []) ⟨hx, hb, hml, hown, hts⟩ (c_X6_canAtOnce hT h1) (cwV 3 hts gX6_firstAtOnce_X6_canAtOnce rfl rfl rfl hd_X6_canAtOnce ⟨(Nat.le_of_ble_eq_true rfl), (Nat.le_of_ble_eq_true rfl)⟩) hK hI hP hS hT.1 rfl rfl hl.1 rfl (Nat.le_of_ble_eq_true rfl) dX6_firstAtOnce_30 ⟨Nat.zero_le _, Nat.zero_le _⟩ (fun H locs hP hS => ?_)
        refine lv_if_eq (tgt := 58) hx hb dX6_firstAtOnce_33 (by decide) (fun q => ?_) (fun q => ?_)
        · rw [if_pos q] at h
          refine lv_iinc (k := 4) (v := (x2 + (1 : Int32))) (lv' := [(2, .int (x2 + (1 : Int32))), (4, .int v16), (3, .int v11), (0, .ref (ad t)), (1, .int x1)]) hx hb dX6_firstAtOnce_58 hl rfl rfl (by decide) rfl (fun ls hl => ?_)
          refine lv_goto (tgt := 2) hx hb dX6_firstAtOnce_61 (by decide) ?_
          exact ih (x2 + (1 : Int32)) M30 h H locs ls hP hS (lv_sub hl [3, 4, 0] rfl)
        · rw [if_neg q] at h
          refine lv_aload_n hx hb dX6_firstAtOnce_36 rfl (lv_at hl 2 rfl) ?_
          refine lv_iload_n hx hb dX6_firstAtOnce_37 rfl (lv_at hl 3 rfl) ?_
          refine lv_iload_n hx hb dX6_firstAtOnce_38 rfl (lv_at hl 1 rfl) ?_
          refine lv_iload hx hb dX6_firstAtOnce_39 (lv_at hl 0 rfl) ?_
          obtain ⟨v41, M41, h1, h⟩ := s_call_inv h
          refine me_callVi (As := [.int x1, .int v11, .int v16]) (rest := []) ⟨hx, hb, hml, hown, hts⟩ (c_X6_pays hT h1) (cwV 3 hts gX6_firstAtOnce_X6_pays rfl rfl rfl hd_X6_pays ⟨(Nat.le_of_ble_eq_true rfl), (Nat.le_of_ble_eq_true rfl)⟩) hK hI hP hS hT.1 rfl rfl hl.1 rfl (Nat.le_of_ble_eq_true rfl) dX6_firstAtOnce_41 ⟨Nat.zero_le _, Nat.zero_le _⟩ (fun H locs hP hS => ?_)
          refine lv_aload_n hx hb dX6_firstAtOnce_44 rfl (lv_at hl 2 rfl) ?_
          refine lv_iload_n hx hb dX6_firstAtOnce_45 rfl (lv_at hl 3 rfl) ?_
          refine lv_iload hx hb dX6_firstAtOnce_46 (lv_at hl 0 rfl) ?_
          refine lv_iload_n hx hb dX6_firstAtOnce_48 rfl (lv_at hl 1 rfl) ?_
          obtain ⟨v49, M49, h1, h⟩ := s_call_inv h
          refine me_callVi (As := [.int x1, .int v16, .int v11]) (rest := [.int v41]) ⟨hx, hb, hml, hown, hts⟩ (c_X6_pays hT h1) (cwV 3 hts gX6_firstAtOnce_X6_pays rfl rfl rfl hd_X6_pays ⟨(Nat.le_of_ble_eq_true rfl), (Nat.le_of_ble_eq_true rfl)⟩) hK hI hP hS hT.1 rfl rfl hl.1 rfl (Nat.le_of_ble_eq_true rfl) dX6_firstAtOnce_49 ⟨Nat.zero_le _, Nat.zero_le _⟩ (fun H locs hP hS => ?_)
          refine lv_iadd hx hb dX6_firstAtOnce_52 ?_
          refine lv_if_le (tgt := 58) hx hb dX6_firstAtOnce_53 (by decide) (fun q => ?_) (fun q => ?_)
          · rw [if_pos q] at h
            refine lv_iinc (k := 4) (v := (x2 + (1 : Int32))) (lv' := [(2, .int (x2 + (1 : Int32))), (4, .int v16), (3, .int v11), (0, .ref (ad t)), (1, .int x1)]) hx hb dX6_firstAtOnce_58 hl rfl rfl (by decide) rfl (fun ls hl => ?_)
            refine lv_goto (tgt := 2) hx hb dX6_firstAtOnce_61 (by decide) ?_
            exact ih (x2 + (1 : Int32)) M49 h H locs ls hP hS (lv_sub hl [3, 4, 0] rfl)
          · rw [if_neg q] at h
            refine lv_iload_n hx hb dX6_firstAtOnce_56 rfl (lv_at hl 4 rfl) ?_
            exact me_iret hx hb hr hlk hP hS h dX6_firstAtOnce_57
set_option maxRecDepth 100000 in
set_option maxHeartbeats 4000000 in
theorem w_X6_firstAtOnce {p : Program} {l : Launch} {e : Env} {s : State} {m : MethodId} {args : Array Value} {below : List Frame} {meth : Method} {c : Code} {D : va_G} {cI : ClassId} {ad : Nat → Nat} {L : List CDs} {r : Int32} {M' : Mem} (C0 : me_X p s m args meth c cX6_firstAtOnce 5 (some .int) wsX6_firstAtOnce RX6 D cI ad L) (t : Nat) (hT : is_X6 L t) (x1 : Int32) : ∀  (M : Mem), X6_firstAtOnce t x1 M = some (r, M') → me_W p l e rmX6_firstAtOnce s m args below meth c D cI ad L (some (.int r)) M' 5 0 [(0, .ref (ad t)), (1, .int x1)] [] M := by
  obtain ⟨hx, hb, hr, hml, hown, hts, hlk, hK, hI⟩ := id C0
  intro M h
  unfold X6_firstAtOnce at h
  intro H locs ls hP hS hl
  refine lv_iconst (v := (0 : Int32)) hx hb dX6_firstAtOnce_0 (by decide) ?_
  refine lv_istore_n (lv' := [(2, .int (0 : Int32)), (0, .ref (ad t)), (1, .int x1)]) hx hb dX6_firstAtOnce_1 rfl hl (by decide) rfl (fun ls hl => ?_)
  exact w_X6_firstAtOnce_2 C0 t hT x1 FU (0 : Int32) M h H locs ls hP hS (lv_sub hl [1, 2, 0] rfl)
theorem c_X6_firstAtOnce {l : Launch} {D : va_G} {cI : ClassId} {ad : Nat → Nat} {L : List CDs} {t : Nat} (hT : is_X6 L t) {x1 : Int32} {M M' : Mem} {r : Int32} (h : X6_firstAtOnce t x1 M = some (r, M')) : me_Met l yX6_firstAtOnce wsX6_firstAtOnce rmX6_firstAtOnce D cI ad L [.ref (ad t), .int x1] (some (.int r)) M M' :=
  me_ofW (by decide) rfl (Nat.le_of_ble_eq_true rfl) (fun p e s m below meth c C0 => w_X6_firstAtOnce C0 t hT x1 M h)
abbrev rmX6_makePeace : Room := { frames := 5, cells := 0, slots := 0, locals := 114 }
theorem hd_X6_makePeace : yX6_makePeace.cls = RX6 ∧ yX6_makePeace.cls ≠ "java/lang/invoke/MethodHandle" ∧ yX6_makePeace.cls ≠ "java/lang/invoke/VarHandle" ∧ (parseMethodDescriptor yX6_makePeace.desc).map (fun d => d.parameters.length) = some 1 := by decide +kernel
set_option maxRecDepth 100000 in
set_option maxHeartbeats 4000000 in
theorem w_X6_makePeace_91 {p : Program} {l : Launch} {e : Env} {s : State} {m : MethodId} {args : Array Value} {below : List Frame} {meth : Method} {c : Code} {D : va_G} {cI : ClassId} {ad : Nat → Nat} {L : List CDs} {r : Int32} {M' : Mem} (C0 : me_X p s m args meth c cX6_makePeace 6 (some .int) wsX6_makePeace RX6 D cI ad L) (t : Nat) (hT : is_X6 L t) (x1 : Int32) (x2 : Int32) (k4 : Int32 → Int32 → Mem → Option (Int32 × Mem)) (hk4 : ∀ (x2 : Int32) (x3 : Int32) (M : Mem), k4 x2 x3 M = some (r, M') → me_W p l e rmX6_makePeace s m args below meth c D cI ad L (some (.int r)) M' 6 4 [(0, .ref (ad t)), (1, .int x1), (2, .int x2), (3, .int x3)] [] M) : ∀ (y0 : Int32) (M : Mem), X6_makePeace_91 t x1 x2 k4 y0 M = some (r, M') → me_W p l e rmX6_makePeace s m args below meth c D cI ad L (some (.int r)) M' 6 91 [(0, .ref (ad t)), (1, .int x1), (2, .int x2)] [.int y0] M := by
  obtain ⟨hx, hb, hr, hml, hown, hts, hlk, hK, hI⟩ := id C0
  intro y0 M h
  unfold X6_makePeace_91 at h
  intro H locs ls hP hS hl
  refine lv_istore_n (lv' := [(3, .int y0), (0, .ref (ad t)), (1, .int x1), (2, .int x2)]) hx hb dX6_makePeace_91 rfl hl (by decide) rfl (fun ls hl => ?_)
  refine lv_iload_n hx hb dX6_makePeace_92 rfl (lv_at hl 3 rfl) ?_
  refine lv_iload_n hx hb dX6_makePeace_93 rfl (lv_at hl 0 rfl) ?_
  refine lv_if_eq (tgt := 101) hx hb dX6_makePeace_94 (by decide) (fun q => ?_) (fun q => ?_)
  · rw [if_pos q] at h
    refine lv_iconst (v := (0 : Int32)) hx hb dX6_makePeace_101 (by decide) ?_
    refine lv_iadd hx hb dX6_makePeace_102 ?_
    refine lv_topi (fun x2_103 ev => ?_)
    replace h := s_let_inv h x2_103 ev
    refine lv_istore_n (lv' := [(2, .int x2_103), (3, .int y0), (0, .ref (ad t)), (1, .int x1)]) hx hb dX6_makePeace_103 rfl hl (by decide) rfl (fun ls hl => ?_)
    refine lv_goto (tgt := 4) hx hb dX6_makePeace_104 (by decide) ?_
    exact hk4 x2_103 y0 M h H locs ls hP hS (lv_sub hl [2, 3, 0, 1] rfl)
  · rw [if_neg q] at h
    refine lv_iconst (v := (1 : Int32)) hx hb dX6_makePeace_97 (by decide) ?_
    refine lv_goto (tgt := 102) hx hb dX6_makePeace_98 (by decide) ?_
    refine lv_iadd hx hb dX6_makePeace_102 ?_
    refine lv_topi (fun x2_103 ev => ?_)
    replace h := s_let_inv h x2_103 ev
    refine lv_istore_n (lv' := [(2, .int x2_103), (3, .int y0), (0, .ref (ad t)), (1, .int x1)]) hx hb dX6_makePeace_103 rfl hl (by decide) rfl (fun ls hl => ?_)
    refine lv_goto (tgt := 4) hx hb dX6_makePeace_104 (by decide) ?_
    exact hk4 x2_103 y0 M h H locs ls hP hS (lv_sub hl [2, 3, 0, 1] rfl)
set_option maxRecDepth 100000 in
set_option maxHeartbeats 4000000 in
theorem w_X6_makePeace_30 {p : Program} {l : Launch} {e : Env} {s : State} {m : MethodId} {args : Array Value} {below : List Frame} {meth : Method} {c : Code} {D : va_G} {cI : ClassId} {ad : Nat → Nat} {L : List CDs} {r : Int32} {M' : Mem} (C0 : me_X p s m args meth c cX6_makePeace 6 (some .int) wsX6_makePeace RX6 D cI ad L) (t : Nat) (hT : is_X6 L t) (x1 : Int32) (x2 : Int32) (x4 : Int32) (k4 : Int32 → Int32 → Mem → Option (Int32 × Mem)) (hk4 : ∀ (x2 : Int32) (x3 : Int32) (M : Mem), k4 x2 x3 M = some (r, M') → me_W p l e rmX6_makePeace s m args below meth c D cI ad L (some (.int r)) M' 6 4 [(0, .ref (ad t)), (1, .int x1), (2, .int x2), (3, .int x3)] [] M) : ∀ (y0 : Int32) (M : Mem), X6_makePeace_30 t x1 x2 x4 k4 y0 M = some (r, M') → me_W p l e rmX6_makePeace s m args below meth c D cI ad L (some (.int r)) M' 6 30 [(0, .ref (ad t)), (1, .int x1), (2, .int x2), (4, .int x4)] [.int y0] M := by
  obtain ⟨hx, hb, hr, hml, hown, hts, hlk, hK, hI⟩ := id C0
  intro y0 M h
  unfold X6_makePeace_30 at h
  intro H locs ls hP hS hl
  refine lv_istore (lv' := [(5, .int y0), (0, .ref (ad t)), (1, .int x1), (2, .int x2), (4, .int x4)]) hx hb dX6_makePeace_30 hl (by decide) rfl (fun ls hl => ?_)
  refine lv_iload hx hb dX6_makePeace_32 (lv_at hl 4 rfl) ?_
  refine lv_if_lt (tgt := 56) hx hb dX6_makePeace_34 (by decide) (fun q => ?_) (fun q => ?_)
  · rw [if_pos q] at h
    refine lv_iload hx hb dX6_makePeace_56 (lv_at hl 0 rfl) ?_
    refine lv_if_lt (tgt := 76) hx hb dX6_makePeace_58 (by decide) (fun q => ?_) (fun q => ?_)
    · rw [if_pos q] at h
      refine lv_iload hx hb dX6_makePeace_76 (lv_at hl 4 rfl) ?_
      refine lv_if_ge (tgt := 86) hx hb dX6_makePeace_78 (by decide) (fun q => ?_) (fun q => ?_)
      · rw [if_pos q] at h
        refine lv_iconst (v := (1 : Int32)) hx hb dX6_makePeace_86 (by decide) ?_
        refine lv_goto (tgt := 91) hx hb dX6_makePeace_87 (by decide) ?_
        exact w_X6_makePeace_91 C0 t hT x1 x2 k4 hk4 (1 : Int32) M h H locs ls hP hS (lv_sub hl [1, 2, 3] rfl)
      · rw [if_neg q] at h
        refine lv_iload hx hb dX6_makePeace_81 (lv_at hl 0 rfl) ?_
        refine lv_if_lt (tgt := 90) hx hb dX6_makePeace_83 (by decide) (fun q => ?_) (fun q => ?_)
        · rw [if_pos q] at h
          refine lv_iconst (v := (0 : Int32)) hx hb dX6_makePeace_90 (by decide) ?_
          exact w_X6_makePeace_91 C0 t hT x1 x2 k4 hk4 (0 : Int32) M h H locs ls hP hS (lv_sub hl [1, 2, 3] rfl)
        · rw [if_neg q] at h
          refine lv_iconst (v := (1 : Int32)) hx hb dX6_makePeace_86 (by decide) ?_
          refine lv_goto (tgt := 91) hx hb dX6_makePeace_87 (by decide) ?_
          exact w_X6_makePeace_91 C0 t hT x1 x2 k4 hk4 (1 : Int32) M h H locs ls hP hS (lv_sub hl [1, 2, 3] rfl)
    · rw [if_neg q] at h
      refine lv_aload_n hx hb dX6_makePeace_61 rfl (lv_at hl 1 rfl) ?_
      refine lv_iload_n hx hb dX6_makePeace_62 rfl (lv_at hl 2 rfl) ?_
      refine lv_iload hx hb dX6_makePeace_63 (lv_at hl 0 rfl) ?_
      refine lv_bipush (v := (8 : Int32)) hx hb dX6_makePeace_65 (by decide) ?_
      obtain ⟨hi, h⟩ := s_div_inv h
      refine lv_idiv hx hb dX6_makePeace_67 hi ?_
      refine lv_topi (fun v67 ev => ?_)
      replace h := h v67 ev
      refine lv_iload hx hb dX6_makePeace_68 (lv_at hl 0 rfl) ?_
      refine lv_bipush (v := (8 : Int32)) hx hb dX6_makePeace_70 (by decide) ?_
      obtain ⟨hi, h⟩ := s_rem_inv h
      refine lv_irem hx hb dX6_makePeace_72 hi ?_
      refine lv_topi (fun v72 ev => ?_)
      replace h := h v72 ev
      obtain ⟨u73, M73, h1, h⟩ := s_call_inv h
      refine me_callVv (As := [.int x1, .int v67, .int v72]) (rest := []) ⟨hx, hb, hml, hown, hts⟩ (c_X6_bothBow hT h1) (cwV 3 hts gX6_makePeace_X6_bothBow rfl rfl rfl hd_X6_bothBow ⟨(Nat.le_of_ble_eq_true rfl), (Nat.le_of_ble_eq_true rfl)⟩) hK hI hP hS hT.1 rfl rfl hl.1 rfl (Nat.le_of_ble_eq_true rfl) dX6_makePeace_73 ⟨Nat.zero_le _, Nat.zero_le _⟩ (fun H locs hP hS => ?_)
      refine lv_iload hx hb dX6_makePeace_76 (lv_at hl 4 rfl) ?_
      refine lv_if_ge (tgt := 86) hx hb dX6_makePeace_78 (by decide) (fun q => ?_) (fun q => ?_)
      · rw [if_pos q] at h
        refine lv_iconst (v := (1 : Int32)) hx hb dX6_makePeace_86 (by decide) ?_
        refine lv_goto (tgt := 91) hx hb dX6_makePeace_87 (by decide) ?_
        exact w_X6_makePeace_91 C0 t hT x1 x2 k4 hk4 (1 : Int32) M73 h H locs ls hP hS (lv_sub hl [1, 2, 3] rfl)
      · rw [if_neg q] at h
        refine lv_iload hx hb dX6_makePeace_81 (lv_at hl 0 rfl) ?_
        refine lv_if_lt (tgt := 90) hx hb dX6_makePeace_83 (by decide) (fun q => ?_) (fun q => ?_)
        · rw [if_pos q] at h
          refine lv_iconst (v := (0 : Int32)) hx hb dX6_makePeace_90 (by decide) ?_
          exact w_X6_makePeace_91 C0 t hT x1 x2 k4 hk4 (0 : Int32) M73 h H locs ls hP hS (lv_sub hl [1, 2, 3] rfl)
        · rw [if_neg q] at h
          refine lv_iconst (v := (1 : Int32)) hx hb dX6_makePeace_86 (by decide) ?_
          refine lv_goto (tgt := 91) hx hb dX6_makePeace_87 (by decide) ?_
          exact w_X6_makePeace_91 C0 t hT x1 x2 k4 hk4 (1 : Int32) M73 h H locs ls hP hS (lv_sub hl [1, 2, 3] rfl)
  · rw [if_neg q] at h
    refine lv_aload_n hx hb dX6_makePeace_37 rfl (lv_at hl 1 rfl) ?_
    refine lv_iload_n hx hb dX6_makePeace_38 rfl (lv_at hl 2 rfl) ?_
    refine lv_iconst (v := (1 : Int32)) hx hb dX6_makePeace_39 (by decide) ?_
    refine lv_iload hx hb dX6_makePeace_40 (lv_at hl 4 rfl) ?_
    refine lv_bipush (v := (8 : Int32)) hx hb dX6_makePeace_42 (by decide) ?_
    obtain ⟨hi, h⟩ := s_div_inv h
    refine lv_idiv hx hb dX6_makePeace_44 hi ?_
    refine lv_topi (fun v44 ev => ?_)
    replace h := h v44 ev
    refine lv_iload hx hb dX6_makePeace_45 (lv_at hl 4 rfl) ?_
    refine lv_bipush (v := (8 : Int32)) hx hb dX6_makePeace_47 (by decide) ?_
    obtain ⟨hi, h⟩ := s_rem_inv h
    refine lv_irem hx hb dX6_makePeace_49 hi ?_
    refine lv_topi (fun v49 ev => ?_)
    replace h := h v49 ev
    obtain ⟨u50, M50, h1, h⟩ := s_call_inv h
    refine me_callVv (As := [.int x1, .int (1 : Int32), .int v44, .int v49]) (rest := []) ⟨hx, hb, hml, hown, hts⟩ (c_X6_doAct hT h1) (cwV 4 hts gX6_makePeace_X6_doAct rfl rfl rfl hd_X6_doAct ⟨(Nat.le_of_ble_eq_true rfl), (Nat.le_of_ble_eq_true rfl)⟩) hK hI hP hS hT.1 rfl rfl hl.1 rfl (Nat.le_of_ble_eq_true rfl) dX6_makePeace_50 ⟨Nat.zero_le _, Nat.zero_le _⟩ (fun H locs hP hS => ?_)
    refine lv_goto (tgt := 76) hx hb dX6_makePeace_53 (by decide) ?_
    refine lv_iload hx hb dX6_makePeace_76 (lv_at hl 4 rfl) ?_
    refine lv_if_ge (tgt := 86) hx hb dX6_makePeace_78 (by decide) (fun q => ?_) (fun q => ?_)
    · rw [if_pos q] at h
      refine lv_iconst (v := (1 : Int32)) hx hb dX6_makePeace_86 (by decide) ?_
      refine lv_goto (tgt := 91) hx hb dX6_makePeace_87 (by decide) ?_
      exact w_X6_makePeace_91 C0 t hT x1 x2 k4 hk4 (1 : Int32) M50 h H locs ls hP hS (lv_sub hl [1, 2, 3] rfl)
    · rw [if_neg q] at h
      refine lv_iload hx hb dX6_makePeace_81 (lv_at hl 0 rfl) ?_
      refine lv_if_lt (tgt := 90) hx hb dX6_makePeace_83 (by decide) (fun q => ?_) (fun q => ?_)
      · rw [if_pos q] at h
        refine lv_iconst (v := (0 : Int32)) hx hb dX6_makePeace_90 (by decide) ?_
        exact w_X6_makePeace_91 C0 t hT x1 x2 k4 hk4 (0 : Int32) M50 h H locs ls hP hS (lv_sub hl [1, 2, 3] rfl)
      · rw [if_neg q] at h
        refine lv_iconst (v := (1 : Int32)) hx hb dX6_makePeace_86 (by decide) ?_
        refine lv_goto (tgt := 91) hx hb dX6_makePeace_87 (by decide) ?_
        exact w_X6_makePeace_91 C0 t hT x1 x2 k4 hk4 (1 : Int32) M50 h H locs ls hP hS (lv_sub hl [1, 2, 3] rfl)
set_option maxRecDepth 100000 in
set_option maxHeartbeats 4000000 in
theorem w_X6_makePeace_4 {p : Program} {l : Launch} {e : Env} {s : State} {m : MethodId} {args : Array Value} {below : List Frame} {meth : Method} {c : Code} {D : va_G} {cI : ClassId} {ad : Nat → Nat} {L : List CDs} {r : Int32} {M' : Mem} (C0 : me_X p s m args meth c cX6_makePeace 6 (some .int) wsX6_makePeace RX6 D cI ad L) (t : Nat) (hT : is_X6 L t) (x1 : Int32) : ∀ (n : Nat) (x2 : Int32) (x3 : Int32) (M : Mem), X6_makePeace_4 t x1 n x2 x3 M = some (r, M') → me_W p l e rmX6_makePeace s m args below meth c D cI ad L (some (.int r)) M' 6 4 [(0, .ref (ad t)), (1, .int x1), (2, .int x2), (3, .int x3)] [] M := by
  obtain ⟨hx, hb, hr, hml, hown, hts, hlk, hK, hI⟩ := id C0
  intro n
  induction n with
  | zero =>
    intro x2 x3 M h
    rw [X6_makePeace_4] at h
    cases h
  | succ n ih =>
    intro x2 x3 M h
    rw [X6_makePeace_4] at h
    intro H locs ls hP hS hl
    refine lv_iload_n hx hb dX6_makePeace_4 rfl (lv_at hl 3 rfl) ?_
    refine lv_if_eq (tgt := 107) hx hb dX6_makePeace_5 (by decide) (fun q => ?_) (fun q => ?_)
    · rw [if_pos q] at h
      refine lv_iload_n hx hb dX6_makePeace_107 rfl (lv_at hl 2 rfl) ?_
      exact me_iret hx hb hr hlk hP hS h dX6_makePeace_108
    · rw [if_neg q] at h
      refine lv_aload_n hx hb dX6_makePeace_8 rfl (lv_at hl 0 rfl) ?_
      refine lv_iload_n hx hb dX6_makePeace_9 rfl (lv_at hl 1 rfl) ?_
      obtain ⟨v10, M10, h1, h⟩ := s_call_inv h
      refine me_callVi (As := [.int x1]) (rest := []) ⟨hx, hb, hml, hown, hts⟩ (c_X6_firstBow hT h1) (cwV 1 hts gX6_makePeace_X6_firstBow rfl rfl rfl hd_X6_firstBow ⟨(Nat.le_of_ble_eq_true rfl), (Nat.le_of_ble_eq_true rfl)⟩) hK hI hP hS hT.1 rfl rfl hl.1 rfl (Nat.le_of_ble_eq_true rfl) dX6_makePeace_10 ⟨Nat.zero_le _, Nat.zero_le _⟩ (fun H locs hP hS => ?_)
      refine lv_istore (lv' := [(4, .int v10), (0, .ref (ad t)), (1, .int x1), (2, .int x2), (3, .int x3)]) hx hb dX6_makePeace_13 hl (by decide) rfl (fun ls hl => ?_)
      refine lv_iload hx hb dX6_makePeace_15 (lv_at hl 0 rfl) ?_
      refine lv_if_ge (tgt := 28) hx hb dX6_makePeace_17 (by decide) (fun q => ?_) (fun q => ?_)
      · rw [if_pos q] at h
        refine lv_bipush (v := (-4 : Int32)) hx hb dX6_makePeace_28 (by decide) ?_
        exact w_X6_makePeace_30 C0 t hT x1 x2 v10 (X6_makePeace_4 t x1 n) (fun x2 x3 M h => ih x2 x3 M h) (-4 : Int32) M10 h H locs ls hP hS (lv_sub hl [1, 2, 3, 0] rfl)
      · rw [if_neg q] at h
        refine lv_aload_n hx hb dX6_makePeace_20 rfl (lv_at hl 1 rfl) ?_
        refine lv_iload_n hx hb dX6_makePeace_21 rfl (lv_at hl 2 rfl) ?_
        obtain ⟨v22, M22, h1, h⟩ := s_call_inv h
        refine me_callVi (As := [.int x1]) (rest := []) ⟨hx, hb, hml, hown, hts⟩ (c_X6_firstAtOnce hT h1) (cwV 1 hts gX6_makePeace_X6_firstAtOnce rfl rfl rfl hd_X6_firstAtOnce ⟨(Nat.le_of_ble_eq_true rfl), (Nat.le_of_ble_eq_true rfl)⟩) hK hI hP hS hT.1 rfl rfl hl.1 rfl (Nat.le_of_ble_eq_true rfl) dX6_makePeace_22 ⟨Nat.zero_le _, Nat.zero_le _⟩ (fun H locs hP hS => ?_)
        refine lv_goto (tgt := 30) hx hb dX6_makePeace_25 (by decide) ?_
        exact w_X6_makePeace_30 C0 t hT x1 x2 v10 (X6_makePeace_4 t x1 n) (fun x2 x3 M h => ih x2 x3 M h) v22 M22 h H locs ls hP hS (lv_sub hl [1, 2, 3, 0] rfl)
set_option maxRecDepth 100000 in
set_option maxHeartbeats 4000000 in
theorem w_X6_makePeace {p : Program} {l : Launch} {e : Env} {s : State} {m : MethodId} {args : Array Value} {below : List Frame} {meth : Method} {c : Code} {D : va_G} {cI : ClassId} {ad : Nat → Nat} {L : List CDs} {r : Int32} {M' : Mem} (C0 : me_X p s m args meth c cX6_makePeace 6 (some .int) wsX6_makePeace RX6 D cI ad L) (t : Nat) (hT : is_X6 L t) (x1 : Int32) : ∀  (M : Mem), X6_makePeace t x1 M = some (r, M') → me_W p l e rmX6_makePeace s m args below meth c D cI ad L (some (.int r)) M' 6 0 [(0, .ref (ad t)), (1, .int x1)] [] M := by
  obtain ⟨hx, hb, hr, hml, hown, hts, hlk, hK, hI⟩ := id C0
  intro M h
  unfold X6_makePeace at h
  intro H locs ls hP hS hl
  refine lv_iconst (v := (0 : Int32)) hx hb dX6_makePeace_0 (by decide) ?_
  refine lv_istore_n (lv' := [(2, .int (0 : Int32)), (0, .ref (ad t)), (1, .int x1)]) hx hb dX6_makePeace_1 rfl hl (by decide) rfl (fun ls hl => ?_)
  refine lv_iconst (v := (1 : Int32)) hx hb dX6_makePeace_2 (by decide) ?_
  refine lv_istore_n (lv' := [(3, .int (1 : Int32)), (2, .int (0 : Int32)), (0, .ref (ad t)), (1, .int x1)]) hx hb dX6_makePeace_3 rfl hl (by decide) rfl (fun ls hl => ?_)
  exact w_X6_makePeace_4 C0 t hT x1 FU (0 : Int32) (1 : Int32) M h H locs ls hP hS (lv_sub hl [2, 3, 1, 0] rfl)
theorem c_X6_makePeace {l : Launch} {D : va_G} {cI : ClassId} {ad : Nat → Nat} {L : List CDs} {t : Nat} (hT : is_X6 L t) {x1 : Int32} {M M' : Mem} {r : Int32} (h : X6_makePeace t x1 M = some (r, M')) : me_Met l yX6_makePeace wsX6_makePeace rmX6_makePeace D cI ad L [.ref (ad t), .int x1] (some (.int r)) M M' :=
  me_ofW (by decide) rfl (Nat.le_of_ble_eq_true rfl) (fun p e s m below meth c C0 => w_X6_makePeace C0 t hT x1 M h)
abbrev rmX6_owedBehind : Room := { frames := 6, cells := 0, slots := 0, locals := 139 }
theorem hd_X6_owedBehind : yX6_owedBehind.cls = RX6 ∧ yX6_owedBehind.cls ≠ "java/lang/invoke/MethodHandle" ∧ yX6_owedBehind.cls ≠ "java/lang/invoke/VarHandle" ∧ (parseMethodDescriptor yX6_owedBehind.desc).map (fun d => d.parameters.length) = some 1 := by decide +kernel
set_option maxRecDepth 100000 in
set_option maxHeartbeats 4000000 in
theorem w_X6_owedBehind {p : Program} {l : Launch} {e : Env} {s : State} {m : MethodId} {args : Array Value} {below : List Frame} {meth : Method} {c : Code} {D : va_G} {cI : ClassId} {ad : Nat → Nat} {L : List CDs} {r : Int32} {M' : Mem} (C0 : me_X p s m args meth c cX6_owedBehind 2 (some .int) wsX6_owedBehind RX6 D cI ad L) (t : Nat) (hT : is_X6 L t) (x1 : Int32) : ∀  (M : Mem), X6_owedBehind t x1 M = some (r, M') → me_W p l e rmX6_owedBehind s m args below meth c D cI ad L (some (.int r)) M' 2 0 [(0, .ref (ad t)), (1, .int x1)] [] M := by
  obtain ⟨hx, hb, hr, hml, hown, hts, hlk, hK, hI⟩ := id C0
  intro M h
  unfold X6_owedBehind at h
  intro H locs ls hP hS hl
  refine lv_aload_n hx hb dX6_owedBehind_0 rfl (lv_at hl 0 rfl) ?_
  refine lv_iload_n hx hb dX6_owedBehind_1 rfl (lv_at hl 1 rfl) ?_
  refine lv_iconst (v := (2 : Int32)) hx hb dX6_owedBehind_2 (by decide) ?_
  obtain ⟨u3, M3, h1, h⟩ := s_call_inv h
  refine me_callVv (As := [.int x1, .int (2 : Int32)]) (rest := []) ⟨hx, hb, hml, hown, hts⟩ (c_X6_copy hT h1) (cwV 2 hts gX6_owedBehind_X6_copy rfl rfl rfl hd_X6_copy ⟨(Nat.le_of_ble_eq_true rfl), (Nat.le_of_ble_eq_true rfl)⟩) hK hI hP hS hT.1 rfl rfl hl.1 rfl (Nat.le_of_ble_eq_true rfl) dX6_owedBehind_3 ⟨Nat.zero_le _, Nat.zero_le _⟩ (fun H locs hP hS => ?_)
  refine lv_aload_n hx hb dX6_owedBehind_6 rfl (lv_at hl 0 rfl) ?_
  refine lv_iconst (v := (2 : Int32)) hx hb dX6_owedBehind_7 (by decide) ?_
  obtain ⟨v8, M8, h1, h⟩ := s_call_inv h
  refine me_callVi (As := [.int (2 : Int32)]) (rest := []) ⟨hx, hb, hml, hown, hts⟩ (c_X6_makePeace hT h1) (cwV 1 hts gX6_owedBehind_X6_makePeace rfl rfl rfl hd_X6_makePeace ⟨(Nat.le_of_ble_eq_true rfl), (Nat.le_of_ble_eq_true rfl)⟩) hK hI hP hS hT.1 rfl rfl hl.1 rfl (Nat.le_of_ble_eq_true rfl) dX6_owedBehind_8 ⟨Nat.zero_le _, Nat.zero_le _⟩ (fun H locs hP hS => ?_)
  refine lv_pop hx hb dX6_owedBehind_11 rfl ?_
  refine lv_aload_n hx hb dX6_owedBehind_12 rfl (lv_at hl 0 rfl) ?_
  refine lv_iconst (v := (2 : Int32)) hx hb dX6_owedBehind_13 (by decide) ?_
  obtain ⟨v14, M14, h1, h⟩ := s_call_inv h
  refine me_callVi (As := [.int (2 : Int32)]) (rest := []) ⟨hx, hb, hml, hown, hts⟩ (c_X6_allOf hT h1) (cwV 1 hts gX6_owedBehind_X6_allOf rfl rfl rfl hd_X6_allOf ⟨(Nat.le_of_ble_eq_true rfl), (Nat.le_of_ble_eq_true rfl)⟩) hK hI hP hS hT.1 rfl rfl hl.1 rfl (Nat.le_of_ble_eq_true rfl) dX6_owedBehind_14 ⟨Nat.zero_le _, Nat.zero_le _⟩ (fun H locs hP hS => ?_)
  exact me_iret hx hb hr hlk hP hS h dX6_owedBehind_17
theorem c_X6_owedBehind {l : Launch} {D : va_G} {cI : ClassId} {ad : Nat → Nat} {L : List CDs} {t : Nat} (hT : is_X6 L t) {x1 : Int32} {M M' : Mem} {r : Int32} (h : X6_owedBehind t x1 M = some (r, M')) : me_Met l yX6_owedBehind wsX6_owedBehind rmX6_owedBehind D cI ad L [.ref (ad t), .int x1] (some (.int r)) M M' :=
  me_ofW (by decide) rfl (Nat.le_of_ble_eq_true rfl) (fun p e s m below meth c C0 => w_X6_owedBehind C0 t hT x1 M h)
abbrev rmX6_peace : Room := { frames := 6, cells := 0, slots := 0, locals := 139 }
theorem kX6_peace_c98 : (Cond.constantLong RX6 98 (2)) ∈ wsX6_peace := List.mem_of_getElem? (i := 1) rfl
theorem hd_X6_peace : yX6_peace.cls = RX6 ∧ yX6_peace.cls ≠ "java/lang/invoke/MethodHandle" ∧ yX6_peace.cls ≠ "java/lang/invoke/VarHandle" ∧ (parseMethodDescriptor yX6_peace.desc).map (fun d => d.parameters.length) = some 1 := by decide +kernel
set_option maxRecDepth 100000 in
set_option maxHeartbeats 4000000 in
theorem w_X6_peace_31 {p : Program} {l : Launch} {e : Env} {s : State} {m : MethodId} {args : Array Value} {below : List Frame} {meth : Method} {c : Code} {D : va_G} {cI : ClassId} {ad : Nat → Nat} {L : List CDs} {r : Int32} {M' : Mem} (C0 : me_X p s m args meth c cX6_peace 5 (some .int) wsX6_peace RX6 D cI ad L) (t : Nat) (hT : is_X6 L t) (x1 : Int32) (x2 : Int32) : ∀ (n : Nat) (x3 : Int32) (x4 : Int32) (M : Mem), X6_peace_31 t x1 x2 n x3 x4 M = some (r, M') → me_W p l e rmX6_peace s m args below meth c D cI ad L (some (.int r)) M' 5 31 [(0, .ref (ad t)), (1, .int x1), (2, .int x2), (3, .int x3), (4, .int x4)] [] M := by
  obtain ⟨hx, hb, hr, hml, hown, hts, hlk, hK, hI⟩ := id C0
  intro n
  induction n with
  | zero =>
    intro x3 x4 M h
    rw [X6_peace_31] at h
    cases h
  | succ n ih =>
    intro x3 x4 M h
    rw [X6_peace_31] at h
    intro H locs ls hP hS hl
    refine lv_iload hx hb dX6_peace_31 (lv_at hl 4 rfl) ?_
    refine lv_bipush (v := (8 : Int32)) hx hb dX6_peace_33 (by decide) ?_
    refine lv_icmp_ge (tgt := 73) hx hb dX6_peace_35 (by decide) (fun q => ?_) (fun q => ?_)
    · rw [if_pos q] at h
      refine lv_iload_n hx hb dX6_peace_73 rfl (lv_at hl 1 rfl) ?_
      refine lv_if_ne (tgt := 81) hx hb dX6_peace_74 (by decide) (fun q => ?_) (fun q => ?_)
      · rw [if_pos q] at h
        refine lv_iload_n hx hb dX6_peace_81 rfl (lv_at hl 1 rfl) ?_
        refine lv_iconst (v := (1 : Int32)) hx hb dX6_peace_82 (by decide) ?_
        refine lv_icmp_ne (tgt := 94) hx hb dX6_peace_83 (by decide) (fun q => ?_) (fun q => ?_)
        · rw [if_pos q] at h
          refine lv_iload_n hx hb dX6_peace_94 rfl (lv_at hl 3 rfl) ?_
          exact me_iret hx hb hr hlk hP hS h dX6_peace_95
        · rw [if_neg (not_not_intro q)] at h
          refine lv_aload_n hx hb dX6_peace_86 rfl (lv_at hl 0 rfl) ?_
          refine lv_iconst (v := (1 : Int32)) hx hb dX6_peace_87 (by decide) ?_
          obtain ⟨v88, M88, h1, h⟩ := s_call_inv h
          refine me_callVi (As := [.int (1 : Int32)]) (rest := []) ⟨hx, hb, hml, hown, hts⟩ (c_X6_allOf hT h1) (cwV 1 hts gX6_peace_X6_allOf rfl rfl rfl hd_X6_allOf ⟨(Nat.le_of_ble_eq_true rfl), (Nat.le_of_ble_eq_true rfl)⟩) hK hI hP hS hT.1 rfl rfl hl.1 rfl (Nat.le_of_ble_eq_true rfl) dX6_peace_88 ⟨Nat.zero_le _, Nat.zero_le _⟩ (fun H locs hP hS => ?_)
          refine lv_goto (tgt := 95) hx hb dX6_peace_91 (by decide) ?_
          exact me_iret hx hb hr hlk hP hS h dX6_peace_95
      · rw [if_neg (not_not_intro q)] at h
        refine lv_iload_n hx hb dX6_peace_77 rfl (lv_at hl 2 rfl) ?_
        refine lv_goto (tgt := 95) hx hb dX6_peace_78 (by decide) ?_
        exact me_iret hx hb hr hlk hP hS h dX6_peace_95
    · rw [if_neg q] at h
      refine lv_iload_n hx hb dX6_peace_38 rfl (lv_at hl 3 rfl) ?_
      refine lv_aload_n hx hb dX6_peace_39 rfl (lv_at hl 0 rfl) ?_
      refine lv_iconst (v := (1 : Int32)) hx hb dX6_peace_40 (by decide) ?_
      refine lv_iload hx hb dX6_peace_41 (lv_at hl 4 rfl) ?_
      obtain ⟨v43, M43, h1, h⟩ := s_call_inv h
      refine me_callVi (As := [.int (1 : Int32), .int x4]) (rest := [.int x3]) ⟨hx, hb, hml, hown, hts⟩ (c_X6_debtsOf hT h1) (cwV 2 hts gX6_peace_X6_debtsOf rfl rfl rfl hd_X6_debtsOf ⟨(Nat.le_of_ble_eq_true rfl), (Nat.le_of_ble_eq_true rfl)⟩) hK hI hP hS hT.1 rfl rfl hl.1 rfl (Nat.le_of_ble_eq_true rfl) dX6_peace_43 ⟨Nat.zero_le _, Nat.zero_le _⟩ (fun H locs hP hS => ?_)
      refine lv_aload_n hx hb dX6_peace_46 rfl (lv_at hl 0 rfl) ?_
      refine lv_iconst (v := (1 : Int32)) hx hb dX6_peace_47 (by decide) ?_
      refine lv_iload hx hb dX6_peace_48 (lv_at hl 4 rfl) ?_
      obtain ⟨v50, M50, h1, h⟩ := s_call_inv h
      refine me_callVi (As := [.int (1 : Int32), .int x4]) (rest := [.int v43, .int x3]) ⟨hx, hb, hml, hown, hts⟩ (c_X6_owedTo hT h1) (cwV 2 hts gX6_peace_X6_owedTo rfl rfl rfl hd_X6_owedTo ⟨(Nat.le_of_ble_eq_true rfl), (Nat.le_of_ble_eq_true rfl)⟩) hK hI hP hS hT.1 rfl rfl hl.1 rfl (Nat.le_of_ble_eq_true rfl) dX6_peace_50 ⟨Nat.zero_le _, Nat.zero_le _⟩ (fun H locs hP hS => ?_)
      refine lv_iadd hx hb dX6_peace_53 ?_
      refine lv_if_le (tgt := 64) hx hb dX6_peace_54 (by decide) (fun q => ?_) (fun q => ?_)
      · rw [if_pos q] at h
        refine lv_iconst (v := (0 : Int32)) hx hb dX6_peace_64 (by decide) ?_
        refine lv_ior hx hb dX6_peace_65 ?_
        refine lv_topi (fun x3_66 ev => ?_)
        replace h := s_let_inv h x3_66 ev
        refine lv_istore_n (lv' := [(3, .int x3_66), (0, .ref (ad t)), (1, .int x1), (2, .int x2), (4, .int x4)]) hx hb dX6_peace_66 rfl hl (by decide) rfl (fun ls hl => ?_)
        refine lv_iinc (k := 4) (v := (x4 + (1 : Int32))) (lv' := [(4, .int (x4 + (1 : Int32))), (3, .int x3_66), (0, .ref (ad t)), (1, .int x1), (2, .int x2)]) hx hb dX6_peace_67 hl rfl rfl (by decide) rfl (fun ls hl => ?_)
        refine lv_goto (tgt := 31) hx hb dX6_peace_70 (by decide) ?_
        exact ih x3_66 (x4 + (1 : Int32)) M50 h H locs ls hP hS (lv_sub hl [2, 3, 4, 1, 0] rfl)
      · rw [if_neg q] at h
        refine lv_iconst (v := (1 : Int32)) hx hb dX6_peace_57 (by decide) ?_
        refine lv_iload hx hb dX6_peace_58 (lv_at hl 4 rfl) ?_
        refine lv_ishl hx hb dX6_peace_60 ?_
        refine lv_goto (tgt := 65) hx hb dX6_peace_61 (by decide) ?_
        refine lv_ior hx hb dX6_peace_65 ?_
        refine lv_topi (fun x3_66 ev => ?_)
        replace h := s_let_inv h x3_66 ev
        refine lv_istore_n (lv' := [(3, .int x3_66), (0, .ref (ad t)), (1, .int x1), (2, .int x2), (4, .int x4)]) hx hb dX6_peace_66 rfl hl (by decide) rfl (fun ls hl => ?_)
        refine lv_iinc (k := 4) (v := (x4 + (1 : Int32))) (lv' := [(4, .int (x4 + (1 : Int32))), (3, .int x3_66), (0, .ref (ad t)), (1, .int x1), (2, .int x2)]) hx hb dX6_peace_67 hl rfl rfl (by decide) rfl (fun ls hl => ?_)
        refine lv_goto (tgt := 31) hx hb dX6_peace_70 (by decide) ?_
        exact ih x3_66 (x4 + (1 : Int32)) M50 h H locs ls hP hS (lv_sub hl [2, 3, 4, 1, 0] rfl)
set_option maxRecDepth 100000 in
set_option maxHeartbeats 4000000 in
theorem w_X6_peace {p : Program} {l : Launch} {e : Env} {s : State} {m : MethodId} {args : Array Value} {below : List Frame} {meth : Method} {c : Code} {D : va_G} {cI : ClassId} {ad : Nat → Nat} {L : List CDs} {r : Int32} {M' : Mem} (C0 : me_X p s m args meth c cX6_peace 5 (some .int) wsX6_peace RX6 D cI ad L) (t : Nat) (hT : is_X6 L t) (x1 : Int32) : ∀  (M : Mem), X6_peace t x1 M = some (r, M') → me_W p l e rmX6_peace s m args below meth c D cI ad L (some (.int r)) M' 5 0 [(0, .ref (ad t)), (1, .int x1)] [] M := by
  obtain ⟨hx, hb, hr, hml, hown, hts, hlk, hK, hI⟩ := id C0
  intro M h
  unfold X6_peace at h
  intro H locs ls hP hS hl
  refine lv_iload_n hx hb dX6_peace_0 rfl (lv_at hl 1 rfl) ?_
  refine lv_i2l (v := (x1).toInt64) hx hb dX6_peace_1 rfl ?_
  refine lv_lconst (v := (0 : Int64)) hx hb dX6_peace_2 (by decide) ?_
  refine lv_ldc2 (v := (2 : Int64)) hx hb hown (hts _ kX6_peace_c98) dX6_peace_3 ?_
  obtain ⟨v6, M6, h1, h⟩ := s_call_inv h
  refine me_callSi (As := [.long ((x1).toInt64), .long (0 : Int64), .long (2 : Int64)]) (rest := []) ⟨hx, hb, hml, hown, hts⟩ (c_X6_in h1) (va_cwS 3 hts gX6_peace_X6_in rfl rfl rfl hd_X6_in.2 ⟨(Nat.le_of_ble_eq_true rfl), (Nat.le_of_ble_eq_true rfl)⟩) hK hI hP hS rfl hl.1 rfl (Nat.le_of_ble_eq_true rfl) dX6_peace_6 ⟨Nat.zero_le _, Nat.zero_le _⟩ (fun H locs hP hS => ?_)
  refine lv_if_ne (tgt := 14) hx hb dX6_peace_9 (by decide) (fun q => ?_) (fun q => ?_)
  · rw [if_pos q] at h
    refine lv_aload_n hx hb dX6_peace_14 rfl (lv_at hl 0 rfl) ?_
    refine lv_iconst (v := (0 : Int32)) hx hb dX6_peace_15 (by decide) ?_
    refine lv_iconst (v := (1 : Int32)) hx hb dX6_peace_16 (by decide) ?_
    obtain ⟨u17, M17, h1, h⟩ := s_call_inv h
    refine me_callVv (As := [.int (0 : Int32), .int (1 : Int32)]) (rest := []) ⟨hx, hb, hml, hown, hts⟩ (c_X6_copy hT h1) (cwV 2 hts gX6_peace_X6_copy rfl rfl rfl hd_X6_copy ⟨(Nat.le_of_ble_eq_true rfl), (Nat.le_of_ble_eq_true rfl)⟩) hK hI hP hS hT.1 rfl rfl hl.1 rfl (Nat.le_of_ble_eq_true rfl) dX6_peace_17 ⟨Nat.zero_le _, Nat.zero_le _⟩ (fun H locs hP hS => ?_)
    refine lv_aload_n hx hb dX6_peace_20 rfl (lv_at hl 0 rfl) ?_
    refine lv_iconst (v := (1 : Int32)) hx hb dX6_peace_21 (by decide) ?_
    obtain ⟨v22, M22, h1, h⟩ := s_call_inv h
    refine me_callVi (As := [.int (1 : Int32)]) (rest := []) ⟨hx, hb, hml, hown, hts⟩ (c_X6_makePeace hT h1) (cwV 1 hts gX6_peace_X6_makePeace rfl rfl rfl hd_X6_makePeace ⟨(Nat.le_of_ble_eq_true rfl), (Nat.le_of_ble_eq_true rfl)⟩) hK hI hP hS hT.1 rfl rfl hl.1 rfl (Nat.le_of_ble_eq_true rfl) dX6_peace_22 ⟨Nat.zero_le _, Nat.zero_le _⟩ (fun H locs hP hS => ?_)
    refine lv_istore_n (lv' := [(2, .int v22), (0, .ref (ad t)), (1, .int x1)]) hx hb dX6_peace_25 rfl hl (by decide) rfl (fun ls hl => ?_)
    refine lv_iconst (v := (0 : Int32)) hx hb dX6_peace_26 (by decide) ?_
    refine lv_istore_n (lv' := [(3, .int (0 : Int32)), (2, .int v22), (0, .ref (ad t)), (1, .int x1)]) hx hb dX6_peace_27 rfl hl (by decide) rfl (fun ls hl => ?_)
    refine lv_iconst (v := (0 : Int32)) hx hb dX6_peace_28 (by decide) ?_
    refine lv_istore (lv' := [(4, .int (0 : Int32)), (3, .int (0 : Int32)), (2, .int v22), (0, .ref (ad t)), (1, .int x1)]) hx hb dX6_peace_29 hl (by decide) rfl (fun ls hl => ?_)
    exact w_X6_peace_31 C0 t hT x1 v22 FU (0 : Int32) (0 : Int32) M22 h H locs ls hP hS (lv_sub hl [3, 4, 2, 1, 0] rfl)
  · rw [if_neg (not_not_intro q)] at h
    refine lv_iconst (v := (-1 : Int32)) hx hb dX6_peace_12 (by decide) ?_
    exact me_iret hx hb hr hlk hP hS h dX6_peace_13
theorem c_X6_peace {l : Launch} {D : va_G} {cI : ClassId} {ad : Nat → Nat} {L : List CDs} {t : Nat} (hT : is_X6 L t) {x1 : Int32} {M M' : Mem} {r : Int32} (h : X6_peace t x1 M = some (r, M')) : me_Met l yX6_peace wsX6_peace rmX6_peace D cI ad L [.ref (ad t), .int x1] (some (.int r)) M M' :=
  me_ofW (by decide) rfl (Nat.le_of_ble_eq_true rfl) (fun p e s m below meth c C0 => w_X6_peace C0 t hT x1 M h)
abbrev rmX6_layFar : Room := { frames := 0, cells := 0, slots := 0, locals := 0 }
theorem kX6_layFar_f58 : (Cond.fieldLink RX6 58 "LadderOfBowsModel" "far" "[I") ∈ wsX6_layFar := List.mem_of_getElem? (i := 1) rfl
theorem kX6_layFar_f46 : (Cond.fieldLink RX6 46 "LadderOfBowsModel" "debts" "[I") ∈ wsX6_layFar := List.mem_of_getElem? (i := 2) rfl
theorem in_X6_layFar_X6 : ∀ w ∈ wsX60, w ∈ wsX6_layFar := by decide +kernel
theorem hd_X6_layFar : yX6_layFar.cls = RX6 ∧ yX6_layFar.cls ≠ "java/lang/invoke/MethodHandle" ∧ yX6_layFar.cls ≠ "java/lang/invoke/VarHandle" ∧ (parseMethodDescriptor yX6_layFar.desc).map (fun d => d.parameters.length) = some 1 := by decide +kernel
set_option maxRecDepth 100000 in
set_option maxHeartbeats 4000000 in
theorem w_X6_layFar_41 {p : Program} {l : Launch} {e : Env} {s : State} {m : MethodId} {args : Array Value} {below : List Frame} {meth : Method} {c : Code} {D : va_G} {cI : ClassId} {ad : Nat → Nat} {L : List CDs} {r : Unit} {M' : Mem} (C0 : me_X p s m args meth c cX6_layFar 5 none wsX6_layFar RX6 D cI ad L) (t : Nat) (hT : is_X6 L t) (x2 : Int32) (k33 : Int32 → Mem → Option (Unit × Mem)) (hk33 : ∀ (x2 : Int32) (M : Mem), k33 x2 M = some (r, M') → me_W p l e rmX6_layFar s m args below meth c D cI ad L none M' 5 33 [(0, .ref (ad t)), (2, .int x2)] [] M) : ∀ (n : Nat) (x3 : Int32) (M : Mem), X6_layFar_41 t x2 k33 n x3 M = some (r, M') → me_W p l e rmX6_layFar s m args below meth c D cI ad L none M' 5 41 [(0, .ref (ad t)), (2, .int x2), (3, .int x3)] [] M := by
  obtain ⟨hx, hb, hr, hml, hown, hts, hlk, hK, hI⟩ := id C0
  intro n
  induction n with
  | zero =>
    intro x3 M h
    rw [X6_layFar_41] at h
    cases h
  | succ n ih =>
    intro x3 M h
    rw [X6_layFar_41] at h
    intro H locs ls hP hS hl
    refine lv_iload_n hx hb dX6_layFar_41 rfl (lv_at hl 2 rfl) ?_
    refine lv_bipush (v := (64 : Int32)) hx hb dX6_layFar_42 (by decide) ?_
    refine lv_icmp_ge (tgt := 112) hx hb dX6_layFar_44 (by decide) (fun q => ?_) (fun q => ?_)
    · rw [if_pos q] at h
      refine lv_iinc (k := 1) (v := (x2 + (1 : Int32))) (lv' := [(2, .int (x2 + (1 : Int32))), (0, .ref (ad t)), (3, .int x3)]) hx hb dX6_layFar_112 hl rfl rfl (by decide) rfl (fun ls hl => ?_)
      refine lv_goto (tgt := 33) hx hb dX6_layFar_115 (by decide) ?_
      exact hk33 (x2 + (1 : Int32)) M h H locs ls hP hS (lv_sub hl [1, 0] rfl)
    · rw [if_neg q] at h
      refine lv_aload_n hx hb dX6_layFar_47 rfl (lv_at hl 0 rfl) ?_
      refine me_getr (ci := 6) (C := RX6) (T := TX6) (N := 22) hx hb hts in_X6_layFar_X6 hown hK hP hT.1 rfl 20 (by decide) (hts _ kX6_layFar_f58) rfl dX6_layFar_48 ?_
      refine lv_iload_n hx hb dX6_layFar_51 rfl (lv_at hl 2 rfl) ?_
      refine lv_bipush (v := (8 : Int32)) hx hb dX6_layFar_52 (by decide) ?_
      obtain ⟨hi, h⟩ := s_rem_inv h
      refine lv_irem hx hb dX6_layFar_54 hi ?_
      refine lv_topi (fun v54 ev => ?_)
      replace h := h v54 ev
      obtain ⟨hi, h⟩ := s_ald_inv h
      refine me_ald hx hb hK hP hT.2.2.2.2.2.2.2.2.2.2.2.2.2.2.2.2.2.1 hi dX6_layFar_55 (fun v55 ev => ?_)
      replace h := h v55 ev
      refine lv_iconst (v := (1 : Int32)) hx hb dX6_layFar_56 (by decide) ?_
      refine lv_iadd hx hb dX6_layFar_57 ?_
      refine lv_topi (fun x4_58 ev => ?_)
      replace h := s_let_inv h x4_58 ev
      refine lv_istore (lv' := [(4, .int x4_58), (0, .ref (ad t)), (2, .int x2), (3, .int x3)]) hx hb dX6_layFar_58 hl (by decide) rfl (fun ls hl => ?_)
      refine lv_aload_n hx hb dX6_layFar_60 rfl (lv_at hl 1 rfl) ?_
      refine me_getr (ci := 6) (C := RX6) (T := TX6) (N := 22) hx hb hts in_X6_layFar_X6 hown hK hP hT.1 rfl 20 (by decide) (hts _ kX6_layFar_f58) rfl dX6_layFar_61 ?_
      refine lv_iload_n hx hb dX6_layFar_64 rfl (lv_at hl 3 rfl) ?_
      refine lv_bipush (v := (8 : Int32)) hx hb dX6_layFar_65 (by decide) ?_
      obtain ⟨hi, h⟩ := s_div_inv h
      refine lv_idiv hx hb dX6_layFar_67 hi ?_
      refine lv_topi (fun v67 ev => ?_)
      replace h := h v67 ev
      refine lv_aload_n hx hb dX6_layFar_68 rfl (lv_at hl 1 rfl) ?_
      refine me_getr (ci := 6) (C := RX6) (T := TX6) (N := 22) hx hb hts in_X6_layFar_X6 hown hK hP hT.1 rfl 16 (by decide) (hts _ kX6_layFar_f46) rfl dX6_layFar_69 ?_
      refine lv_iload_n hx hb dX6_layFar_72 rfl (lv_at hl 3 rfl) ?_
      obtain ⟨hi, h⟩ := s_ald_inv h
      refine me_ald hx hb hK hP hT.2.2.2.2.2.2.2.2.2.2.2.2.2.1 hi dX6_layFar_73 (fun v73 ev => ?_)
      replace h := h v73 ev
      refine lv_if_le (tgt := 96) hx hb dX6_layFar_74 (by decide) (fun q => ?_) (fun q => ?_)
      · rw [if_pos q] at h
        refine lv_aload_n hx hb dX6_layFar_96 rfl (lv_at hl 1 rfl) ?_
        refine me_getr (ci := 6) (C := RX6) (T := TX6) (N := 22) hx hb hts in_X6_layFar_X6 hown hK hP hT.1 rfl 20 (by decide) (hts _ kX6_layFar_f58) rfl dX6_layFar_97 ?_
        refine lv_iload_n hx hb dX6_layFar_100 rfl (lv_at hl 3 rfl) ?_
        refine lv_bipush (v := (8 : Int32)) hx hb dX6_layFar_101 (by decide) ?_
        obtain ⟨hi, h⟩ := s_div_inv h
        refine lv_idiv hx hb dX6_layFar_103 hi ?_
        refine lv_topi (fun v103 ev => ?_)
        replace h := h v103 ev
        obtain ⟨hi, h⟩ := s_ald_inv h
        refine me_ald hx hb hK hP hT.2.2.2.2.2.2.2.2.2.2.2.2.2.2.2.2.2.1 hi dX6_layFar_104 (fun v104 ev => ?_)
        replace h := h v104 ev
        obtain ⟨hi, h⟩ := s_ast_inv h
        refine me_ast hx hb hK hI hP hS hT.2.2.2.2.2.2.2.2.2.2.2.2.2.2.2.2.2.1 hi dX6_layFar_105 (fun H locs M105 eM hP hS => ?_)
        replace h := h M105 eM
        refine lv_iinc (k := 3) (v := (x3 + (1 : Int32))) (lv' := [(3, .int (x3 + (1 : Int32))), (4, .int x4_58), (0, .ref (ad t)), (2, .int x2)]) hx hb dX6_layFar_106 hl rfl rfl (by decide) rfl (fun ls hl => ?_)
        refine lv_goto (tgt := 41) hx hb dX6_layFar_109 (by decide) ?_
        exact ih (x3 + (1 : Int32)) M105 h H locs ls hP hS (lv_sub hl [2, 3, 0] rfl)
      · rw [if_neg q] at h
        refine lv_iload hx hb dX6_layFar_77 (lv_at hl 0 rfl) ?_
        refine lv_aload_n hx hb dX6_layFar_79 rfl (lv_at hl 1 rfl) ?_
        refine me_getr (ci := 6) (C := RX6) (T := TX6) (N := 22) hx hb hts in_X6_layFar_X6 hown hK hP hT.1 rfl 20 (by decide) (hts _ kX6_layFar_f58) rfl dX6_layFar_80 ?_
        refine lv_iload_n hx hb dX6_layFar_83 rfl (lv_at hl 3 rfl) ?_
        refine lv_bipush (v := (8 : Int32)) hx hb dX6_layFar_84 (by decide) ?_
        obtain ⟨hi, h⟩ := s_div_inv h
        refine lv_idiv hx hb dX6_layFar_86 hi ?_
        refine lv_topi (fun v86 ev => ?_)
        replace h := h v86 ev
        obtain ⟨hi, h⟩ := s_ald_inv h
        refine me_ald hx hb hK hP hT.2.2.2.2.2.2.2.2.2.2.2.2.2.2.2.2.2.1 hi dX6_layFar_87 (fun v87 ev => ?_)
        replace h := h v87 ev
        refine lv_icmp_ge (tgt := 96) hx hb dX6_layFar_88 (by decide) (fun q => ?_) (fun q => ?_)
        · rw [if_pos q] at h
          refine lv_aload_n hx hb dX6_layFar_96 rfl (lv_at hl 1 rfl) ?_
          refine me_getr (ci := 6) (C := RX6) (T := TX6) (N := 22) hx hb hts in_X6_layFar_X6 hown hK hP hT.1 rfl 20 (by decide) (hts _ kX6_layFar_f58) rfl dX6_layFar_97 ?_
          refine lv_iload_n hx hb dX6_layFar_100 rfl (lv_at hl 3 rfl) ?_
          refine lv_bipush (v := (8 : Int32)) hx hb dX6_layFar_101 (by decide) ?_
          obtain ⟨hi, h⟩ := s_div_inv h
          refine lv_idiv hx hb dX6_layFar_103 hi ?_
          refine lv_topi (fun v103 ev => ?_)
          replace h := h v103 ev
          obtain ⟨hi, h⟩ := s_ald_inv h
          refine me_ald hx hb hK hP hT.2.2.2.2.2.2.2.2.2.2.2.2.2.2.2.2.2.1 hi dX6_layFar_104 (fun v104 ev => ?_)
          replace h := h v104 ev
          obtain ⟨hi, h⟩ := s_ast_inv h
          refine me_ast hx hb hK hI hP hS hT.2.2.2.2.2.2.2.2.2.2.2.2.2.2.2.2.2.1 hi dX6_layFar_105 (fun H locs M105 eM hP hS => ?_)
          replace h := h M105 eM
          refine lv_iinc (k := 3) (v := (x3 + (1 : Int32))) (lv' := [(3, .int (x3 + (1 : Int32))), (4, .int x4_58), (0, .ref (ad t)), (2, .int x2)]) hx hb dX6_layFar_106 hl rfl rfl (by decide) rfl (fun ls hl => ?_)
          refine lv_goto (tgt := 41) hx hb dX6_layFar_109 (by decide) ?_
          exact ih (x3 + (1 : Int32)) M105 h H locs ls hP hS (lv_sub hl [2, 3, 0] rfl)
        · rw [if_neg q] at h
          refine lv_iload hx hb dX6_layFar_91 (lv_at hl 0 rfl) ?_
          refine lv_goto (tgt := 105) hx hb dX6_layFar_93 (by decide) ?_
          obtain ⟨hi, h⟩ := s_ast_inv h
          refine me_ast hx hb hK hI hP hS hT.2.2.2.2.2.2.2.2.2.2.2.2.2.2.2.2.2.1 hi dX6_layFar_105 (fun H locs M105 eM hP hS => ?_)
          replace h := h M105 eM
          refine lv_iinc (k := 3) (v := (x3 + (1 : Int32))) (lv' := [(3, .int (x3 + (1 : Int32))), (4, .int x4_58), (0, .ref (ad t)), (2, .int x2)]) hx hb dX6_layFar_106 hl rfl rfl (by decide) rfl (fun ls hl => ?_)
          refine lv_goto (tgt := 41) hx hb dX6_layFar_109 (by decide) ?_
          exact ih (x3 + (1 : Int32)) M105 h H locs ls hP hS (lv_sub hl [2, 3, 0] rfl)
set_option maxRecDepth 100000 in
set_option maxHeartbeats 4000000 in
theorem w_X6_layFar_33 {p : Program} {l : Launch} {e : Env} {s : State} {m : MethodId} {args : Array Value} {below : List Frame} {meth : Method} {c : Code} {D : va_G} {cI : ClassId} {ad : Nat → Nat} {L : List CDs} {r : Unit} {M' : Mem} (C0 : me_X p s m args meth c cX6_layFar 5 none wsX6_layFar RX6 D cI ad L) (t : Nat) (hT : is_X6 L t) : ∀ (n : Nat) (x2 : Int32) (M : Mem), X6_layFar_33 t n x2 M = some (r, M') → me_W p l e rmX6_layFar s m args below meth c D cI ad L none M' 5 33 [(0, .ref (ad t)), (2, .int x2)] [] M := by
  obtain ⟨hx, hb, hr, hml, hown, hts, hlk, hK, hI⟩ := id C0
  intro n
  induction n with
  | zero =>
    intro x2 M h
    rw [X6_layFar_33] at h
    cases h
  | succ n ih =>
    intro x2 M h
    rw [X6_layFar_33] at h
    intro H locs ls hP hS hl
    refine lv_iload_n hx hb dX6_layFar_33 rfl (lv_at hl 1 rfl) ?_
    refine lv_bipush (v := (8 : Int32)) hx hb dX6_layFar_34 (by decide) ?_
    refine lv_icmp_ge (tgt := 118) hx hb dX6_layFar_36 (by decide) (fun q => ?_) (fun q => ?_)
    · rw [if_pos q] at h
      exact me_vret hx hb hr hlk hP hS h dX6_layFar_118
    · rw [if_neg q] at h
      refine lv_iconst (v := (0 : Int32)) hx hb dX6_layFar_39 (by decide) ?_
      refine lv_istore_n (lv' := [(3, .int (0 : Int32)), (0, .ref (ad t)), (2, .int x2)]) hx hb dX6_layFar_40 rfl hl (by decide) rfl (fun ls hl => ?_)
      exact w_X6_layFar_41 C0 t hT x2 (X6_layFar_33 t n) (fun x2 M h => ih x2 M h) FU (0 : Int32) M h H locs ls hP hS (lv_sub hl [1, 2, 0] rfl)
set_option maxRecDepth 100000 in
set_option maxHeartbeats 4000000 in
theorem w_X6_layFar_2 {p : Program} {l : Launch} {e : Env} {s : State} {m : MethodId} {args : Array Value} {below : List Frame} {meth : Method} {c : Code} {D : va_G} {cI : ClassId} {ad : Nat → Nat} {L : List CDs} {r : Unit} {M' : Mem} (C0 : me_X p s m args meth c cX6_layFar 5 none wsX6_layFar RX6 D cI ad L) (t : Nat) (hT : is_X6 L t) (x1 : Int32) : ∀ (n : Nat) (x2 : Int32) (M : Mem), X6_layFar_2 t x1 n x2 M = some (r, M') → me_W p l e rmX6_layFar s m args below meth c D cI ad L none M' 5 2 [(0, .ref (ad t)), (1, .int x1), (2, .int x2)] [] M := by
  obtain ⟨hx, hb, hr, hml, hown, hts, hlk, hK, hI⟩ := id C0
  intro n
  induction n with
  | zero =>
    intro x2 M h
    rw [X6_layFar_2] at h
    cases h
  | succ n ih =>
    intro x2 M h
    rw [X6_layFar_2] at h
    intro H locs ls hP hS hl
    refine lv_iload_n hx hb dX6_layFar_2 rfl (lv_at hl 2 rfl) ?_
    refine lv_bipush (v := (8 : Int32)) hx hb dX6_layFar_3 (by decide) ?_
    refine lv_icmp_ge (tgt := 31) hx hb dX6_layFar_5 (by decide) (fun q => ?_) (fun q => ?_)
    · rw [if_pos q] at h
      refine lv_iconst (v := (0 : Int32)) hx hb dX6_layFar_31 (by decide) ?_
      refine lv_istore_n (lv' := [(2, .int (0 : Int32)), (0, .ref (ad t)), (1, .int x1)]) hx hb dX6_layFar_32 rfl hl (by decide) rfl (fun ls hl => ?_)
      exact w_X6_layFar_33 C0 t hT FU (0 : Int32) M h H locs ls hP hS (lv_sub hl [1, 0] rfl)
    · rw [if_neg q] at h
      refine lv_aload_n hx hb dX6_layFar_8 rfl (lv_at hl 0 rfl) ?_
      refine me_getr (ci := 6) (C := RX6) (T := TX6) (N := 22) hx hb hts in_X6_layFar_X6 hown hK hP hT.1 rfl 20 (by decide) (hts _ kX6_layFar_f58) rfl dX6_layFar_9 ?_
      refine lv_iload_n hx hb dX6_layFar_12 rfl (lv_at hl 2 rfl) ?_
      refine lv_iload_n hx hb dX6_layFar_13 rfl (lv_at hl 2 rfl) ?_
      refine lv_iload_n hx hb dX6_layFar_14 rfl (lv_at hl 1 rfl) ?_
      refine lv_icmp_ne (tgt := 22) hx hb dX6_layFar_15 (by decide) (fun q => ?_) (fun q => ?_)
      · rw [if_pos q] at h
        refine lv_bipush (v := (99 : Int32)) hx hb dX6_layFar_22 (by decide) ?_
        obtain ⟨hi, h⟩ := s_ast_inv h
        refine me_ast hx hb hK hI hP hS hT.2.2.2.2.2.2.2.2.2.2.2.2.2.2.2.2.2.1 hi dX6_layFar_24 (fun H locs M24 eM hP hS => ?_)
        replace h := h M24 eM
        refine lv_iinc (k := 2) (v := (x2 + (1 : Int32))) (lv' := [(2, .int (x2 + (1 : Int32))), (0, .ref (ad t)), (1, .int x1)]) hx hb dX6_layFar_25 hl rfl rfl (by decide) rfl (fun ls hl => ?_)
        refine lv_goto (tgt := 2) hx hb dX6_layFar_28 (by decide) ?_
        exact ih (x2 + (1 : Int32)) M24 h H locs ls hP hS (lv_sub hl [1, 2, 0] rfl)
      · rw [if_neg (not_not_intro q)] at h
        refine lv_iconst (v := (0 : Int32)) hx hb dX6_layFar_18 (by decide) ?_
        refine lv_goto (tgt := 24) hx hb dX6_layFar_19 (by decide) ?_
        obtain ⟨hi, h⟩ := s_ast_inv h
        refine me_ast hx hb hK hI hP hS hT.2.2.2.2.2.2.2.2.2.2.2.2.2.2.2.2.2.1 hi dX6_layFar_24 (fun H locs M24 eM hP hS => ?_)
        replace h := h M24 eM
        refine lv_iinc (k := 2) (v := (x2 + (1 : Int32))) (lv' := [(2, .int (x2 + (1 : Int32))), (0, .ref (ad t)), (1, .int x1)]) hx hb dX6_layFar_25 hl rfl rfl (by decide) rfl (fun ls hl => ?_)
        refine lv_goto (tgt := 2) hx hb dX6_layFar_28 (by decide) ?_
        exact ih (x2 + (1 : Int32)) M24 h H locs ls hP hS (lv_sub hl [1, 2, 0] rfl)
set_option maxRecDepth 100000 in
set_option maxHeartbeats 4000000 in
theorem w_X6_layFar {p : Program} {l : Launch} {e : Env} {s : State} {m : MethodId} {args : Array Value} {below : List Frame} {meth : Method} {c : Code} {D : va_G} {cI : ClassId} {ad : Nat → Nat} {L : List CDs} {r : Unit} {M' : Mem} (C0 : me_X p s m args meth c cX6_layFar 5 none wsX6_layFar RX6 D cI ad L) (t : Nat) (hT : is_X6 L t) (x1 : Int32) : ∀  (M : Mem), X6_layFar t x1 M = some (r, M') → me_W p l e rmX6_layFar s m args below meth c D cI ad L none M' 5 0 [(0, .ref (ad t)), (1, .int x1)] [] M := by
  obtain ⟨hx, hb, hr, hml, hown, hts, hlk, hK, hI⟩ := id C0
  intro M h
  unfold X6_layFar at h
  intro H locs ls hP hS hl
  refine lv_iconst (v := (0 : Int32)) hx hb dX6_layFar_0 (by decide) ?_
  refine lv_istore_n (lv' := [(2, .int (0 : Int32)), (0, .ref (ad t)), (1, .int x1)]) hx hb dX6_layFar_1 rfl hl (by decide) rfl (fun ls hl => ?_)
  exact w_X6_layFar_2 C0 t hT x1 FU (0 : Int32) M h H locs ls hP hS (lv_sub hl [1, 2, 0] rfl)
theorem c_X6_layFar {l : Launch} {D : va_G} {cI : ClassId} {ad : Nat → Nat} {L : List CDs} {t : Nat} (hT : is_X6 L t) {x1 : Int32} {M M' : Mem} {r : Unit} (h : X6_layFar t x1 M = some (r, M')) : me_Met l yX6_layFar wsX6_layFar rmX6_layFar D cI ad L [.ref (ad t), .int x1] none M M' :=
  me_ofW (by decide) rfl (Nat.le_of_ble_eq_true rfl) (fun p e s m below meth c C0 => w_X6_layFar C0 t hT x1 M h)
abbrev rmX6_ring : Room := { frames := 2, cells := 0, slots := 0, locals := 46 }
theorem kX6_ring_f58 : (Cond.fieldLink RX6 58 "LadderOfBowsModel" "far" "[I") ∈ wsX6_ring := List.mem_of_getElem? (i := 1) rfl
theorem in_X6_ring_X6 : ∀ w ∈ wsX60, w ∈ wsX6_ring := by decide +kernel
theorem hd_X6_ring : yX6_ring.cls = RX6 ∧ yX6_ring.cls ≠ "java/lang/invoke/MethodHandle" ∧ yX6_ring.cls ≠ "java/lang/invoke/VarHandle" ∧ (parseMethodDescriptor yX6_ring.desc).map (fun d => d.parameters.length) = some 2 := by decide +kernel
set_option maxRecDepth 100000 in
set_option maxHeartbeats 4000000 in
theorem w_X6_ring_35 {p : Program} {l : Launch} {e : Env} {s : State} {m : MethodId} {args : Array Value} {below : List Frame} {meth : Method} {c : Code} {D : va_G} {cI : ClassId} {ad : Nat → Nat} {L : List CDs} {r : Int32} {M' : Mem} (C0 : me_X p s m args meth c cX6_ring 6 (some .int) wsX6_ring RX6 D cI ad L) (t : Nat) (hT : is_X6 L t) (x1 : Int32) (x2 : Int32) : ∀ (n : Nat) (x3 : Int32) (x4 : Int32) (x5 : Int32) (M : Mem), X6_ring_35 t x1 x2 n x3 x4 x5 M = some (r, M') → me_W p l e rmX6_ring s m args below meth c D cI ad L (some (.int r)) M' 6 35 [(0, .ref (ad t)), (1, .int x1), (2, .int x2), (3, .int x3), (4, .int x4), (5, .int x5)] [] M := by
  obtain ⟨hx, hb, hr, hml, hown, hts, hlk, hK, hI⟩ := id C0
  intro n
  induction n with
  | zero =>
    intro x3 x4 x5 M h
    rw [X6_ring_35] at h
    cases h
  | succ n ih =>
    intro x3 x4 x5 M h
    rw [X6_ring_35] at h
    intro H locs ls hP hS hl
    refine lv_iload hx hb dX6_ring_35 (lv_at hl 5 rfl) ?_
    refine lv_bipush (v := (8 : Int32)) hx hb dX6_ring_37 (by decide) ?_
    refine lv_icmp_ge (tgt := 86) hx hb dX6_ring_39 (by decide) (fun q => ?_) (fun q => ?_)
    · rw [if_pos q] at h
      refine lv_iload hx hb dX6_ring_86 (lv_at hl 4 rfl) ?_
      refine lv_if_lt (tgt := 96) hx hb dX6_ring_88 (by decide) (fun q => ?_) (fun q => ?_)
      · rw [if_pos q] at h
        refine lv_iload hx hb dX6_ring_96 (lv_at hl 4 rfl) ?_
        refine lv_goto (tgt := 102) hx hb dX6_ring_98 (by decide) ?_
        exact me_iret hx hb hr hlk hP hS h dX6_ring_102
      · rw [if_neg q] at h
        refine lv_iload_n hx hb dX6_ring_91 rfl (lv_at hl 2 rfl) ?_
        refine lv_iconst (v := (1 : Int32)) hx hb dX6_ring_92 (by decide) ?_
        refine lv_icmp_ne (tgt := 101) hx hb dX6_ring_93 (by decide) (fun q => ?_) (fun q => ?_)
        · rw [if_pos q] at h
          refine lv_iload_n hx hb dX6_ring_101 rfl (lv_at hl 3 rfl) ?_
          exact me_iret hx hb hr hlk hP hS h dX6_ring_102
        · rw [if_neg (not_not_intro q)] at h
          refine lv_iload hx hb dX6_ring_96 (lv_at hl 4 rfl) ?_
          refine lv_goto (tgt := 102) hx hb dX6_ring_98 (by decide) ?_
          exact me_iret hx hb hr hlk hP hS h dX6_ring_102
    · rw [if_neg q] at h
      refine lv_aload_n hx hb dX6_ring_42 rfl (lv_at hl 0 rfl) ?_
      refine lv_iconst (v := (0 : Int32)) hx hb dX6_ring_43 (by decide) ?_
      refine lv_iload_n hx hb dX6_ring_44 rfl (lv_at hl 1 rfl) ?_
      refine lv_iload hx hb dX6_ring_45 (lv_at hl 5 rfl) ?_
      obtain ⟨v47, M47, h1, h⟩ := s_call_inv h
      refine me_callVi (As := [.int (0 : Int32), .int x1, .int x5]) (rest := []) ⟨hx, hb, hml, hown, hts⟩ (c_X6_debt hT h1) (cwV 3 hts gX6_ring_X6_debt rfl rfl rfl hd_X6_debt ⟨(Nat.le_of_ble_eq_true rfl), (Nat.le_of_ble_eq_true rfl)⟩) hK hI hP hS hT.1 rfl rfl hl.1 rfl (Nat.le_of_ble_eq_true rfl) dX6_ring_47 ⟨Nat.zero_le _, Nat.zero_le _⟩ (fun H locs hP hS => ?_)
      refine lv_if_le (tgt := 80) hx hb dX6_ring_50 (by decide) (fun q => ?_) (fun q => ?_)
      · rw [if_pos q] at h
        refine lv_iinc (k := 5) (v := (x5 + (1 : Int32))) (lv' := [(5, .int (x5 + (1 : Int32))), (0, .ref (ad t)), (1, .int x1), (2, .int x2), (3, .int x3), (4, .int x4)]) hx hb dX6_ring_80 hl rfl rfl (by decide) rfl (fun ls hl => ?_)
        refine lv_goto (tgt := 35) hx hb dX6_ring_83 (by decide) ?_
        exact ih x3 x4 (x5 + (1 : Int32)) M47 h H locs ls hP hS (lv_sub hl [1, 2, 3, 4, 5, 0] rfl)
      · rw [if_neg q] at h
        refine lv_aload_n hx hb dX6_ring_53 rfl (lv_at hl 0 rfl) ?_
        refine me_getr (ci := 6) (C := RX6) (T := TX6) (N := 22) hx hb hts in_X6_ring_X6 hown hK hP hT.1 rfl 20 (by decide) (hts _ kX6_ring_f58) rfl dX6_ring_54 ?_
        refine lv_iload hx hb dX6_ring_57 (lv_at hl 5 rfl) ?_
        obtain ⟨hi, h⟩ := s_ald_inv h
        refine me_ald hx hb hK hP hT.2.2.2.2.2.2.2.2.2.2.2.2.2.2.2.2.2.1 hi dX6_ring_59 (fun v59 ev => ?_)
        replace h := h v59 ev
        refine lv_iconst (v := (1 : Int32)) hx hb dX6_ring_60 (by decide) ?_
        refine lv_iadd hx hb dX6_ring_61 ?_
        refine lv_iload_n hx hb dX6_ring_62 rfl (lv_at hl 3 rfl) ?_
        refine lv_icmp_ge (tgt := 80) hx hb dX6_ring_63 (by decide) (fun q => ?_) (fun q => ?_)
        · rw [if_pos q] at h
          refine lv_iinc (k := 5) (v := (x5 + (1 : Int32))) (lv' := [(5, .int (x5 + (1 : Int32))), (0, .ref (ad t)), (1, .int x1), (2, .int x2), (3, .int x3), (4, .int x4)]) hx hb dX6_ring_80 hl rfl rfl (by decide) rfl (fun ls hl => ?_)
          refine lv_goto (tgt := 35) hx hb dX6_ring_83 (by decide) ?_
          exact ih x3 x4 (x5 + (1 : Int32)) M47 h H locs ls hP hS (lv_sub hl [1, 2, 3, 4, 5, 0] rfl)
        · rw [if_neg q] at h
          refine lv_aload_n hx hb dX6_ring_66 rfl (lv_at hl 0 rfl) ?_
          refine me_getr (ci := 6) (C := RX6) (T := TX6) (N := 22) hx hb hts in_X6_ring_X6 hown hK hP hT.1 rfl 20 (by decide) (hts _ kX6_ring_f58) rfl dX6_ring_67 ?_
          refine lv_iload hx hb dX6_ring_70 (lv_at hl 5 rfl) ?_
          obtain ⟨hi, h⟩ := s_ald_inv h
          refine me_ald hx hb hK hP hT.2.2.2.2.2.2.2.2.2.2.2.2.2.2.2.2.2.1 hi dX6_ring_72 (fun v72 ev => ?_)
          replace h := h v72 ev
          refine lv_iconst (v := (1 : Int32)) hx hb dX6_ring_73 (by decide) ?_
          refine lv_iadd hx hb dX6_ring_74 ?_
          refine lv_topi (fun x3_75 ev => ?_)
          replace h := s_let_inv h x3_75 ev
          refine lv_istore_n (lv' := [(3, .int x3_75), (0, .ref (ad t)), (1, .int x1), (2, .int x2), (4, .int x4), (5, .int x5)]) hx hb dX6_ring_75 rfl hl (by decide) rfl (fun ls hl => ?_)
          refine lv_iload hx hb dX6_ring_76 (lv_at hl 5 rfl) ?_
          refine lv_istore (lv' := [(4, .int x5), (3, .int x3_75), (0, .ref (ad t)), (1, .int x1), (2, .int x2), (5, .int x5)]) hx hb dX6_ring_78 hl (by decide) rfl (fun ls hl => ?_)
          refine lv_iinc (k := 5) (v := (x5 + (1 : Int32))) (lv' := [(5, .int (x5 + (1 : Int32))), (4, .int x5), (3, .int x3_75), (0, .ref (ad t)), (1, .int x1), (2, .int x2)]) hx hb dX6_ring_80 hl rfl rfl (by decide) rfl (fun ls hl => ?_)
          refine lv_goto (tgt := 35) hx hb dX6_ring_83 (by decide) ?_
          exact ih x3_75 x5 (x5 + (1 : Int32)) M47 h H locs ls hP hS (lv_sub hl [3, 4, 5, 2, 1, 0] rfl)
set_option maxRecDepth 100000 in
set_option maxHeartbeats 4000000 in
theorem w_X6_ring {p : Program} {l : Launch} {e : Env} {s : State} {m : MethodId} {args : Array Value} {below : List Frame} {meth : Method} {c : Code} {D : va_G} {cI : ClassId} {ad : Nat → Nat} {L : List CDs} {r : Int32} {M' : Mem} (C0 : me_X p s m args meth c cX6_ring 6 (some .int) wsX6_ring RX6 D cI ad L) (t : Nat) (hT : is_X6 L t) (x1 : Int32) (x2 : Int32) : ∀  (M : Mem), X6_ring t x1 x2 M = some (r, M') → me_W p l e rmX6_ring s m args below meth c D cI ad L (some (.int r)) M' 6 0 [(0, .ref (ad t)), (1, .int x1), (2, .int x2)] [] M := by
  obtain ⟨hx, hb, hr, hml, hown, hts, hlk, hK, hI⟩ := id C0
  intro M h
  unfold X6_ring at h
  intro H locs ls hP hS hl
  refine lv_aload_n hx hb dX6_ring_0 rfl (lv_at hl 0 rfl) ?_
  refine lv_iload_n hx hb dX6_ring_1 rfl (lv_at hl 1 rfl) ?_
  obtain ⟨v2, M2, h1, h⟩ := s_call_inv h
  refine me_callVi (As := [.int x1]) (rest := []) ⟨hx, hb, hml, hown, hts⟩ (c_X6_isPerson hT h1) (cwV 1 hts gX6_ring_X6_isPerson rfl rfl rfl hd_X6_isPerson ⟨(Nat.le_of_ble_eq_true rfl), (Nat.le_of_ble_eq_true rfl)⟩) hK hI hP hS hT.1 rfl rfl hl.1 rfl (Nat.le_of_ble_eq_true rfl) dX6_ring_2 ⟨Nat.zero_le _, Nat.zero_le _⟩ (fun H locs hP hS => ?_)
  refine lv_if_eq (tgt := 18) hx hb dX6_ring_5 (by decide) (fun q => ?_) (fun q => ?_)
  · rw [if_pos q] at h
    refine lv_iconst (v := (-1 : Int32)) hx hb dX6_ring_18 (by decide) ?_
    exact me_iret hx hb hr hlk hP hS h dX6_ring_19
  · rw [if_neg q] at h
    refine lv_iload_n hx hb dX6_ring_8 rfl (lv_at hl 2 rfl) ?_
    refine lv_i2l (v := (x2).toInt64) hx hb dX6_ring_9 rfl ?_
    refine lv_lconst (v := (0 : Int64)) hx hb dX6_ring_10 (by decide) ?_
    refine lv_lconst (v := (1 : Int64)) hx hb dX6_ring_11 (by decide) ?_
    obtain ⟨v12, M12, h1, h⟩ := s_call_inv h
    refine me_callSi (As := [.long ((x2).toInt64), .long (0 : Int64), .long (1 : Int64)]) (rest := []) ⟨hx, hb, hml, hown, hts⟩ (c_X6_in h1) (va_cwS 3 hts gX6_ring_X6_in rfl rfl rfl hd_X6_in.2 ⟨(Nat.le_of_ble_eq_true rfl), (Nat.le_of_ble_eq_true rfl)⟩) hK hI hP hS rfl hl.1 rfl (Nat.le_of_ble_eq_true rfl) dX6_ring_12 ⟨Nat.zero_le _, Nat.zero_le _⟩ (fun H locs hP hS => ?_)
    refine lv_if_ne (tgt := 20) hx hb dX6_ring_15 (by decide) (fun q => ?_) (fun q => ?_)
    · rw [if_pos q] at h
      refine lv_aload_n hx hb dX6_ring_20 rfl (lv_at hl 0 rfl) ?_
      refine lv_iload_n hx hb dX6_ring_21 rfl (lv_at hl 1 rfl) ?_
      obtain ⟨u22, M22, h1, h⟩ := s_call_inv h
      refine me_callVv (As := [.int x1]) (rest := []) ⟨hx, hb, hml, hown, hts⟩ (c_X6_layFar hT h1) (cwV 1 hts gX6_ring_X6_layFar rfl rfl rfl hd_X6_layFar ⟨(Nat.le_of_ble_eq_true rfl), (Nat.le_of_ble_eq_true rfl)⟩) hK hI hP hS hT.1 rfl rfl hl.1 rfl (Nat.le_of_ble_eq_true rfl) dX6_ring_22 ⟨Nat.zero_le _, Nat.zero_le _⟩ (fun H locs hP hS => ?_)
      refine lv_bipush (v := (99 : Int32)) hx hb dX6_ring_25 (by decide) ?_
      refine lv_istore_n (lv' := [(3, .int (99 : Int32)), (0, .ref (ad t)), (1, .int x1), (2, .int x2)]) hx hb dX6_ring_27 rfl hl (by decide) rfl (fun ls hl => ?_)
      refine lv_bipush (v := (-4 : Int32)) hx hb dX6_ring_28 (by decide) ?_
      refine lv_istore (lv' := [(4, .int (-4 : Int32)), (3, .int (99 : Int32)), (0, .ref (ad t)), (1, .int x1), (2, .int x2)]) hx hb dX6_ring_30 hl (by decide) rfl (fun ls hl => ?_)
      refine lv_iconst (v := (0 : Int32)) hx hb dX6_ring_32 (by decide) ?_
      refine lv_istore (lv' := [(5, .int (0 : Int32)), (4, .int (-4 : Int32)), (3, .int (99 : Int32)), (0, .ref (ad t)), (1, .int x1), (2, .int x2)]) hx hb dX6_ring_33 hl (by decide) rfl (fun ls hl => ?_)
      exact w_X6_ring_35 C0 t hT x1 x2 FU (99 : Int32) (-4 : Int32) (0 : Int32) M22 h H locs ls hP hS (lv_sub hl [3, 4, 5, 2, 1, 0] rfl)
    · rw [if_neg (not_not_intro q)] at h
      refine lv_iconst (v := (-1 : Int32)) hx hb dX6_ring_18 (by decide) ?_
      exact me_iret hx hb hr hlk hP hS h dX6_ring_19
theorem c_X6_ring {l : Launch} {D : va_G} {cI : ClassId} {ad : Nat → Nat} {L : List CDs} {t : Nat} (hT : is_X6 L t) {x1 : Int32} {x2 : Int32} {M M' : Mem} {r : Int32} (h : X6_ring t x1 x2 M = some (r, M')) : me_Met l yX6_ring wsX6_ring rmX6_ring D cI ad L [.ref (ad t), .int x1, .int x2] (some (.int r)) M M' :=
  me_ofW (by decide) rfl (Nat.le_of_ble_eq_true rfl) (fun p e s m below meth c C0 => w_X6_ring C0 t hT x1 x2 M h)
abbrev rmX6_forgiven : Room := { frames := 7, cells := 0, slots := 0, locals := 160 }
theorem kX6_forgiven_f46 : (Cond.fieldLink RX6 46 "LadderOfBowsModel" "debts" "[I") ∈ wsX6_forgiven := List.mem_of_getElem? (i := 1) rfl
theorem in_X6_forgiven_X6 : ∀ w ∈ wsX60, w ∈ wsX6_forgiven := by decide +kernel
theorem hd_X6_forgiven : yX6_forgiven.cls = RX6 ∧ yX6_forgiven.cls ≠ "java/lang/invoke/MethodHandle" ∧ yX6_forgiven.cls ≠ "java/lang/invoke/VarHandle" ∧ (parseMethodDescriptor yX6_forgiven.desc).map (fun d => d.parameters.length) = some 1 := by decide +kernel
set_option maxRecDepth 100000 in
set_option maxHeartbeats 4000000 in
theorem w_X6_forgiven_20 {p : Program} {l : Launch} {e : Env} {s : State} {m : MethodId} {args : Array Value} {below : List Frame} {meth : Method} {c : Code} {D : va_G} {cI : ClassId} {ad : Nat → Nat} {L : List CDs} {r : Int32} {M' : Mem} (C0 : me_X p s m args meth c cX6_forgiven 6 (some .int) wsX6_forgiven RX6 D cI ad L) (t : Nat) (hT : is_X6 L t) (x1 : Int32) : ∀ (n : Nat) (x2 : Int32) (x3 : Int32) (x4 : Int32) (M : Mem), X6_forgiven_20 t x1 n x2 x3 x4 M = some (r, M') → me_W p l e rmX6_forgiven s m args below meth c D cI ad L (some (.int r)) M' 6 20 [(0, .ref (ad t)), (1, .int x1), (2, .int x2), (3, .int x3), (4, .int x4)] [] M := by
  obtain ⟨hx, hb, hr, hml, hown, hts, hlk, hK, hI⟩ := id C0
  intro n
  induction n with
  | zero =>
    intro x2 x3 x4 M h
    rw [X6_forgiven_20] at h
    cases h
  | succ n ih =>
    intro x2 x3 x4 M h
    rw [X6_forgiven_20] at h
    intro H locs ls hP hS hl
    refine lv_iload hx hb dX6_forgiven_20 (lv_at hl 4 rfl) ?_
    refine lv_bipush (v := (64 : Int32)) hx hb dX6_forgiven_22 (by decide) ?_
    refine lv_icmp_ge (tgt := 83) hx hb dX6_forgiven_24 (by decide) (fun q => ?_) (fun q => ?_)
    · rw [if_pos q] at h
      refine lv_iload_n hx hb dX6_forgiven_83 rfl (lv_at hl 2 rfl) ?_
      refine lv_if_lt (tgt := 91) hx hb dX6_forgiven_84 (by decide) (fun q => ?_) (fun q => ?_)
      · rw [if_pos q] at h
        refine lv_iload_n hx hb dX6_forgiven_91 rfl (lv_at hl 2 rfl) ?_
        refine lv_goto (tgt := 96) hx hb dX6_forgiven_92 (by decide) ?_
        exact me_iret hx hb hr hlk hP hS h dX6_forgiven_96
      · rw [if_neg q] at h
        refine lv_iload_n hx hb dX6_forgiven_87 rfl (lv_at hl 1 rfl) ?_
        refine lv_if_ne (tgt := 95) hx hb dX6_forgiven_88 (by decide) (fun q => ?_) (fun q => ?_)
        · rw [if_pos q] at h
          refine lv_iload_n hx hb dX6_forgiven_95 rfl (lv_at hl 3 rfl) ?_
          exact me_iret hx hb hr hlk hP hS h dX6_forgiven_96
        · rw [if_neg (not_not_intro q)] at h
          refine lv_iload_n hx hb dX6_forgiven_91 rfl (lv_at hl 2 rfl) ?_
          refine lv_goto (tgt := 96) hx hb dX6_forgiven_92 (by decide) ?_
          exact me_iret hx hb hr hlk hP hS h dX6_forgiven_96
    · rw [if_neg q] at h
      refine lv_aload_n hx hb dX6_forgiven_27 rfl (lv_at hl 0 rfl) ?_
      refine me_getr (ci := 6) (C := RX6) (T := TX6) (N := 22) hx hb hts in_X6_forgiven_X6 hown hK hP hT.1 rfl 16 (by decide) (hts _ kX6_forgiven_f46) rfl dX6_forgiven_28 ?_
      refine lv_iload hx hb dX6_forgiven_31 (lv_at hl 4 rfl) ?_
      obtain ⟨hi, h⟩ := s_ald_inv h
      refine me_ald hx hb hK hP hT.2.2.2.2.2.2.2.2.2.2.2.2.2.1 hi dX6_forgiven_33 (fun v33 ev => ?_)
      replace h := h v33 ev
      refine lv_if_le (tgt := 77) hx hb dX6_forgiven_34 (by decide) (fun q => ?_) (fun q => ?_)
      · rw [if_pos q] at h
        refine lv_iinc (k := 4) (v := (x4 + (1 : Int32))) (lv' := [(4, .int (x4 + (1 : Int32))), (0, .ref (ad t)), (1, .int x1), (2, .int x2), (3, .int x3)]) hx hb dX6_forgiven_77 hl rfl rfl (by decide) rfl (fun ls hl => ?_)
        refine lv_goto (tgt := 20) hx hb dX6_forgiven_80 (by decide) ?_
        exact ih x2 x3 (x4 + (1 : Int32)) M h H locs ls hP hS (lv_sub hl [1, 2, 3, 4, 0] rfl)
      · rw [if_neg q] at h
        refine lv_aload_n hx hb dX6_forgiven_37 rfl (lv_at hl 0 rfl) ?_
        refine lv_iconst (v := (0 : Int32)) hx hb dX6_forgiven_38 (by decide) ?_
        refine lv_iconst (v := (1 : Int32)) hx hb dX6_forgiven_39 (by decide) ?_
        obtain ⟨u40, M40, h1, h⟩ := s_call_inv h
        refine me_callVv (As := [.int (0 : Int32), .int (1 : Int32)]) (rest := []) ⟨hx, hb, hml, hown, hts⟩ (c_X6_copy hT h1) (cwV 2 hts gX6_forgiven_X6_copy rfl rfl rfl hd_X6_copy ⟨(Nat.le_of_ble_eq_true rfl), (Nat.le_of_ble_eq_true rfl)⟩) hK hI hP hS hT.1 rfl rfl hl.1 rfl (Nat.le_of_ble_eq_true rfl) dX6_forgiven_40 ⟨Nat.zero_le _, Nat.zero_le _⟩ (fun H locs hP hS => ?_)
        refine lv_aload_n hx hb dX6_forgiven_43 rfl (lv_at hl 0 rfl) ?_
        refine me_getr (ci := 6) (C := RX6) (T := TX6) (N := 22) hx hb hts in_X6_forgiven_X6 hown hK hP hT.1 rfl 16 (by decide) (hts _ kX6_forgiven_f46) rfl dX6_forgiven_44 ?_
        refine lv_bipush (v := (64 : Int32)) hx hb dX6_forgiven_47 (by decide) ?_
        refine lv_iload hx hb dX6_forgiven_49 (lv_at hl 4 rfl) ?_
        refine lv_iadd hx hb dX6_forgiven_51 ?_
        refine lv_iconst (v := (0 : Int32)) hx hb dX6_forgiven_52 (by decide) ?_
        obtain ⟨hi, h⟩ := s_ast_inv h
        refine me_ast hx hb hK hI hP hS hT.2.2.2.2.2.2.2.2.2.2.2.2.2.1 hi dX6_forgiven_53 (fun H locs M53 eM hP hS => ?_)
        replace h := h M53 eM
        refine lv_aload_n hx hb dX6_forgiven_54 rfl (lv_at hl 0 rfl) ?_
        refine lv_iconst (v := (1 : Int32)) hx hb dX6_forgiven_55 (by decide) ?_
        obtain ⟨v56, M56, h1, h⟩ := s_call_inv h
        refine me_callVi (As := [.int (1 : Int32)]) (rest := []) ⟨hx, hb, hml, hown, hts⟩ (c_X6_owedBehind hT h1) (cwV 1 hts gX6_forgiven_X6_owedBehind rfl rfl rfl hd_X6_owedBehind ⟨(Nat.le_of_ble_eq_true rfl), (Nat.le_of_ble_eq_true rfl)⟩) hK hI hP hS hT.1 rfl rfl hl.1 rfl (Nat.le_of_ble_eq_true rfl) dX6_forgiven_56 ⟨Nat.zero_le _, Nat.zero_le _⟩ (fun H locs hP hS => ?_)
        refine lv_istore (lv' := [(5, .int v56), (0, .ref (ad t)), (1, .int x1), (2, .int x2), (3, .int x3), (4, .int x4)]) hx hb dX6_forgiven_59 hl (by decide) rfl (fun ls hl => ?_)
        refine lv_iload_n hx hb dX6_forgiven_61 rfl (lv_at hl 3 rfl) ?_
        refine lv_if_lt (tgt := 71) hx hb dX6_forgiven_62 (by decide) (fun q => ?_) (fun q => ?_)
        · rw [if_pos q] at h
          refine lv_iload hx hb dX6_forgiven_71 (lv_at hl 5 rfl) ?_
          refine lv_istore_n (lv' := [(2, .int x4), (5, .int v56), (0, .ref (ad t)), (1, .int x1), (3, .int x3), (4, .int x4)]) hx hb dX6_forgiven_73 rfl hl (by decide) rfl (fun ls hl => ?_)
          refine lv_iload hx hb dX6_forgiven_74 (lv_at hl 1 rfl) ?_
          refine lv_istore_n (lv' := [(3, .int v56), (2, .int x4), (5, .int v56), (0, .ref (ad t)), (1, .int x1), (4, .int x4)]) hx hb dX6_forgiven_76 rfl hl (by decide) rfl (fun ls hl => ?_)
          refine lv_iinc (k := 5) (v := (x4 + (1 : Int32))) (lv' := [(4, .int (x4 + (1 : Int32))), (3, .int v56), (2, .int x4), (5, .int v56), (0, .ref (ad t)), (1, .int x1)]) hx hb dX6_forgiven_77 hl rfl rfl (by decide) rfl (fun ls hl => ?_)
          refine lv_goto (tgt := 20) hx hb dX6_forgiven_80 (by decide) ?_
          exact ih x4 v56 (x4 + (1 : Int32)) M56 h H locs ls hP hS (lv_sub hl [4, 5, 2, 1, 0] rfl)
        · rw [if_neg q] at h
          refine lv_iload hx hb dX6_forgiven_65 (lv_at hl 0 rfl) ?_
          refine lv_iload_n hx hb dX6_forgiven_67 rfl (lv_at hl 4 rfl) ?_
          refine lv_icmp_ge (tgt := 77) hx hb dX6_forgiven_68 (by decide) (fun q => ?_) (fun q => ?_)
          · rw [if_pos q] at h
            refine lv_iinc (k := 5) (v := (x4 + (1 : Int32))) (lv' := [(4, .int (x4 + (1 : Int32))), (5, .int v56), (0, .ref (ad t)), (1, .int x1), (2, .int x2), (3, .int x3)]) hx hb dX6_forgiven_77 hl rfl rfl (by decide) rfl (fun ls hl => ?_)
            refine lv_goto (tgt := 20) hx hb dX6_forgiven_80 (by decide) ?_
            exact ih x2 x3 (x4 + (1 : Int32)) M56 h H locs ls hP hS (lv_sub hl [2, 3, 4, 5, 0] rfl)
          · rw [if_neg q] at h
            refine lv_iload hx hb dX6_forgiven_71 (lv_at hl 5 rfl) ?_
            refine lv_istore_n (lv' := [(2, .int x4), (5, .int v56), (0, .ref (ad t)), (1, .int x1), (3, .int x3), (4, .int x4)]) hx hb dX6_forgiven_73 rfl hl (by decide) rfl (fun ls hl => ?_)
            refine lv_iload hx hb dX6_forgiven_74 (lv_at hl 1 rfl) ?_
            refine lv_istore_n (lv' := [(3, .int v56), (2, .int x4), (5, .int v56), (0, .ref (ad t)), (1, .int x1), (4, .int x4)]) hx hb dX6_forgiven_76 rfl hl (by decide) rfl (fun ls hl => ?_)
            refine lv_iinc (k := 5) (v := (x4 + (1 : Int32))) (lv' := [(4, .int (x4 + (1 : Int32))), (3, .int v56), (2, .int x4), (5, .int v56), (0, .ref (ad t)), (1, .int x1)]) hx hb dX6_forgiven_77 hl rfl rfl (by decide) rfl (fun ls hl => ?_)
            refine lv_goto (tgt := 20) hx hb dX6_forgiven_80 (by decide) ?_
            exact ih x4 v56 (x4 + (1 : Int32)) M56 h H locs ls hP hS (lv_sub hl [4, 5, 2, 1, 0] rfl)
set_option maxRecDepth 100000 in
set_option maxHeartbeats 4000000 in
theorem w_X6_forgiven {p : Program} {l : Launch} {e : Env} {s : State} {m : MethodId} {args : Array Value} {below : List Frame} {meth : Method} {c : Code} {D : va_G} {cI : ClassId} {ad : Nat → Nat} {L : List CDs} {r : Int32} {M' : Mem} (C0 : me_X p s m args meth c cX6_forgiven 6 (some .int) wsX6_forgiven RX6 D cI ad L) (t : Nat) (hT : is_X6 L t) (x1 : Int32) : ∀  (M : Mem), X6_forgiven t x1 M = some (r, M') → me_W p l e rmX6_forgiven s m args below meth c D cI ad L (some (.int r)) M' 6 0 [(0, .ref (ad t)), (1, .int x1)] [] M := by
  obtain ⟨hx, hb, hr, hml, hown, hts, hlk, hK, hI⟩ := id C0
  intro M h
  unfold X6_forgiven at h
  intro H locs ls hP hS hl
  refine lv_iload_n hx hb dX6_forgiven_0 rfl (lv_at hl 1 rfl) ?_
  refine lv_i2l (v := (x1).toInt64) hx hb dX6_forgiven_1 rfl ?_
  refine lv_lconst (v := (0 : Int64)) hx hb dX6_forgiven_2 (by decide) ?_
  refine lv_lconst (v := (1 : Int64)) hx hb dX6_forgiven_3 (by decide) ?_
  obtain ⟨v4, M4, h1, h⟩ := s_call_inv h
  refine me_callSi (As := [.long ((x1).toInt64), .long (0 : Int64), .long (1 : Int64)]) (rest := []) ⟨hx, hb, hml, hown, hts⟩ (c_X6_in h1) (va_cwS 3 hts gX6_forgiven_X6_in rfl rfl rfl hd_X6_in.2 ⟨(Nat.le_of_ble_eq_true rfl), (Nat.le_of_ble_eq_true rfl)⟩) hK hI hP hS rfl hl.1 rfl (Nat.le_of_ble_eq_true rfl) dX6_forgiven_4 ⟨Nat.zero_le _, Nat.zero_le _⟩ (fun H locs hP hS => ?_)
  refine lv_if_ne (tgt := 12) hx hb dX6_forgiven_7 (by decide) (fun q => ?_) (fun q => ?_)
  · rw [if_pos q] at h
    refine lv_bipush (v := (-4 : Int32)) hx hb dX6_forgiven_12 (by decide) ?_
    refine lv_istore_n (lv' := [(2, .int (-4 : Int32)), (0, .ref (ad t)), (1, .int x1)]) hx hb dX6_forgiven_14 rfl hl (by decide) rfl (fun ls hl => ?_)
    refine lv_iconst (v := (0 : Int32)) hx hb dX6_forgiven_15 (by decide) ?_
    refine lv_istore_n (lv' := [(3, .int (0 : Int32)), (2, .int (-4 : Int32)), (0, .ref (ad t)), (1, .int x1)]) hx hb dX6_forgiven_16 rfl hl (by decide) rfl (fun ls hl => ?_)
    refine lv_iconst (v := (0 : Int32)) hx hb dX6_forgiven_17 (by decide) ?_
    refine lv_istore (lv' := [(4, .int (0 : Int32)), (3, .int (0 : Int32)), (2, .int (-4 : Int32)), (0, .ref (ad t)), (1, .int x1)]) hx hb dX6_forgiven_18 hl (by decide) rfl (fun ls hl => ?_)
    exact w_X6_forgiven_20 C0 t hT x1 FU (-4 : Int32) (0 : Int32) (0 : Int32) M4 h H locs ls hP hS (lv_sub hl [3, 4, 2, 1, 0] rfl)
  · rw [if_neg (not_not_intro q)] at h
    refine lv_iconst (v := (-1 : Int32)) hx hb dX6_forgiven_10 (by decide) ?_
    exact me_iret hx hb hr hlk hP hS h dX6_forgiven_11
theorem c_X6_forgiven {l : Launch} {D : va_G} {cI : ClassId} {ad : Nat → Nat} {L : List CDs} {t : Nat} (hT : is_X6 L t) {x1 : Int32} {M M' : Mem} {r : Int32} (h : X6_forgiven t x1 M = some (r, M')) : me_Met l yX6_forgiven wsX6_forgiven rmX6_forgiven D cI ad L [.ref (ad t), .int x1] (some (.int r)) M M' :=
  me_ofW (by decide) rfl (Nat.le_of_ble_eq_true rfl) (fun p e s m below meth c C0 => w_X6_forgiven C0 t hT x1 M h)
abbrev rmX6_mustNot : Room := { frames := 7, cells := 0, slots := 0, locals := 160 }
theorem kX6_mustNot_f13 : (Cond.fieldLink RX6 13 "LadderOfBowsModel" "persons" "[I") ∈ wsX6_mustNot := List.mem_of_getElem? (i := 1) rfl
theorem in_X6_mustNot_X6 : ∀ w ∈ wsX60, w ∈ wsX6_mustNot := by decide +kernel
theorem hd_X6_mustNot : yX6_mustNot.cls = RX6 ∧ yX6_mustNot.cls ≠ "java/lang/invoke/MethodHandle" ∧ yX6_mustNot.cls ≠ "java/lang/invoke/VarHandle" ∧ (parseMethodDescriptor yX6_mustNot.desc).map (fun d => d.parameters.length) = some 1 := by decide +kernel
set_option maxRecDepth 100000 in
set_option maxHeartbeats 4000000 in
theorem w_X6_mustNot_33 {p : Program} {l : Launch} {e : Env} {s : State} {m : MethodId} {args : Array Value} {below : List Frame} {meth : Method} {c : Code} {D : va_G} {cI : ClassId} {ad : Nat → Nat} {L : List CDs} {r : Int32} {M' : Mem} (C0 : me_X p s m args meth c cX6_mustNot 5 (some .int) wsX6_mustNot RX6 D cI ad L) (t : Nat) (hT : is_X6 L t) (x1 : Int32) (x2 : Int32) : ∀ (n : Nat) (x3 : Int32) (x4 : Int32) (M : Mem), X6_mustNot_33 t x1 x2 n x3 x4 M = some (r, M') → me_W p l e rmX6_mustNot s m args below meth c D cI ad L (some (.int r)) M' 5 33 [(0, .ref (ad t)), (1, .int x1), (2, .int x2), (3, .int x3), (4, .int x4)] [] M := by
  obtain ⟨hx, hb, hr, hml, hown, hts, hlk, hK, hI⟩ := id C0
  intro n
  induction n with
  | zero =>
    intro x3 x4 M h
    rw [X6_mustNot_33] at h
    cases h
  | succ n ih =>
    intro x3 x4 M h
    rw [X6_mustNot_33] at h
    intro H locs ls hP hS hl
    refine lv_iload hx hb dX6_mustNot_33 (lv_at hl 4 rfl) ?_
    refine lv_aload_n hx hb dX6_mustNot_35 rfl (lv_at hl 0 rfl) ?_
    refine me_getr (ci := 6) (C := RX6) (T := TX6) (N := 22) hx hb hts in_X6_mustNot_X6 hown hK hP hT.1 rfl 2 (by decide) (hts _ kX6_mustNot_f13) rfl dX6_mustNot_36 ?_
    refine lv_iconst (v := (0 : Int32)) hx hb dX6_mustNot_39 (by decide) ?_
    obtain ⟨hi, h⟩ := s_ald_inv h
    refine me_ald hx hb hK hP hT.2.2.1 hi dX6_mustNot_40 (fun v40 ev => ?_)
    replace h := h v40 ev
    refine lv_icmp_ge (tgt := 103) hx hb dX6_mustNot_41 (by decide) (fun q => ?_) (fun q => ?_)
    · rw [if_pos q] at h
      refine lv_iload_n hx hb dX6_mustNot_103 rfl (lv_at hl 3 rfl) ?_
      exact me_iret hx hb hr hlk hP hS h dX6_mustNot_104
    · rw [if_neg q] at h
      refine lv_iload_n hx hb dX6_mustNot_44 rfl (lv_at hl 1 rfl) ?_
      refine lv_iload hx hb dX6_mustNot_45 (lv_at hl 4 rfl) ?_
      refine lv_icmp_eq (tgt := 97) hx hb dX6_mustNot_47 (by decide) (fun q => ?_) (fun q => ?_)
      · rw [if_pos q] at h
        refine lv_iinc (k := 4) (v := (x4 + (1 : Int32))) (lv' := [(4, .int (x4 + (1 : Int32))), (0, .ref (ad t)), (1, .int x1), (2, .int x2), (3, .int x3)]) hx hb dX6_mustNot_97 hl rfl rfl (by decide) rfl (fun ls hl => ?_)
        refine lv_goto (tgt := 33) hx hb dX6_mustNot_100 (by decide) ?_
        exact ih x3 (x4 + (1 : Int32)) M h H locs ls hP hS (lv_sub hl [1, 2, 3, 4, 0] rfl)
      · rw [if_neg q] at h
        refine lv_aload_n hx hb dX6_mustNot_50 rfl (lv_at hl 0 rfl) ?_
        refine lv_iconst (v := (0 : Int32)) hx hb dX6_mustNot_51 (by decide) ?_
        refine lv_iconst (v := (0 : Int32)) hx hb dX6_mustNot_52 (by decide) ?_
        refine lv_iload_n hx hb dX6_mustNot_53 rfl (lv_at hl 1 rfl) ?_
        refine lv_iload hx hb dX6_mustNot_54 (lv_at hl 4 rfl) ?_
        obtain ⟨v56, M56, h1, h⟩ := s_call_inv h
        refine me_callVi (As := [.int (0 : Int32), .int (0 : Int32), .int x1, .int x4]) (rest := []) ⟨hx, hb, hml, hown, hts⟩ (c_X6_canDo hT h1) (cwV 4 hts gX6_mustNot_X6_canDo rfl rfl rfl hd_X6_canDo ⟨(Nat.le_of_ble_eq_true rfl), (Nat.le_of_ble_eq_true rfl)⟩) hK hI hP hS hT.1 rfl rfl hl.1 rfl (Nat.le_of_ble_eq_true rfl) dX6_mustNot_56 ⟨Nat.zero_le _, Nat.zero_le _⟩ (fun H locs hP hS => ?_)
        refine lv_if_eq (tgt := 97) hx hb dX6_mustNot_59 (by decide) (fun q => ?_) (fun q => ?_)
        · rw [if_pos q] at h
          refine lv_iinc (k := 4) (v := (x4 + (1 : Int32))) (lv' := [(4, .int (x4 + (1 : Int32))), (0, .ref (ad t)), (1, .int x1), (2, .int x2), (3, .int x3)]) hx hb dX6_mustNot_97 hl rfl rfl (by decide) rfl (fun ls hl => ?_)
          refine lv_goto (tgt := 33) hx hb dX6_mustNot_100 (by decide) ?_
          exact ih x3 (x4 + (1 : Int32)) M56 h H locs ls hP hS (lv_sub hl [1, 2, 3, 4, 0] rfl)
        · rw [if_neg q] at h
          refine lv_aload_n hx hb dX6_mustNot_62 rfl (lv_at hl 0 rfl) ?_
          refine lv_iconst (v := (0 : Int32)) hx hb dX6_mustNot_63 (by decide) ?_
          refine lv_iconst (v := (1 : Int32)) hx hb dX6_mustNot_64 (by decide) ?_
          obtain ⟨u65, M65, h1, h⟩ := s_call_inv h
          refine me_callVv (As := [.int (0 : Int32), .int (1 : Int32)]) (rest := []) ⟨hx, hb, hml, hown, hts⟩ (c_X6_copy hT h1) (cwV 2 hts gX6_mustNot_X6_copy rfl rfl rfl hd_X6_copy ⟨(Nat.le_of_ble_eq_true rfl), (Nat.le_of_ble_eq_true rfl)⟩) hK hI hP hS hT.1 rfl rfl hl.1 rfl (Nat.le_of_ble_eq_true rfl) dX6_mustNot_65 ⟨Nat.zero_le _, Nat.zero_le _⟩ (fun H locs hP hS => ?_)
          refine lv_aload_n hx hb dX6_mustNot_68 rfl (lv_at hl 0 rfl) ?_
          refine lv_iconst (v := (1 : Int32)) hx hb dX6_mustNot_69 (by decide) ?_
          refine lv_iconst (v := (0 : Int32)) hx hb dX6_mustNot_70 (by decide) ?_
          refine lv_iload_n hx hb dX6_mustNot_71 rfl (lv_at hl 1 rfl) ?_
          refine lv_iload hx hb dX6_mustNot_72 (lv_at hl 4 rfl) ?_
          obtain ⟨u74, M74, h1, h⟩ := s_call_inv h
          refine me_callVv (As := [.int (1 : Int32), .int (0 : Int32), .int x1, .int x4]) (rest := []) ⟨hx, hb, hml, hown, hts⟩ (c_X6_doAct hT h1) (cwV 4 hts gX6_mustNot_X6_doAct rfl rfl rfl hd_X6_doAct ⟨(Nat.le_of_ble_eq_true rfl), (Nat.le_of_ble_eq_true rfl)⟩) hK hI hP hS hT.1 rfl rfl hl.1 rfl (Nat.le_of_ble_eq_true rfl) dX6_mustNot_74 ⟨Nat.zero_le _, Nat.zero_le _⟩ (fun H locs hP hS => ?_)
          refine lv_iload_n hx hb dX6_mustNot_77 rfl (lv_at hl 3 rfl) ?_
          refine lv_aload_n hx hb dX6_mustNot_78 rfl (lv_at hl 0 rfl) ?_
          refine lv_iconst (v := (1 : Int32)) hx hb dX6_mustNot_79 (by decide) ?_
          obtain ⟨v80, M80, h1, h⟩ := s_call_inv h
          refine me_callVi (As := [.int (1 : Int32)]) (rest := [.int x3]) ⟨hx, hb, hml, hown, hts⟩ (c_X6_owedBehind hT h1) (cwV 1 hts gX6_mustNot_X6_owedBehind rfl rfl rfl hd_X6_owedBehind ⟨(Nat.le_of_ble_eq_true rfl), (Nat.le_of_ble_eq_true rfl)⟩) hK hI hP hS hT.1 rfl rfl hl.1 rfl (Nat.le_of_ble_eq_true rfl) dX6_mustNot_80 ⟨Nat.zero_le _, Nat.zero_le _⟩ (fun H locs hP hS => ?_)
          refine lv_iload_n hx hb dX6_mustNot_83 rfl (lv_at hl 2 rfl) ?_
          refine lv_icmp_le (tgt := 94) hx hb dX6_mustNot_84 (by decide) (fun q => ?_) (fun q => ?_)
          · rw [if_pos q] at h
            refine lv_iconst (v := (0 : Int32)) hx hb dX6_mustNot_94 (by decide) ?_
            refine lv_ior hx hb dX6_mustNot_95 ?_
            refine lv_topi (fun x3_96 ev => ?_)
            replace h := s_let_inv h x3_96 ev
            refine lv_istore_n (lv' := [(3, .int x3_96), (0, .ref (ad t)), (1, .int x1), (2, .int x2), (4, .int x4)]) hx hb dX6_mustNot_96 rfl hl (by decide) rfl (fun ls hl => ?_)
            refine lv_iinc (k := 4) (v := (x4 + (1 : Int32))) (lv' := [(4, .int (x4 + (1 : Int32))), (3, .int x3_96), (0, .ref (ad t)), (1, .int x1), (2, .int x2)]) hx hb dX6_mustNot_97 hl rfl rfl (by decide) rfl (fun ls hl => ?_)
            refine lv_goto (tgt := 33) hx hb dX6_mustNot_100 (by decide) ?_
            exact ih x3_96 (x4 + (1 : Int32)) M80 h H locs ls hP hS (lv_sub hl [2, 3, 4, 1, 0] rfl)
          · rw [if_neg q] at h
            refine lv_iconst (v := (1 : Int32)) hx hb dX6_mustNot_87 (by decide) ?_
            refine lv_iload hx hb dX6_mustNot_88 (lv_at hl 4 rfl) ?_
            refine lv_ishl hx hb dX6_mustNot_90 ?_
            refine lv_goto (tgt := 95) hx hb dX6_mustNot_91 (by decide) ?_
            refine lv_ior hx hb dX6_mustNot_95 ?_
            refine lv_topi (fun x3_96 ev => ?_)
            replace h := s_let_inv h x3_96 ev
            refine lv_istore_n (lv' := [(3, .int x3_96), (0, .ref (ad t)), (1, .int x1), (2, .int x2), (4, .int x4)]) hx hb dX6_mustNot_96 rfl hl (by decide) rfl (fun ls hl => ?_)
            refine lv_iinc (k := 4) (v := (x4 + (1 : Int32))) (lv' := [(4, .int (x4 + (1 : Int32))), (3, .int x3_96), (0, .ref (ad t)), (1, .int x1), (2, .int x2)]) hx hb dX6_mustNot_97 hl rfl rfl (by decide) rfl (fun ls hl => ?_)
            refine lv_goto (tgt := 33) hx hb dX6_mustNot_100 (by decide) ?_
            exact ih x3_96 (x4 + (1 : Int32)) M80 h H locs ls hP hS (lv_sub hl [2, 3, 4, 1, 0] rfl)
set_option maxRecDepth 100000 in
set_option maxHeartbeats 4000000 in
theorem w_X6_mustNot {p : Program} {l : Launch} {e : Env} {s : State} {m : MethodId} {args : Array Value} {below : List Frame} {meth : Method} {c : Code} {D : va_G} {cI : ClassId} {ad : Nat → Nat} {L : List CDs} {r : Int32} {M' : Mem} (C0 : me_X p s m args meth c cX6_mustNot 5 (some .int) wsX6_mustNot RX6 D cI ad L) (t : Nat) (hT : is_X6 L t) (x1 : Int32) : ∀  (M : Mem), X6_mustNot t x1 M = some (r, M') → me_W p l e rmX6_mustNot s m args below meth c D cI ad L (some (.int r)) M' 5 0 [(0, .ref (ad t)), (1, .int x1)] [] M := by
  obtain ⟨hx, hb, hr, hml, hown, hts, hlk, hK, hI⟩ := id C0
  intro M h
  unfold X6_mustNot at h
  intro H locs ls hP hS hl
  refine lv_aload_n hx hb dX6_mustNot_0 rfl (lv_at hl 0 rfl) ?_
  refine lv_iload_n hx hb dX6_mustNot_1 rfl (lv_at hl 1 rfl) ?_
  obtain ⟨v2, M2, h1, h⟩ := s_call_inv h
  refine me_callVi (As := [.int x1]) (rest := []) ⟨hx, hb, hml, hown, hts⟩ (c_X6_isPerson hT h1) (cwV 1 hts gX6_mustNot_X6_isPerson rfl rfl rfl hd_X6_isPerson ⟨(Nat.le_of_ble_eq_true rfl), (Nat.le_of_ble_eq_true rfl)⟩) hK hI hP hS hT.1 rfl rfl hl.1 rfl (Nat.le_of_ble_eq_true rfl) dX6_mustNot_2 ⟨Nat.zero_le _, Nat.zero_le _⟩ (fun H locs hP hS => ?_)
  refine lv_if_ne (tgt := 10) hx hb dX6_mustNot_5 (by decide) (fun q => ?_) (fun q => ?_)
  · rw [if_pos q] at h
    refine lv_aload_n hx hb dX6_mustNot_10 rfl (lv_at hl 0 rfl) ?_
    refine lv_iconst (v := (0 : Int32)) hx hb dX6_mustNot_11 (by decide) ?_
    refine lv_iload_n hx hb dX6_mustNot_12 rfl (lv_at hl 1 rfl) ?_
    obtain ⟨v13, M13, h1, h⟩ := s_call_inv h
    refine me_callVi (As := [.int (0 : Int32), .int x1]) (rest := []) ⟨hx, hb, hml, hown, hts⟩ (c_X6_isAlive hT h1) (cwV 2 hts gX6_mustNot_X6_isAlive rfl rfl rfl hd_X6_isAlive ⟨(Nat.le_of_ble_eq_true rfl), (Nat.le_of_ble_eq_true rfl)⟩) hK hI hP hS hT.1 rfl rfl hl.1 rfl (Nat.le_of_ble_eq_true rfl) dX6_mustNot_13 ⟨Nat.zero_le _, Nat.zero_le _⟩ (fun H locs hP hS => ?_)
    refine lv_if_ne (tgt := 22) hx hb dX6_mustNot_16 (by decide) (fun q => ?_) (fun q => ?_)
    · rw [if_pos q] at h
      refine lv_aload_n hx hb dX6_mustNot_22 rfl (lv_at hl 0 rfl) ?_
      refine lv_iconst (v := (0 : Int32)) hx hb dX6_mustNot_23 (by decide) ?_
      obtain ⟨v24, M24, h1, h⟩ := s_call_inv h
      refine me_callVi (As := [.int (0 : Int32)]) (rest := []) ⟨hx, hb, hml, hown, hts⟩ (c_X6_owedBehind hT h1) (cwV 1 hts gX6_mustNot_X6_owedBehind rfl rfl rfl hd_X6_owedBehind ⟨(Nat.le_of_ble_eq_true rfl), (Nat.le_of_ble_eq_true rfl)⟩) hK hI hP hS hT.1 rfl rfl hl.1 rfl (Nat.le_of_ble_eq_true rfl) dX6_mustNot_24 ⟨Nat.zero_le _, Nat.zero_le _⟩ (fun H locs hP hS => ?_)
      refine lv_istore_n (lv' := [(2, .int v24), (0, .ref (ad t)), (1, .int x1)]) hx hb dX6_mustNot_27 rfl hl (by decide) rfl (fun ls hl => ?_)
      refine lv_iconst (v := (0 : Int32)) hx hb dX6_mustNot_28 (by decide) ?_
      refine lv_istore_n (lv' := [(3, .int (0 : Int32)), (2, .int v24), (0, .ref (ad t)), (1, .int x1)]) hx hb dX6_mustNot_29 rfl hl (by decide) rfl (fun ls hl => ?_)
      refine lv_iconst (v := (0 : Int32)) hx hb dX6_mustNot_30 (by decide) ?_
      refine lv_istore (lv' := [(4, .int (0 : Int32)), (3, .int (0 : Int32)), (2, .int v24), (0, .ref (ad t)), (1, .int x1)]) hx hb dX6_mustNot_31 hl (by decide) rfl (fun ls hl => ?_)
      exact w_X6_mustNot_33 C0 t hT x1 v24 FU (0 : Int32) (0 : Int32) M24 h H locs ls hP hS (lv_sub hl [3, 4, 2, 1, 0] rfl)
    · rw [if_neg (not_not_intro q)] at h
      refine lv_bipush (v := (-2 : Int32)) hx hb dX6_mustNot_19 (by decide) ?_
      exact me_iret hx hb hr hlk hP hS h dX6_mustNot_21
  · rw [if_neg (not_not_intro q)] at h
    refine lv_iconst (v := (-1 : Int32)) hx hb dX6_mustNot_8 (by decide) ?_
    exact me_iret hx hb hr hlk hP hS h dX6_mustNot_9
theorem c_X6_mustNot {l : Launch} {D : va_G} {cI : ClassId} {ad : Nat → Nat} {L : List CDs} {t : Nat} (hT : is_X6 L t) {x1 : Int32} {M M' : Mem} {r : Int32} (h : X6_mustNot t x1 M = some (r, M')) : me_Met l yX6_mustNot wsX6_mustNot rmX6_mustNot D cI ad L [.ref (ad t), .int x1] (some (.int r)) M M' :=
  me_ofW (by decide) rfl (Nat.le_of_ble_eq_true rfl) (fun p e s m below meth c C0 => w_X6_mustNot C0 t hT x1 M h)
