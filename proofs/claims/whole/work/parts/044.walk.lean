/-! ===== the walks, by program (wip/gen/gen.py) ===== -/
abbrev rmX5_stranger : Room := { frames := 4, cells := 0, slots := 0, locals := 91 }
theorem kX5_stranger_f31 : (Cond.fieldLink RX5 31 "LadderOfBows" "now" "LLadderOfBows$Town;") ∈ wsX5_stranger := List.mem_of_getElem? (i := 1) rfl
theorem kX5_stranger_f37 : (Cond.fieldLink RX5 37 "LadderOfBows" "trial" "LLadderOfBows$Town;") ∈ wsX5_stranger := List.mem_of_getElem? (i := 2) rfl
theorem in_X5_stranger_X5 : ∀ w ∈ wsX50, w ∈ wsX5_stranger := by decide +kernel
theorem hd_X5_stranger : yX5_stranger.cls = RX5 ∧ yX5_stranger.cls ≠ "java/lang/invoke/MethodHandle" ∧ yX5_stranger.cls ≠ "java/lang/invoke/VarHandle" ∧ (parseMethodDescriptor yX5_stranger.desc).map (fun d => d.parameters.length) = some 1 := by decide +kernel
set_option maxRecDepth 100000 in
set_option maxHeartbeats 4000000 in
theorem w_X5_stranger {p : Program} {l : Launch} {e : Env} {s : State} {m : MethodId} {args : Array Value} {below : List Frame} {meth : Method} {c : Code} {D : va_G} {cI : ClassId} {ad : Nat → Nat} {L : List CDs} {r : Int32} {M' : Mem} (C0 : me_X p s m args meth c cX5_stranger 6 (some .int) wsX5_stranger RX5 D cI ad L) (t : Nat) (hT : is_X5 L t) (x1 : Int32) : ∀  (M : Mem), X5_stranger t x1 M = some (r, M') → me_W p l e rmX5_stranger s m args below meth c D cI ad L (some (.int r)) M' 6 0 [(0, .ref (ad t)), (1, .int x1)] [] M := by
  obtain ⟨hx, hb, hr, hml, hown, hts, hlk, hK, hI⟩ := id C0
  intro M h
  unfold X5_stranger at h
  intro H locs ls hP hS hl
  refine lv_iload_n hx hb dX5_stranger_0 rfl (lv_at hl 1 rfl) ?_
  obtain ⟨v1, M1, h1, h⟩ := s_call_inv h
  refine me_callSi (As := [.int x1]) (rest := []) ⟨hx, hb, hml, hown, hts⟩ (c_X5_isZeroOrOne h1) (va_cwS 1 hts gX5_stranger_X5_isZeroOrOne rfl rfl rfl hd_X5_isZeroOrOne.2 ⟨(Nat.le_of_ble_eq_true rfl), (Nat.le_of_ble_eq_true rfl)⟩) hK hI hP hS rfl hl.1 rfl (Nat.le_of_ble_eq_true rfl) dX5_stranger_1 ⟨Nat.zero_le _, Nat.zero_le _⟩ (fun H locs hP hS => ?_)
  refine lv_if_ne (tgt := 9) hx hb dX5_stranger_4 (by decide) (fun q => ?_) (fun q => ?_)
  · rw [if_pos q] at h
    refine lv_aload_n hx hb dX5_stranger_9 rfl (lv_at hl 0 rfl) ?_
    refine me_getr (ci := 5) (C := RX5) (T := TX5) (N := 13) hx hb hts in_X5_stranger_X5 hown hK hP hT.1 rfl 3 (by decide) (hts _ kX5_stranger_f31) rfl dX5_stranger_10 ?_
    obtain ⟨v13, M13, h1, h⟩ := s_call_inv h
    refine me_callVi (As := []) (rest := []) ⟨hx, hb, hml, hown, hts⟩ (c_X4_persons hT.2.2.2.2.1 h1) (cwV 0 hts gX5_stranger_X4_persons rfl rfl rfl hd_X4_persons ⟨(Nat.le_of_ble_eq_true rfl), (Nat.le_of_ble_eq_true rfl)⟩) hK hI hP hS hT.2.2.2.2.1.1 rfl rfl hl.1 rfl (Nat.le_of_ble_eq_true rfl) dX5_stranger_13 ⟨Nat.zero_le _, Nat.zero_le _⟩ (fun H locs hP hS => ?_)
    refine lv_bipush (v := (7 : Int32)) hx hb dX5_stranger_16 (by decide) ?_
    refine lv_icmp_lt (tgt := 24) hx hb dX5_stranger_18 (by decide) (fun q => ?_) (fun q => ?_)
    · rw [if_pos q] at h
      refine lv_aload_n hx hb dX5_stranger_24 rfl (lv_at hl 0 rfl) ?_
      refine me_getr (ci := 5) (C := RX5) (T := TX5) (N := 13) hx hb hts in_X5_stranger_X5 hown hK hP hT.1 rfl 4 (by decide) (hts _ kX5_stranger_f37) rfl dX5_stranger_25 ?_
      refine lv_aload_n hx hb dX5_stranger_28 rfl (lv_at hl 0 rfl) ?_
      refine me_getr (ci := 5) (C := RX5) (T := TX5) (N := 13) hx hb hts in_X5_stranger_X5 hown hK hP hT.1 rfl 3 (by decide) (hts _ kX5_stranger_f31) rfl dX5_stranger_29 ?_
      obtain ⟨u32, M32, h1, h⟩ := s_call_inv h
      refine me_callVv (As := [.ref (ad (t + 16))]) (rest := []) ⟨hx, hb, hml, hown, hts⟩ (c_X4_copyFrom hT.2.2.2.2.2.1 hT.2.2.2.2.1 h1) (cwV 1 hts gX5_stranger_X4_copyFrom rfl rfl rfl hd_X4_copyFrom ⟨(Nat.le_of_ble_eq_true rfl), (Nat.le_of_ble_eq_true rfl)⟩) hK hI hP hS hT.2.2.2.2.2.1.1 rfl rfl hl.1 rfl (Nat.le_of_ble_eq_true rfl) dX5_stranger_32 ⟨Nat.zero_le _, Nat.zero_le _⟩ (fun H locs hP hS => ?_)
      refine lv_aload_n hx hb dX5_stranger_35 rfl (lv_at hl 0 rfl) ?_
      refine me_getr (ci := 5) (C := RX5) (T := TX5) (N := 13) hx hb hts in_X5_stranger_X5 hown hK hP hT.1 rfl 4 (by decide) (hts _ kX5_stranger_f37) rfl dX5_stranger_36 ?_
      obtain ⟨v39, M39, h1, h⟩ := s_call_inv h
      refine me_callVi (As := []) (rest := []) ⟨hx, hb, hml, hown, hts⟩ (c_X4_makePeace hT.2.2.2.2.2.1 h1) (cwV 0 hts gX5_stranger_X4_makePeace rfl rfl rfl hd_X4_makePeace ⟨(Nat.le_of_ble_eq_true rfl), (Nat.le_of_ble_eq_true rfl)⟩) hK hI hP hS hT.2.2.2.2.2.1.1 rfl rfl hl.1 rfl (Nat.le_of_ble_eq_true rfl) dX5_stranger_39 ⟨Nat.zero_le _, Nat.zero_le _⟩ (fun H locs hP hS => ?_)
      refine lv_istore_n (lv' := [(2, .int v39), (0, .ref (ad t)), (1, .int x1)]) hx hb dX5_stranger_42 rfl hl (by decide) rfl (fun ls hl => ?_)
      refine lv_aload_n hx hb dX5_stranger_43 rfl (lv_at hl 1 rfl) ?_
      refine me_getr (ci := 5) (C := RX5) (T := TX5) (N := 13) hx hb hts in_X5_stranger_X5 hown hK hP hT.1 rfl 4 (by decide) (hts _ kX5_stranger_f37) rfl dX5_stranger_44 ?_
      obtain ⟨v47, M47, h1, h⟩ := s_call_inv h
      refine me_callVi (As := []) (rest := []) ⟨hx, hb, hml, hown, hts⟩ (c_X4_allOwed hT.2.2.2.2.2.1 h1) (cwV 0 hts gX5_stranger_X4_allOwed rfl rfl rfl hd_X4_allOwed ⟨(Nat.le_of_ble_eq_true rfl), (Nat.le_of_ble_eq_true rfl)⟩) hK hI hP hS hT.2.2.2.2.2.1.1 rfl rfl hl.1 rfl (Nat.le_of_ble_eq_true rfl) dX5_stranger_47 ⟨Nat.zero_le _, Nat.zero_le _⟩ (fun H locs hP hS => ?_)
      refine lv_istore_n (lv' := [(3, .int v47), (2, .int v39), (0, .ref (ad t)), (1, .int x1)]) hx hb dX5_stranger_50 rfl hl (by decide) rfl (fun ls hl => ?_)
      refine lv_aload_n hx hb dX5_stranger_51 rfl (lv_at hl 2 rfl) ?_
      refine me_getr (ci := 5) (C := RX5) (T := TX5) (N := 13) hx hb hts in_X5_stranger_X5 hown hK hP hT.1 rfl 4 (by decide) (hts _ kX5_stranger_f37) rfl dX5_stranger_52 ?_
      refine lv_aload_n hx hb dX5_stranger_55 rfl (lv_at hl 2 rfl) ?_
      refine me_getr (ci := 5) (C := RX5) (T := TX5) (N := 13) hx hb hts in_X5_stranger_X5 hown hK hP hT.1 rfl 3 (by decide) (hts _ kX5_stranger_f31) rfl dX5_stranger_56 ?_
      obtain ⟨u59, M59, h1, h⟩ := s_call_inv h
      refine me_callVv (As := [.ref (ad (t + 16))]) (rest := []) ⟨hx, hb, hml, hown, hts⟩ (c_X4_copyFrom hT.2.2.2.2.2.1 hT.2.2.2.2.1 h1) (cwV 1 hts gX5_stranger_X4_copyFrom rfl rfl rfl hd_X4_copyFrom ⟨(Nat.le_of_ble_eq_true rfl), (Nat.le_of_ble_eq_true rfl)⟩) hK hI hP hS hT.2.2.2.2.2.1.1 rfl rfl hl.1 rfl (Nat.le_of_ble_eq_true rfl) dX5_stranger_59 ⟨Nat.zero_le _, Nat.zero_le _⟩ (fun H locs hP hS => ?_)
      refine lv_aload_n hx hb dX5_stranger_62 rfl (lv_at hl 2 rfl) ?_
      refine me_getr (ci := 5) (C := RX5) (T := TX5) (N := 13) hx hb hts in_X5_stranger_X5 hown hK hP hT.1 rfl 4 (by decide) (hts _ kX5_stranger_f37) rfl dX5_stranger_63 ?_
      obtain ⟨u66, M66, h1, h⟩ := s_call_inv h
      refine me_callVv (As := []) (rest := []) ⟨hx, hb, hml, hown, hts⟩ (c_X4_addStranger hT.2.2.2.2.2.1 h1) (cwV 0 hts gX5_stranger_X4_addStranger rfl rfl rfl hd_X4_addStranger ⟨(Nat.le_of_ble_eq_true rfl), (Nat.le_of_ble_eq_true rfl)⟩) hK hI hP hS hT.2.2.2.2.2.1.1 rfl rfl hl.1 rfl (Nat.le_of_ble_eq_true rfl) dX5_stranger_66 ⟨Nat.zero_le _, Nat.zero_le _⟩ (fun H locs hP hS => ?_)
      refine lv_aload_n hx hb dX5_stranger_69 rfl (lv_at hl 2 rfl) ?_
      refine me_getr (ci := 5) (C := RX5) (T := TX5) (N := 13) hx hb hts in_X5_stranger_X5 hown hK hP hT.1 rfl 4 (by decide) (hts _ kX5_stranger_f37) rfl dX5_stranger_70 ?_
      obtain ⟨v73, M73, h1, h⟩ := s_call_inv h
      refine me_callVi (As := []) (rest := []) ⟨hx, hb, hml, hown, hts⟩ (c_X4_makePeace hT.2.2.2.2.2.1 h1) (cwV 0 hts gX5_stranger_X4_makePeace rfl rfl rfl hd_X4_makePeace ⟨(Nat.le_of_ble_eq_true rfl), (Nat.le_of_ble_eq_true rfl)⟩) hK hI hP hS hT.2.2.2.2.2.1.1 rfl rfl hl.1 rfl (Nat.le_of_ble_eq_true rfl) dX5_stranger_73 ⟨Nat.zero_le _, Nat.zero_le _⟩ (fun H locs hP hS => ?_)
      refine lv_iload_n hx hb dX5_stranger_76 rfl (lv_at hl 1 rfl) ?_
      refine lv_isub hx hb dX5_stranger_77 ?_
      refine lv_topi (fun x4_78 ev => ?_)
      replace h := s_let_inv h x4_78 ev
      refine lv_istore (lv' := [(4, .int x4_78), (3, .int v47), (2, .int v39), (0, .ref (ad t)), (1, .int x1)]) hx hb dX5_stranger_78 hl (by decide) rfl (fun ls hl => ?_)
      refine lv_aload_n hx hb dX5_stranger_80 rfl (lv_at hl 3 rfl) ?_
      refine me_getr (ci := 5) (C := RX5) (T := TX5) (N := 13) hx hb hts in_X5_stranger_X5 hown hK hP hT.1 rfl 4 (by decide) (hts _ kX5_stranger_f37) rfl dX5_stranger_81 ?_
      obtain ⟨v84, M84, h1, h⟩ := s_call_inv h
      refine me_callVi (As := []) (rest := []) ⟨hx, hb, hml, hown, hts⟩ (c_X4_allOwed hT.2.2.2.2.2.1 h1) (cwV 0 hts gX5_stranger_X4_allOwed rfl rfl rfl hd_X4_allOwed ⟨(Nat.le_of_ble_eq_true rfl), (Nat.le_of_ble_eq_true rfl)⟩) hK hI hP hS hT.2.2.2.2.2.1.1 rfl rfl hl.1 rfl (Nat.le_of_ble_eq_true rfl) dX5_stranger_84 ⟨Nat.zero_le _, Nat.zero_le _⟩ (fun H locs hP hS => ?_)
      refine lv_iload_n hx hb dX5_stranger_87 rfl (lv_at hl 1 rfl) ?_
      refine lv_isub hx hb dX5_stranger_88 ?_
      refine lv_topi (fun x5_89 ev => ?_)
      replace h := s_let_inv h x5_89 ev
      refine lv_istore (lv' := [(5, .int x5_89), (4, .int x4_78), (3, .int v47), (2, .int v39), (0, .ref (ad t)), (1, .int x1)]) hx hb dX5_stranger_89 hl (by decide) rfl (fun ls hl => ?_)
      refine lv_bipush (v := (100 : Int32)) hx hb dX5_stranger_91 (by decide) ?_
      refine lv_iload_n hx hb dX5_stranger_93 rfl (lv_at hl 5 rfl) ?_
      refine lv_if_ne (tgt := 102) hx hb dX5_stranger_94 (by decide) (fun q => ?_) (fun q => ?_)
      · rw [if_pos q] at h
        refine lv_iload hx hb dX5_stranger_102 (lv_at hl 0 rfl) ?_
        refine lv_iadd hx hb dX5_stranger_104 ?_
        exact me_iret hx hb hr hlk hP hS h dX5_stranger_105
      · rw [if_neg (not_not_intro q)] at h
        refine lv_iload hx hb dX5_stranger_97 (lv_at hl 1 rfl) ?_
        refine lv_goto (tgt := 104) hx hb dX5_stranger_99 (by decide) ?_
        refine lv_iadd hx hb dX5_stranger_104 ?_
        exact me_iret hx hb hr hlk hP hS h dX5_stranger_105
    · rw [if_neg q] at h
      refine lv_bipush (v := (-3 : Int32)) hx hb dX5_stranger_21 (by decide) ?_
      exact me_iret hx hb hr hlk hP hS h dX5_stranger_23
  · rw [if_neg (not_not_intro q)] at h
    refine lv_iconst (v := (-1 : Int32)) hx hb dX5_stranger_7 (by decide) ?_
    exact me_iret hx hb hr hlk hP hS h dX5_stranger_8
theorem c_X5_stranger {l : Launch} {D : va_G} {cI : ClassId} {ad : Nat → Nat} {L : List CDs} {t : Nat} (hT : is_X5 L t) {x1 : Int32} {M M' : Mem} {r : Int32} (h : X5_stranger t x1 M = some (r, M')) : me_Met l yX5_stranger wsX5_stranger rmX5_stranger D cI ad L [.ref (ad t), .int x1] (some (.int r)) M M' :=
  me_ofW (by decide) rfl (Nat.le_of_ble_eq_true rfl) (fun p e s m below meth c C0 => w_X5_stranger C0 t hT x1 M h)
abbrev rmX5_easter : Room := { frames := 4, cells := 0, slots := 0, locals := 91 }
theorem kX5_easter_f37 : (Cond.fieldLink RX5 37 "LadderOfBows" "trial" "LLadderOfBows$Town;") ∈ wsX5_easter := List.mem_of_getElem? (i := 1) rfl
theorem kX5_easter_f31 : (Cond.fieldLink RX5 31 "LadderOfBows" "now" "LLadderOfBows$Town;") ∈ wsX5_easter := List.mem_of_getElem? (i := 2) rfl
theorem in_X5_easter_X5 : ∀ w ∈ wsX50, w ∈ wsX5_easter := by decide +kernel
theorem hd_X5_easter : yX5_easter.cls = RX5 ∧ yX5_easter.cls ≠ "java/lang/invoke/MethodHandle" ∧ yX5_easter.cls ≠ "java/lang/invoke/VarHandle" ∧ (parseMethodDescriptor yX5_easter.desc).map (fun d => d.parameters.length) = some 0 := by decide +kernel
set_option maxRecDepth 100000 in
set_option maxHeartbeats 4000000 in
theorem w_X5_easter_19 {p : Program} {l : Launch} {e : Env} {s : State} {m : MethodId} {args : Array Value} {below : List Frame} {meth : Method} {c : Code} {D : va_G} {cI : ClassId} {ad : Nat → Nat} {L : List CDs} {r : Int32} {M' : Mem} (C0 : me_X p s m args meth c cX5_easter 2 (some .int) wsX5_easter RX5 D cI ad L) (t : Nat) (hT : is_X5 L t) : ∀ (n : Nat) (x1 : Int32) (M : Mem), X5_easter_19 t n x1 M = some (r, M') → me_W p l e rmX5_easter s m args below meth c D cI ad L (some (.int r)) M' 2 19 [(0, .ref (ad t)), (1, .int x1)] [] M := by
  obtain ⟨hx, hb, hr, hml, hown, hts, hlk, hK, hI⟩ := id C0
  intro n
  induction n with
  | zero =>
    intro x1 M h
    rw [X5_easter_19] at h
    cases h
  | succ n ih =>
    intro x1 M h
    rw [X5_easter_19] at h
    intro H locs ls hP hS hl
    refine lv_iload_n hx hb dX5_easter_19 rfl (lv_at hl 1 rfl) ?_
    refine lv_aload_n hx hb dX5_easter_20 rfl (lv_at hl 0 rfl) ?_
    refine me_getr (ci := 5) (C := RX5) (T := TX5) (N := 13) hx hb hts in_X5_easter_X5 hown hK hP hT.1 rfl 3 (by decide) (hts _ kX5_easter_f31) rfl dX5_easter_21 ?_
    obtain ⟨v24, M24, h1, h⟩ := s_call_inv h
    refine me_callVi (As := []) (rest := [.int x1]) ⟨hx, hb, hml, hown, hts⟩ (c_X4_easterDay hT.2.2.2.2.1 h1) (cwV 0 hts gX5_easter_X4_easterDay rfl rfl rfl hd_X4_easterDay ⟨(Nat.le_of_ble_eq_true rfl), (Nat.le_of_ble_eq_true rfl)⟩) hK hI hP hS hT.2.2.2.2.1.1 rfl rfl hl.1 rfl (Nat.le_of_ble_eq_true rfl) dX5_easter_24 ⟨Nat.zero_le _, Nat.zero_le _⟩ (fun H locs hP hS => ?_)
    refine lv_icmp_gt (tgt := 63) hx hb dX5_easter_27 (by decide) (fun q => ?_) (fun q => ?_)
    · rw [if_pos q] at h
      refine lv_bipush (v := (-4 : Int32)) hx hb dX5_easter_63 (by decide) ?_
      exact me_iret hx hb hr hlk hP hS h dX5_easter_65
    · rw [if_neg q] at h
      refine lv_aload_n hx hb dX5_easter_30 rfl (lv_at hl 0 rfl) ?_
      refine me_getr (ci := 5) (C := RX5) (T := TX5) (N := 13) hx hb hts in_X5_easter_X5 hown hK hP hT.1 rfl 4 (by decide) (hts _ kX5_easter_f37) rfl dX5_easter_31 ?_
      obtain ⟨v34, M34, h1, h⟩ := s_call_inv h
      refine me_callVi (As := []) (rest := []) ⟨hx, hb, hml, hown, hts⟩ (c_X4_makePeace hT.2.2.2.2.2.1 h1) (cwV 0 hts gX5_easter_X4_makePeace rfl rfl rfl hd_X4_makePeace ⟨(Nat.le_of_ble_eq_true rfl), (Nat.le_of_ble_eq_true rfl)⟩) hK hI hP hS hT.2.2.2.2.2.1.1 rfl rfl hl.1 rfl (Nat.le_of_ble_eq_true rfl) dX5_easter_34 ⟨Nat.zero_le _, Nat.zero_le _⟩ (fun H locs hP hS => ?_)
      refine lv_pop hx hb dX5_easter_37 rfl ?_
      refine lv_aload_n hx hb dX5_easter_38 rfl (lv_at hl 0 rfl) ?_
      refine me_getr (ci := 5) (C := RX5) (T := TX5) (N := 13) hx hb hts in_X5_easter_X5 hown hK hP hT.1 rfl 4 (by decide) (hts _ kX5_easter_f37) rfl dX5_easter_39 ?_
      obtain ⟨v42, M42, h1, h⟩ := s_call_inv h
      refine me_callVi (As := []) (rest := []) ⟨hx, hb, hml, hown, hts⟩ (c_X4_allOwed hT.2.2.2.2.2.1 h1) (cwV 0 hts gX5_easter_X4_allOwed rfl rfl rfl hd_X4_allOwed ⟨(Nat.le_of_ble_eq_true rfl), (Nat.le_of_ble_eq_true rfl)⟩) hK hI hP hS hT.2.2.2.2.2.1.1 rfl rfl hl.1 rfl (Nat.le_of_ble_eq_true rfl) dX5_easter_42 ⟨Nat.zero_le _, Nat.zero_le _⟩ (fun H locs hP hS => ?_)
      refine lv_if_ne (tgt := 50) hx hb dX5_easter_45 (by decide) (fun q => ?_) (fun q => ?_)
      · rw [if_pos q] at h
        refine lv_aload_n hx hb dX5_easter_50 rfl (lv_at hl 0 rfl) ?_
        refine me_getr (ci := 5) (C := RX5) (T := TX5) (N := 13) hx hb hts in_X5_easter_X5 hown hK hP hT.1 rfl 4 (by decide) (hts _ kX5_easter_f37) rfl dX5_easter_51 ?_
        obtain ⟨u54, M54, h1, h⟩ := s_call_inv h
        refine me_callVv (As := []) (rest := []) ⟨hx, hb, hml, hown, hts⟩ (c_X4_passDay hT.2.2.2.2.2.1 h1) (cwV 0 hts gX5_easter_X4_passDay rfl rfl rfl hd_X4_passDay ⟨(Nat.le_of_ble_eq_true rfl), (Nat.le_of_ble_eq_true rfl)⟩) hK hI hP hS hT.2.2.2.2.2.1.1 rfl rfl hl.1 rfl (Nat.le_of_ble_eq_true rfl) dX5_easter_54 ⟨Nat.zero_le _, Nat.zero_le _⟩ (fun H locs hP hS => ?_)
        refine lv_iinc (k := 1) (v := (x1 + (1 : Int32))) (lv' := [(1, .int (x1 + (1 : Int32))), (0, .ref (ad t))]) hx hb dX5_easter_57 hl rfl rfl (by decide) rfl (fun ls hl => ?_)
        refine lv_goto (tgt := 19) hx hb dX5_easter_60 (by decide) ?_
        exact ih (x1 + (1 : Int32)) M54 h H locs ls hP hS (lv_sub hl [1, 0] rfl)
      · rw [if_neg (not_not_intro q)] at h
        refine lv_iload_n hx hb dX5_easter_48 rfl (lv_at hl 1 rfl) ?_
        exact me_iret hx hb hr hlk hP hS h dX5_easter_49
set_option maxRecDepth 100000 in
set_option maxHeartbeats 4000000 in
theorem w_X5_easter {p : Program} {l : Launch} {e : Env} {s : State} {m : MethodId} {args : Array Value} {below : List Frame} {meth : Method} {c : Code} {D : va_G} {cI : ClassId} {ad : Nat → Nat} {L : List CDs} {r : Int32} {M' : Mem} (C0 : me_X p s m args meth c cX5_easter 2 (some .int) wsX5_easter RX5 D cI ad L) (t : Nat) (hT : is_X5 L t) : ∀  (M : Mem), X5_easter t M = some (r, M') → me_W p l e rmX5_easter s m args below meth c D cI ad L (some (.int r)) M' 2 0 [(0, .ref (ad t))] [] M := by
  obtain ⟨hx, hb, hr, hml, hown, hts, hlk, hK, hI⟩ := id C0
  intro M h
  unfold X5_easter at h
  intro H locs ls hP hS hl
  refine lv_aload_n hx hb dX5_easter_0 rfl (lv_at hl 0 rfl) ?_
  refine me_getr (ci := 5) (C := RX5) (T := TX5) (N := 13) hx hb hts in_X5_easter_X5 hown hK hP hT.1 rfl 4 (by decide) (hts _ kX5_easter_f37) rfl dX5_easter_1 ?_
  refine lv_aload_n hx hb dX5_easter_4 rfl (lv_at hl 0 rfl) ?_
  refine me_getr (ci := 5) (C := RX5) (T := TX5) (N := 13) hx hb hts in_X5_easter_X5 hown hK hP hT.1 rfl 3 (by decide) (hts _ kX5_easter_f31) rfl dX5_easter_5 ?_
  obtain ⟨u8, M8, h1, h⟩ := s_call_inv h
  refine me_callVv (As := [.ref (ad (t + 16))]) (rest := []) ⟨hx, hb, hml, hown, hts⟩ (c_X4_copyFrom hT.2.2.2.2.2.1 hT.2.2.2.2.1 h1) (cwV 1 hts gX5_easter_X4_copyFrom rfl rfl rfl hd_X4_copyFrom ⟨(Nat.le_of_ble_eq_true rfl), (Nat.le_of_ble_eq_true rfl)⟩) hK hI hP hS hT.2.2.2.2.2.1.1 rfl rfl hl.1 rfl (Nat.le_of_ble_eq_true rfl) dX5_easter_8 ⟨Nat.zero_le _, Nat.zero_le _⟩ (fun H locs hP hS => ?_)
  refine lv_aload_n hx hb dX5_easter_11 rfl (lv_at hl 0 rfl) ?_
  refine me_getr (ci := 5) (C := RX5) (T := TX5) (N := 13) hx hb hts in_X5_easter_X5 hown hK hP hT.1 rfl 3 (by decide) (hts _ kX5_easter_f31) rfl dX5_easter_12 ?_
  obtain ⟨v15, M15, h1, h⟩ := s_call_inv h
  refine me_callVi (As := []) (rest := []) ⟨hx, hb, hml, hown, hts⟩ (c_X4_day hT.2.2.2.2.1 h1) (cwV 0 hts gX5_easter_X4_day rfl rfl rfl hd_X4_day ⟨(Nat.le_of_ble_eq_true rfl), (Nat.le_of_ble_eq_true rfl)⟩) hK hI hP hS hT.2.2.2.2.1.1 rfl rfl hl.1 rfl (Nat.le_of_ble_eq_true rfl) dX5_easter_15 ⟨Nat.zero_le _, Nat.zero_le _⟩ (fun H locs hP hS => ?_)
  refine lv_istore_n (lv' := [(1, .int v15), (0, .ref (ad t))]) hx hb dX5_easter_18 rfl hl (by decide) rfl (fun ls hl => ?_)
  exact w_X5_easter_19 C0 t hT FU v15 M15 h H locs ls hP hS (lv_sub hl [1, 0] rfl)
theorem c_X5_easter {l : Launch} {D : va_G} {cI : ClassId} {ad : Nat → Nat} {L : List CDs} {t : Nat} (hT : is_X5 L t)  {M M' : Mem} {r : Int32} (h : X5_easter t M = some (r, M')) : me_Met l yX5_easter wsX5_easter rmX5_easter D cI ad L [.ref (ad t)] (some (.int r)) M M' :=
  me_ofW (by decide) rfl (Nat.le_of_ble_eq_true rfl) (fun p e s m below meth c C0 => w_X5_easter C0 t hT M h)
abbrev rmX5_silent : Room := { frames := 0, cells := 0, slots := 0, locals := 0 }
theorem kX5_silent_f234 : (Cond.fieldLink RX5 234 "LadderOfBows" "silences" "I") ∈ wsX5_silent := List.mem_of_getElem? (i := 1) rfl
theorem kX5_silent_f237 : (Cond.fieldLink RX5 237 "LadderOfBows" "silentStreets" "I") ∈ wsX5_silent := List.mem_of_getElem? (i := 2) rfl
theorem in_X5_silent_X5 : ∀ w ∈ wsX50, w ∈ wsX5_silent := by decide +kernel
theorem hd_X5_silent : yX5_silent.cls = RX5 ∧ yX5_silent.cls ≠ "java/lang/invoke/MethodHandle" ∧ yX5_silent.cls ≠ "java/lang/invoke/VarHandle" ∧ (parseMethodDescriptor yX5_silent.desc).map (fun d => d.parameters.length) = some 1 := by decide +kernel
set_option maxRecDepth 100000 in
set_option maxHeartbeats 4000000 in
theorem w_X5_silent {p : Program} {l : Launch} {e : Env} {s : State} {m : MethodId} {args : Array Value} {below : List Frame} {meth : Method} {c : Code} {D : va_G} {cI : ClassId} {ad : Nat → Nat} {L : List CDs} {r : Int32} {M' : Mem} (C0 : me_X p s m args meth c cX5_silent 2 (some .int) wsX5_silent RX5 D cI ad L) (t : Nat) (hT : is_X5 L t) (x1 : Int32) : ∀  (M : Mem), X5_silent t x1 M = some (r, M') → me_W p l e rmX5_silent s m args below meth c D cI ad L (some (.int r)) M' 2 0 [(0, .ref (ad t)), (1, .int x1)] [] M := by
  obtain ⟨hx, hb, hr, hml, hown, hts, hlk, hK, hI⟩ := id C0
  intro M h
  unfold X5_silent at h
  intro H locs ls hP hS hl
  refine lv_iload_n hx hb dX5_silent_0 rfl (lv_at hl 1 rfl) ?_
  refine lv_if_lt (tgt := 9) hx hb dX5_silent_1 (by decide) (fun q => ?_) (fun q => ?_)
  · rw [if_pos q] at h
    refine lv_iconst (v := (-1 : Int32)) hx hb dX5_silent_9 (by decide) ?_
    exact me_iret hx hb hr hlk hP hS h dX5_silent_10
  · rw [if_neg q] at h
    refine lv_iload_n hx hb dX5_silent_4 rfl (lv_at hl 1 rfl) ?_
    refine lv_iconst (v := (4 : Int32)) hx hb dX5_silent_5 (by decide) ?_
    refine lv_icmp_lt (tgt := 11) hx hb dX5_silent_6 (by decide) (fun q => ?_) (fun q => ?_)
    · rw [if_pos q] at h
      refine lv_aload_n hx hb dX5_silent_11 rfl (lv_at hl 0 rfl) ?_
      refine me_get (ci := 5) (C := RX5) (T := TX5) (N := 13) hx hb hts in_X5_silent_X5 hown hK hP hT.1 rfl 9 (by decide) (hts _ kX5_silent_f234) rfl dX5_silent_12 ?_
      refine lv_bipush (v := (6 : Int32)) hx hb dX5_silent_15 (by decide) ?_
      refine lv_icmp_lt (tgt := 23) hx hb dX5_silent_17 (by decide) (fun q => ?_) (fun q => ?_)
      · rw [if_pos q] at h
        refine lv_aload_n hx hb dX5_silent_23 rfl (lv_at hl 0 rfl) ?_
        refine lv_dup hx hb dX5_silent_24 rfl ?_
        refine me_get (ci := 5) (C := RX5) (T := TX5) (N := 13) hx hb hts in_X5_silent_X5 hown hK hP hT.1 rfl 9 (by decide) (hts _ kX5_silent_f234) rfl dX5_silent_25 ?_
        refine lv_iconst (v := (1 : Int32)) hx hb dX5_silent_28 (by decide) ?_
        refine lv_iadd hx hb dX5_silent_29 ?_
        refine me_put (ci := 5) (C := RX5) (T := TX5) (N := 13) hx hb hts in_X5_silent_X5 tyX5_ok nmX5 hown hK hI hP hS hT.1 rfl 9 (by decide) (hts _ kX5_silent_f234) rfl rfl rfl dX5_silent_30 (fun H locs M30 eM hP hS => ?_)
        replace h := s_put_inv h M30 eM
        refine lv_aload_n hx hb dX5_silent_33 rfl (lv_at hl 0 rfl) ?_
        refine lv_dup hx hb dX5_silent_34 rfl ?_
        refine me_get (ci := 5) (C := RX5) (T := TX5) (N := 13) hx hb hts in_X5_silent_X5 hown hK hP hT.1 rfl 10 (by decide) (hts _ kX5_silent_f237) rfl dX5_silent_35 ?_
        refine lv_iconst (v := (1 : Int32)) hx hb dX5_silent_38 (by decide) ?_
        refine lv_iload_n hx hb dX5_silent_39 rfl (lv_at hl 1 rfl) ?_
        refine lv_ishl hx hb dX5_silent_40 ?_
        refine lv_ior hx hb dX5_silent_41 ?_
        refine me_put (ci := 5) (C := RX5) (T := TX5) (N := 13) hx hb hts in_X5_silent_X5 tyX5_ok nmX5 hown hK hI hP hS hT.1 rfl 10 (by decide) (hts _ kX5_silent_f237) rfl rfl rfl dX5_silent_42 (fun H locs M42 eM hP hS => ?_)
        replace h := s_put_inv h M42 eM
        refine lv_aload_n hx hb dX5_silent_45 rfl (lv_at hl 0 rfl) ?_
        refine me_get (ci := 5) (C := RX5) (T := TX5) (N := 13) hx hb hts in_X5_silent_X5 hown hK hP hT.1 rfl 9 (by decide) (hts _ kX5_silent_f234) rfl dX5_silent_46 ?_
        exact me_iret hx hb hr hlk hP hS h dX5_silent_49
      · rw [if_neg q] at h
        refine lv_bipush (v := (-3 : Int32)) hx hb dX5_silent_20 (by decide) ?_
        exact me_iret hx hb hr hlk hP hS h dX5_silent_22
    · rw [if_neg q] at h
      refine lv_iconst (v := (-1 : Int32)) hx hb dX5_silent_9 (by decide) ?_
      exact me_iret hx hb hr hlk hP hS h dX5_silent_10
theorem c_X5_silent {l : Launch} {D : va_G} {cI : ClassId} {ad : Nat → Nat} {L : List CDs} {t : Nat} (hT : is_X5 L t) {x1 : Int32} {M M' : Mem} {r : Int32} (h : X5_silent t x1 M = some (r, M')) : me_Met l yX5_silent wsX5_silent rmX5_silent D cI ad L [.ref (ad t), .int x1] (some (.int r)) M M' :=
  me_ofW (by decide) rfl (Nat.le_of_ble_eq_true rfl) (fun p e s m below meth c C0 => w_X5_silent C0 t hT x1 M h)
abbrev rmX5_forget : Room := { frames := 1, cells := 0, slots := 0, locals := 20 }
theorem kX5_forget_f234 : (Cond.fieldLink RX5 234 "LadderOfBows" "silences" "I") ∈ wsX5_forget := List.mem_of_getElem? (i := 1) rfl
theorem in_X5_forget_X5 : ∀ w ∈ wsX50, w ∈ wsX5_forget := by decide +kernel
theorem hd_X5_forget : yX5_forget.cls = RX5 ∧ yX5_forget.cls ≠ "java/lang/invoke/MethodHandle" ∧ yX5_forget.cls ≠ "java/lang/invoke/VarHandle" ∧ (parseMethodDescriptor yX5_forget.desc).map (fun d => d.parameters.length) = some 0 := by decide +kernel
set_option maxRecDepth 100000 in
set_option maxHeartbeats 4000000 in
theorem w_X5_forget {p : Program} {l : Launch} {e : Env} {s : State} {m : MethodId} {args : Array Value} {below : List Frame} {meth : Method} {c : Code} {D : va_G} {cI : ClassId} {ad : Nat → Nat} {L : List CDs} {r : Int32} {M' : Mem} (C0 : me_X p s m args meth c cX5_forget 2 (some .int) wsX5_forget RX5 D cI ad L) (t : Nat) (hT : is_X5 L t) : ∀  (M : Mem), X5_forget t M = some (r, M') → me_W p l e rmX5_forget s m args below meth c D cI ad L (some (.int r)) M' 2 0 [(0, .ref (ad t))] [] M := by
  obtain ⟨hx, hb, hr, hml, hown, hts, hlk, hK, hI⟩ := id C0
  intro M h
  unfold X5_forget at h
  intro H locs ls hP hS hl
  refine lv_aload_n hx hb dX5_forget_0 rfl (lv_at hl 0 rfl) ?_
  refine me_get (ci := 5) (C := RX5) (T := TX5) (N := 13) hx hb hts in_X5_forget_X5 hown hK hP hT.1 rfl 9 (by decide) (hts _ kX5_forget_f234) rfl dX5_forget_1 ?_
  refine lv_topi (fun x1_4 ev => ?_)
  replace h := s_let_inv h x1_4 ev
  refine lv_istore_n (lv' := [(1, .int x1_4), (0, .ref (ad t))]) hx hb dX5_forget_4 rfl hl (by decide) rfl (fun ls hl => ?_)
  refine lv_aload_n hx hb dX5_forget_5 rfl (lv_at hl 1 rfl) ?_
  obtain ⟨u6, M6, h1, h⟩ := s_call_inv h
  refine me_callVv (As := []) (rest := []) ⟨hx, hb, hml, hown, hts⟩ (c_X5_forgetSilence hT h1) (cwV 0 hts gX5_forget_X5_forgetSilence rfl rfl rfl hd_X5_forgetSilence ⟨(Nat.le_of_ble_eq_true rfl), (Nat.le_of_ble_eq_true rfl)⟩) hK hI hP hS hT.1 rfl rfl hl.1 rfl (Nat.le_of_ble_eq_true rfl) dX5_forget_6 ⟨Nat.zero_le _, Nat.zero_le _⟩ (fun H locs hP hS => ?_)
  refine lv_iload_n hx hb dX5_forget_9 rfl (lv_at hl 0 rfl) ?_
  exact me_iret hx hb hr hlk hP hS h dX5_forget_10
theorem c_X5_forget {l : Launch} {D : va_G} {cI : ClassId} {ad : Nat → Nat} {L : List CDs} {t : Nat} (hT : is_X5 L t)  {M M' : Mem} {r : Int32} (h : X5_forget t M = some (r, M')) : me_Met l yX5_forget wsX5_forget rmX5_forget D cI ad L [.ref (ad t)] (some (.int r)) M M' :=
  me_ofW (by decide) rfl (Nat.le_of_ble_eq_true rfl) (fun p e s m below meth c C0 => w_X5_forget C0 t hT M h)
abbrev rmX5_wrongFits : Room := { frames := 5, cells := 0, slots := 0, locals := 113 }
theorem kX5_wrongFits_f31 : (Cond.fieldLink RX5 31 "LadderOfBows" "now" "LLadderOfBows$Town;") ∈ wsX5_wrongFits := List.mem_of_getElem? (i := 1) rfl
theorem kX5_wrongFits_f37 : (Cond.fieldLink RX5 37 "LadderOfBows" "trial" "LLadderOfBows$Town;") ∈ wsX5_wrongFits := List.mem_of_getElem? (i := 2) rfl
theorem kX5_wrongFits_f237 : (Cond.fieldLink RX5 237 "LadderOfBows" "silentStreets" "I") ∈ wsX5_wrongFits := List.mem_of_getElem? (i := 3) rfl
theorem in_X5_wrongFits_X5 : ∀ w ∈ wsX50, w ∈ wsX5_wrongFits := by decide +kernel
theorem hd_X5_wrongFits : yX5_wrongFits.cls = RX5 ∧ yX5_wrongFits.cls ≠ "java/lang/invoke/MethodHandle" ∧ yX5_wrongFits.cls ≠ "java/lang/invoke/VarHandle" ∧ (parseMethodDescriptor yX5_wrongFits.desc).map (fun d => d.parameters.length) = some 2 := by decide +kernel
set_option maxRecDepth 100000 in
set_option maxHeartbeats 4000000 in
theorem w_X5_wrongFits {p : Program} {l : Launch} {e : Env} {s : State} {m : MethodId} {args : Array Value} {below : List Frame} {meth : Method} {c : Code} {D : va_G} {cI : ClassId} {ad : Nat → Nat} {L : List CDs} {r : Int32} {M' : Mem} (C0 : me_X p s m args meth c cX5_wrongFits 3 (some .boolean) wsX5_wrongFits RX5 D cI ad L) (t : Nat) (hT : is_X5 L t) (x1 : Int32) (x2 : Int32) : ∀  (M : Mem), X5_wrongFits t x1 x2 M = some (r, M') → me_W p l e rmX5_wrongFits s m args below meth c D cI ad L (some (.int r)) M' 3 0 [(0, .ref (ad t)), (1, .int x1), (2, .int x2)] [] M := by
  obtain ⟨hx, hb, hr, hml, hown, hts, hlk, hK, hI⟩ := id C0
  intro M h
  unfold X5_wrongFits at h
  intro H locs ls hP hS hl
  refine lv_aload_n hx hb dX5_wrongFits_0 rfl (lv_at hl 0 rfl) ?_
  refine me_getr (ci := 5) (C := RX5) (T := TX5) (N := 13) hx hb hts in_X5_wrongFits_X5 hown hK hP hT.1 rfl 3 (by decide) (hts _ kX5_wrongFits_f31) rfl dX5_wrongFits_1 ?_
  refine lv_iconst (v := (0 : Int32)) hx hb dX5_wrongFits_4 (by decide) ?_
  refine lv_iload_n hx hb dX5_wrongFits_5 rfl (lv_at hl 1 rfl) ?_
  refine lv_iload_n hx hb dX5_wrongFits_6 rfl (lv_at hl 2 rfl) ?_
  obtain ⟨v7, M7, h1, h⟩ := s_call_inv h
  refine me_callVi (As := [.int (0 : Int32), .int x1, .int x2]) (rest := []) ⟨hx, hb, hml, hown, hts⟩ (c_X4_canBeDone hT.2.2.2.2.1 h1) (cwV 3 hts gX5_wrongFits_X4_canBeDone rfl rfl rfl hd_X4_canBeDone ⟨(Nat.le_of_ble_eq_true rfl), (Nat.le_of_ble_eq_true rfl)⟩) hK hI hP hS hT.2.2.2.2.1.1 rfl rfl hl.1 rfl (Nat.le_of_ble_eq_true rfl) dX5_wrongFits_7 ⟨Nat.zero_le _, Nat.zero_le _⟩ (fun H locs hP hS => ?_)
  refine lv_if_ne (tgt := 15) hx hb dX5_wrongFits_10 (by decide) (fun q => ?_) (fun q => ?_)
  · rw [if_pos q] at h
    refine lv_aload_n hx hb dX5_wrongFits_15 rfl (lv_at hl 0 rfl) ?_
    refine me_getr (ci := 5) (C := RX5) (T := TX5) (N := 13) hx hb hts in_X5_wrongFits_X5 hown hK hP hT.1 rfl 4 (by decide) (hts _ kX5_wrongFits_f37) rfl dX5_wrongFits_16 ?_
    refine lv_aload_n hx hb dX5_wrongFits_19 rfl (lv_at hl 0 rfl) ?_
    refine me_getr (ci := 5) (C := RX5) (T := TX5) (N := 13) hx hb hts in_X5_wrongFits_X5 hown hK hP hT.1 rfl 3 (by decide) (hts _ kX5_wrongFits_f31) rfl dX5_wrongFits_20 ?_
    obtain ⟨u23, M23, h1, h⟩ := s_call_inv h
    refine me_callVv (As := [.ref (ad (t + 16))]) (rest := []) ⟨hx, hb, hml, hown, hts⟩ (c_X4_copyFrom hT.2.2.2.2.2.1 hT.2.2.2.2.1 h1) (cwV 1 hts gX5_wrongFits_X4_copyFrom rfl rfl rfl hd_X4_copyFrom ⟨(Nat.le_of_ble_eq_true rfl), (Nat.le_of_ble_eq_true rfl)⟩) hK hI hP hS hT.2.2.2.2.2.1.1 rfl rfl hl.1 rfl (Nat.le_of_ble_eq_true rfl) dX5_wrongFits_23 ⟨Nat.zero_le _, Nat.zero_le _⟩ (fun H locs hP hS => ?_)
    refine lv_aload_n hx hb dX5_wrongFits_26 rfl (lv_at hl 0 rfl) ?_
    refine me_getr (ci := 5) (C := RX5) (T := TX5) (N := 13) hx hb hts in_X5_wrongFits_X5 hown hK hP hT.1 rfl 4 (by decide) (hts _ kX5_wrongFits_f37) rfl dX5_wrongFits_27 ?_
    refine lv_iconst (v := (0 : Int32)) hx hb dX5_wrongFits_30 (by decide) ?_
    refine lv_iload_n hx hb dX5_wrongFits_31 rfl (lv_at hl 1 rfl) ?_
    refine lv_iload_n hx hb dX5_wrongFits_32 rfl (lv_at hl 2 rfl) ?_
    obtain ⟨u33, M33, h1, h⟩ := s_call_inv h
    refine me_callVv (As := [.int (0 : Int32), .int x1, .int x2]) (rest := []) ⟨hx, hb, hml, hown, hts⟩ (c_X4_perform hT.2.2.2.2.2.1 h1) (cwV 3 hts gX5_wrongFits_X4_perform rfl rfl rfl hd_X4_perform ⟨(Nat.le_of_ble_eq_true rfl), (Nat.le_of_ble_eq_true rfl)⟩) hK hI hP hS hT.2.2.2.2.2.1.1 rfl rfl hl.1 rfl (Nat.le_of_ble_eq_true rfl) dX5_wrongFits_33 ⟨Nat.zero_le _, Nat.zero_le _⟩ (fun H locs hP hS => ?_)
    refine lv_aload_n hx hb dX5_wrongFits_36 rfl (lv_at hl 0 rfl) ?_
    refine me_getr (ci := 5) (C := RX5) (T := TX5) (N := 13) hx hb hts in_X5_wrongFits_X5 hown hK hP hT.1 rfl 4 (by decide) (hts _ kX5_wrongFits_f37) rfl dX5_wrongFits_37 ?_
    refine lv_aload_n hx hb dX5_wrongFits_40 rfl (lv_at hl 0 rfl) ?_
    refine me_get (ci := 5) (C := RX5) (T := TX5) (N := 13) hx hb hts in_X5_wrongFits_X5 hown hK hP hT.1 rfl 10 (by decide) (hts _ kX5_wrongFits_f237) rfl dX5_wrongFits_41 ?_
    obtain ⟨v44, M44, h1, h⟩ := s_call_inv h
    refine me_callVi (As := [.int (M33 t 10)]) (rest := []) ⟨hx, hb, hml, hown, hts⟩ (c_X4_anySpeakIn hT.2.2.2.2.2.1 h1) (cwV 1 hts gX5_wrongFits_X4_anySpeakIn rfl rfl rfl hd_X4_anySpeakIn ⟨(Nat.le_of_ble_eq_true rfl), (Nat.le_of_ble_eq_true rfl)⟩) hK hI hP hS hT.2.2.2.2.2.1.1 rfl rfl hl.1 rfl (Nat.le_of_ble_eq_true rfl) dX5_wrongFits_44 ⟨Nat.zero_le _, Nat.zero_le _⟩ (fun H locs hP hS => ?_)
    refine lv_if_ne (tgt := 54) hx hb dX5_wrongFits_47 (by decide) (fun q => ?_) (fun q => ?_)
    · rw [if_pos q] at h
      refine lv_iconst (v := (0 : Int32)) hx hb dX5_wrongFits_54 (by decide) ?_
      exact me_zret hx hb hr hlk hP hS h dX5_wrongFits_55
    · rw [if_neg (not_not_intro q)] at h
      refine lv_iconst (v := (1 : Int32)) hx hb dX5_wrongFits_50 (by decide) ?_
      refine lv_goto (tgt := 55) hx hb dX5_wrongFits_51 (by decide) ?_
      exact me_zret hx hb hr hlk hP hS h dX5_wrongFits_55
  · rw [if_neg (not_not_intro q)] at h
    refine lv_iconst (v := (0 : Int32)) hx hb dX5_wrongFits_13 (by decide) ?_
    exact me_zret hx hb hr hlk hP hS h dX5_wrongFits_14
theorem c_X5_wrongFits {l : Launch} {D : va_G} {cI : ClassId} {ad : Nat → Nat} {L : List CDs} {t : Nat} (hT : is_X5 L t) {x1 : Int32} {x2 : Int32} {M M' : Mem} {r : Int32} (h : X5_wrongFits t x1 x2 M = some (r, M')) : me_Met l yX5_wrongFits wsX5_wrongFits rmX5_wrongFits D cI ad L [.ref (ad t), .int x1, .int x2] (some (.int r)) M M' :=
  me_ofW (by decide) rfl (Nat.le_of_ble_eq_true rfl) (fun p e s m below meth c C0 => w_X5_wrongFits C0 t hT x1 x2 M h)
abbrev rmX5_fits : Room := { frames := 6, cells := 0, slots := 0, locals := 135 }
theorem kX5_fits_f31 : (Cond.fieldLink RX5 31 "LadderOfBows" "now" "LLadderOfBows$Town;") ∈ wsX5_fits := List.mem_of_getElem? (i := 1) rfl
theorem in_X5_fits_X5 : ∀ w ∈ wsX50, w ∈ wsX5_fits := by decide +kernel
theorem hd_X5_fits : yX5_fits.cls = RX5 ∧ yX5_fits.cls ≠ "java/lang/invoke/MethodHandle" ∧ yX5_fits.cls ≠ "java/lang/invoke/VarHandle" ∧ (parseMethodDescriptor yX5_fits.desc).map (fun d => d.parameters.length) = some 1 := by decide +kernel
set_option maxRecDepth 100000 in
set_option maxHeartbeats 4000000 in
theorem w_X5_fits_32 {p : Program} {l : Launch} {e : Env} {s : State} {m : MethodId} {args : Array Value} {below : List Frame} {meth : Method} {c : Code} {D : va_G} {cI : ClassId} {ad : Nat → Nat} {L : List CDs} {r : Int32} {M' : Mem} (C0 : me_X p s m args meth c cX5_fits 6 (some .int) wsX5_fits RX5 D cI ad L) (t : Nat) (hT : is_X5 L t) (x1 : Int32) (x4 : Int32) (k17 : Int32 → Int32 → Int32 → Mem → Option (Int32 × Mem)) (hk17 : ∀ (x2 : Int32) (x3 : Int32) (x4 : Int32) (M : Mem), k17 x2 x3 x4 M = some (r, M') → me_W p l e rmX5_fits s m args below meth c D cI ad L (some (.int r)) M' 6 17 [(0, .ref (ad t)), (1, .int x1), (2, .int x2), (3, .int x3), (4, .int x4)] [] M) : ∀ (n : Nat) (x2 : Int32) (x3 : Int32) (x5 : Int32) (M : Mem), X5_fits_32 t x1 x4 k17 n x2 x3 x5 M = some (r, M') → me_W p l e rmX5_fits s m args below meth c D cI ad L (some (.int r)) M' 6 32 [(0, .ref (ad t)), (1, .int x1), (2, .int x2), (3, .int x3), (4, .int x4), (5, .int x5)] [] M := by
  obtain ⟨hx, hb, hr, hml, hown, hts, hlk, hK, hI⟩ := id C0
  intro n
  induction n with
  | zero =>
    intro x2 x3 x5 M h
    rw [X5_fits_32] at h
    cases h
  | succ n ih =>
    intro x2 x3 x5 M h
    rw [X5_fits_32] at h
    intro H locs ls hP hS hl
    refine lv_iload hx hb dX5_fits_32 (lv_at hl 5 rfl) ?_
    refine lv_aload_n hx hb dX5_fits_34 rfl (lv_at hl 0 rfl) ?_
    refine me_getr (ci := 5) (C := RX5) (T := TX5) (N := 13) hx hb hts in_X5_fits_X5 hown hK hP hT.1 rfl 3 (by decide) (hts _ kX5_fits_f31) rfl dX5_fits_35 ?_
    obtain ⟨v38, M38, h1, h⟩ := s_call_inv h
    refine me_callVi (As := []) (rest := [.int x5]) ⟨hx, hb, hml, hown, hts⟩ (c_X4_persons hT.2.2.2.2.1 h1) (cwV 0 hts gX5_fits_X4_persons rfl rfl rfl hd_X4_persons ⟨(Nat.le_of_ble_eq_true rfl), (Nat.le_of_ble_eq_true rfl)⟩) hK hI hP hS hT.2.2.2.2.1.1 rfl rfl hl.1 rfl (Nat.le_of_ble_eq_true rfl) dX5_fits_38 ⟨Nat.zero_le _, Nat.zero_le _⟩ (fun H locs hP hS => ?_)
    refine lv_icmp_ge (tgt := 80) hx hb dX5_fits_41 (by decide) (fun q => ?_) (fun q => ?_)
    · rw [if_pos q] at h
      refine lv_iinc (k := 4) (v := (x4 + (1 : Int32))) (lv' := [(4, .int (x4 + (1 : Int32))), (0, .ref (ad t)), (1, .int x1), (2, .int x2), (3, .int x3), (5, .int x5)]) hx hb dX5_fits_80 hl rfl rfl (by decide) rfl (fun ls hl => ?_)
      refine lv_goto (tgt := 17) hx hb dX5_fits_83 (by decide) ?_
      exact hk17 x2 x3 (x4 + (1 : Int32)) M38 h H locs ls hP hS (lv_sub hl [1, 2, 3, 4, 0] rfl)
    · rw [if_neg q] at h
      refine lv_aload_n hx hb dX5_fits_44 rfl (lv_at hl 0 rfl) ?_
      refine lv_iload hx hb dX5_fits_45 (lv_at hl 4 rfl) ?_
      refine lv_iload hx hb dX5_fits_47 (lv_at hl 5 rfl) ?_
      obtain ⟨v49, M49, h1, h⟩ := s_call_inv h
      refine me_callVi (As := [.int x4, .int x5]) (rest := []) ⟨hx, hb, hml, hown, hts⟩ (c_X5_wrongFits hT h1) (cwV 2 hts gX5_fits_X5_wrongFits rfl rfl rfl hd_X5_wrongFits ⟨(Nat.le_of_ble_eq_true rfl), (Nat.le_of_ble_eq_true rfl)⟩) hK hI hP hS hT.1 rfl rfl hl.1 rfl (Nat.le_of_ble_eq_true rfl) dX5_fits_49 ⟨Nat.zero_le _, Nat.zero_le _⟩ (fun H locs hP hS => ?_)
      refine lv_if_eq (tgt := 74) hx hb dX5_fits_52 (by decide) (fun q => ?_) (fun q => ?_)
      · rw [if_pos q] at h
        refine lv_iinc (k := 5) (v := (x5 + (1 : Int32))) (lv' := [(5, .int (x5 + (1 : Int32))), (0, .ref (ad t)), (1, .int x1), (2, .int x2), (3, .int x3), (4, .int x4)]) hx hb dX5_fits_74 hl rfl rfl (by decide) rfl (fun ls hl => ?_)
        refine lv_goto (tgt := 32) hx hb dX5_fits_77 (by decide) ?_
        exact ih x2 x3 (x5 + (1 : Int32)) M49 h H locs ls hP hS (lv_sub hl [1, 2, 3, 4, 5, 0] rfl)
      · rw [if_neg q] at h
        refine lv_iload_n hx hb dX5_fits_55 rfl (lv_at hl 2 rfl) ?_
        refine lv_if_ne (tgt := 69) hx hb dX5_fits_56 (by decide) (fun q => ?_) (fun q => ?_)
        · rw [if_pos q] at h
          refine lv_iload_n hx hb dX5_fits_69 rfl (lv_at hl 3 rfl) ?_
          refine lv_istore_n (lv' := [(3, .int x3), (0, .ref (ad t)), (1, .int x1), (2, .int x2), (4, .int x4), (5, .int x5)]) hx hb dX5_fits_70 rfl hl (by decide) rfl (fun ls hl => ?_)
          refine lv_iinc (k := 3) (v := (x2 + (1 : Int32))) (lv' := [(2, .int (x2 + (1 : Int32))), (3, .int x3), (0, .ref (ad t)), (1, .int x1), (4, .int x4), (5, .int x5)]) hx hb dX5_fits_71 hl rfl rfl (by decide) rfl (fun ls hl => ?_)
          refine lv_iinc (k := 5) (v := (x5 + (1 : Int32))) (lv' := [(5, .int (x5 + (1 : Int32))), (2, .int (x2 + (1 : Int32))), (3, .int x3), (0, .ref (ad t)), (1, .int x1), (4, .int x4)]) hx hb dX5_fits_74 hl rfl rfl (by decide) rfl (fun ls hl => ?_)
          refine lv_goto (tgt := 32) hx hb dX5_fits_77 (by decide) ?_
          exact ih (x2 + (1 : Int32)) x3 (x5 + (1 : Int32)) M49 h H locs ls hP hS (lv_sub hl [3, 4, 1, 2, 5, 0] rfl)
        · rw [if_neg (not_not_intro q)] at h
          refine lv_iload hx hb dX5_fits_59 (lv_at hl 4 rfl) ?_
          refine lv_iload hx hb dX5_fits_61 (lv_at hl 5 rfl) ?_
          obtain ⟨v63, M63, h1, h⟩ := s_call_inv h
          refine me_callSi (As := [.int x4, .int x5]) (rest := []) ⟨hx, hb, hml, hown, hts⟩ (c_X5_twoAsNumber h1) (va_cwS 2 hts gX5_fits_X5_twoAsNumber rfl rfl rfl hd_X5_twoAsNumber.2 ⟨(Nat.le_of_ble_eq_true rfl), (Nat.le_of_ble_eq_true rfl)⟩) hK hI hP hS rfl hl.1 rfl (Nat.le_of_ble_eq_true rfl) dX5_fits_63 ⟨Nat.zero_le _, Nat.zero_le _⟩ (fun H locs hP hS => ?_)
          refine lv_goto (tgt := 70) hx hb dX5_fits_66 (by decide) ?_
          refine lv_istore_n (lv' := [(3, .int v63), (0, .ref (ad t)), (1, .int x1), (2, .int x2), (4, .int x4), (5, .int x5)]) hx hb dX5_fits_70 rfl hl (by decide) rfl (fun ls hl => ?_)
          refine lv_iinc (k := 3) (v := (x2 + (1 : Int32))) (lv' := [(2, .int (x2 + (1 : Int32))), (3, .int v63), (0, .ref (ad t)), (1, .int x1), (4, .int x4), (5, .int x5)]) hx hb dX5_fits_71 hl rfl rfl (by decide) rfl (fun ls hl => ?_)
          refine lv_iinc (k := 5) (v := (x5 + (1 : Int32))) (lv' := [(5, .int (x5 + (1 : Int32))), (2, .int (x2 + (1 : Int32))), (3, .int v63), (0, .ref (ad t)), (1, .int x1), (4, .int x4)]) hx hb dX5_fits_74 hl rfl rfl (by decide) rfl (fun ls hl => ?_)
          refine lv_goto (tgt := 32) hx hb dX5_fits_77 (by decide) ?_
          exact ih (x2 + (1 : Int32)) v63 (x5 + (1 : Int32)) M63 h H locs ls hP hS (lv_sub hl [3, 4, 1, 2, 5, 0] rfl)
set_option maxRecDepth 100000 in
set_option maxHeartbeats 4000000 in
theorem w_X5_fits_17 {p : Program} {l : Launch} {e : Env} {s : State} {m : MethodId} {args : Array Value} {below : List Frame} {meth : Method} {c : Code} {D : va_G} {cI : ClassId} {ad : Nat → Nat} {L : List CDs} {r : Int32} {M' : Mem} (C0 : me_X p s m args meth c cX5_fits 6 (some .int) wsX5_fits RX5 D cI ad L) (t : Nat) (hT : is_X5 L t) (x1 : Int32) : ∀ (n : Nat) (x2 : Int32) (x3 : Int32) (x4 : Int32) (M : Mem), X5_fits_17 t x1 n x2 x3 x4 M = some (r, M') → me_W p l e rmX5_fits s m args below meth c D cI ad L (some (.int r)) M' 6 17 [(0, .ref (ad t)), (1, .int x1), (2, .int x2), (3, .int x3), (4, .int x4)] [] M := by
  obtain ⟨hx, hb, hr, hml, hown, hts, hlk, hK, hI⟩ := id C0
  intro n
  induction n with
  | zero =>
    intro x2 x3 x4 M h
    rw [X5_fits_17] at h
    cases h
  | succ n ih =>
    intro x2 x3 x4 M h
    rw [X5_fits_17] at h
    intro H locs ls hP hS hl
    refine lv_iload hx hb dX5_fits_17 (lv_at hl 4 rfl) ?_
    refine lv_aload_n hx hb dX5_fits_19 rfl (lv_at hl 0 rfl) ?_
    refine me_getr (ci := 5) (C := RX5) (T := TX5) (N := 13) hx hb hts in_X5_fits_X5 hown hK hP hT.1 rfl 3 (by decide) (hts _ kX5_fits_f31) rfl dX5_fits_20 ?_
    obtain ⟨v23, M23, h1, h⟩ := s_call_inv h
    refine me_callVi (As := []) (rest := [.int x4]) ⟨hx, hb, hml, hown, hts⟩ (c_X4_persons hT.2.2.2.2.1 h1) (cwV 0 hts gX5_fits_X4_persons rfl rfl rfl hd_X4_persons ⟨(Nat.le_of_ble_eq_true rfl), (Nat.le_of_ble_eq_true rfl)⟩) hK hI hP hS hT.2.2.2.2.1.1 rfl rfl hl.1 rfl (Nat.le_of_ble_eq_true rfl) dX5_fits_23 ⟨Nat.zero_le _, Nat.zero_le _⟩ (fun H locs hP hS => ?_)
    refine lv_icmp_ge (tgt := 86) hx hb dX5_fits_26 (by decide) (fun q => ?_) (fun q => ?_)
    · rw [if_pos q] at h
      refine lv_iload_n hx hb dX5_fits_86 rfl (lv_at hl 1 rfl) ?_
      refine lv_if_ne (tgt := 94) hx hb dX5_fits_87 (by decide) (fun q => ?_) (fun q => ?_)
      · rw [if_pos q] at h
        refine lv_iload_n hx hb dX5_fits_94 rfl (lv_at hl 3 rfl) ?_
        exact me_iret hx hb hr hlk hP hS h dX5_fits_95
      · rw [if_neg (not_not_intro q)] at h
        refine lv_iload_n hx hb dX5_fits_90 rfl (lv_at hl 2 rfl) ?_
        refine lv_goto (tgt := 95) hx hb dX5_fits_91 (by decide) ?_
        exact me_iret hx hb hr hlk hP hS h dX5_fits_95
    · rw [if_neg q] at h
      refine lv_iconst (v := (0 : Int32)) hx hb dX5_fits_29 (by decide) ?_
      refine lv_istore (lv' := [(5, .int (0 : Int32)), (0, .ref (ad t)), (1, .int x1), (2, .int x2), (3, .int x3), (4, .int x4)]) hx hb dX5_fits_30 hl (by decide) rfl (fun ls hl => ?_)
      exact w_X5_fits_32 C0 t hT x1 x4 (X5_fits_17 t x1 n) (fun x2 x3 x4 M h => ih x2 x3 x4 M h) FU x2 x3 (0 : Int32) M23 h H locs ls hP hS (lv_sub hl [1, 2, 3, 4, 5, 0] rfl)
set_option maxRecDepth 100000 in
set_option maxHeartbeats 4000000 in
theorem w_X5_fits {p : Program} {l : Launch} {e : Env} {s : State} {m : MethodId} {args : Array Value} {below : List Frame} {meth : Method} {c : Code} {D : va_G} {cI : ClassId} {ad : Nat → Nat} {L : List CDs} {r : Int32} {M' : Mem} (C0 : me_X p s m args meth c cX5_fits 6 (some .int) wsX5_fits RX5 D cI ad L) (t : Nat) (hT : is_X5 L t) (x1 : Int32) : ∀  (M : Mem), X5_fits t x1 M = some (r, M') → me_W p l e rmX5_fits s m args below meth c D cI ad L (some (.int r)) M' 6 0 [(0, .ref (ad t)), (1, .int x1)] [] M := by
  obtain ⟨hx, hb, hr, hml, hown, hts, hlk, hK, hI⟩ := id C0
  intro M h
  unfold X5_fits at h
  intro H locs ls hP hS hl
  refine lv_iload_n hx hb dX5_fits_0 rfl (lv_at hl 1 rfl) ?_
  obtain ⟨v1, M1, h1, h⟩ := s_call_inv h
  refine me_callSi (As := [.int x1]) (rest := []) ⟨hx, hb, hml, hown, hts⟩ (c_X5_isZeroOrOne h1) (va_cwS 1 hts gX5_fits_X5_isZeroOrOne rfl rfl rfl hd_X5_isZeroOrOne.2 ⟨(Nat.le_of_ble_eq_true rfl), (Nat.le_of_ble_eq_true rfl)⟩) hK hI hP hS rfl hl.1 rfl (Nat.le_of_ble_eq_true rfl) dX5_fits_1 ⟨Nat.zero_le _, Nat.zero_le _⟩ (fun H locs hP hS => ?_)
  refine lv_if_ne (tgt := 9) hx hb dX5_fits_4 (by decide) (fun q => ?_) (fun q => ?_)
  · rw [if_pos q] at h
    refine lv_iconst (v := (0 : Int32)) hx hb dX5_fits_9 (by decide) ?_
    refine lv_istore_n (lv' := [(2, .int (0 : Int32)), (0, .ref (ad t)), (1, .int x1)]) hx hb dX5_fits_10 rfl hl (by decide) rfl (fun ls hl => ?_)
    refine lv_bipush (v := (-4 : Int32)) hx hb dX5_fits_11 (by decide) ?_
    refine lv_istore_n (lv' := [(3, .int (-4 : Int32)), (2, .int (0 : Int32)), (0, .ref (ad t)), (1, .int x1)]) hx hb dX5_fits_13 rfl hl (by decide) rfl (fun ls hl => ?_)
    refine lv_iconst (v := (0 : Int32)) hx hb dX5_fits_14 (by decide) ?_
    refine lv_istore (lv' := [(4, .int (0 : Int32)), (3, .int (-4 : Int32)), (2, .int (0 : Int32)), (0, .ref (ad t)), (1, .int x1)]) hx hb dX5_fits_15 hl (by decide) rfl (fun ls hl => ?_)
    exact w_X5_fits_17 C0 t hT x1 FU (0 : Int32) (-4 : Int32) (0 : Int32) M1 h H locs ls hP hS (lv_sub hl [3, 4, 2, 1, 0] rfl)
  · rw [if_neg (not_not_intro q)] at h
    refine lv_iconst (v := (-1 : Int32)) hx hb dX5_fits_7 (by decide) ?_
    exact me_iret hx hb hr hlk hP hS h dX5_fits_8
theorem c_X5_fits {l : Launch} {D : va_G} {cI : ClassId} {ad : Nat → Nat} {L : List CDs} {t : Nat} (hT : is_X5 L t) {x1 : Int32} {M M' : Mem} {r : Int32} (h : X5_fits t x1 M = some (r, M')) : me_Met l yX5_fits wsX5_fits rmX5_fits D cI ad L [.ref (ad t), .int x1] (some (.int r)) M M' :=
  me_ofW (by decide) rfl (Nat.le_of_ble_eq_true rfl) (fun p e s m below meth c C0 => w_X5_fits C0 t hT x1 M h)
abbrev rmX5_bowsInStep : Room := { frames := 5, cells := 0, slots := 0, locals := 113 }
theorem kX5_bowsInStep_f37 : (Cond.fieldLink RX5 37 "LadderOfBows" "trial" "LLadderOfBows$Town;") ∈ wsX5_bowsInStep := List.mem_of_getElem? (i := 1) rfl
theorem kX5_bowsInStep_c280 : (Cond.constantLong RX5 280 (7919)) ∈ wsX5_bowsInStep := List.mem_of_getElem? (i := 2) rfl
theorem kX5_bowsInStep_c282 : (Cond.constantLong RX5 282 (6151)) ∈ wsX5_bowsInStep := List.mem_of_getElem? (i := 3) rfl
theorem kX5_bowsInStep_c284 : (Cond.constantLong RX5 284 (65521)) ∈ wsX5_bowsInStep := List.mem_of_getElem? (i := 4) rfl
theorem in_X5_bowsInStep_X5 : ∀ w ∈ wsX50, w ∈ wsX5_bowsInStep := by decide +kernel
theorem hd_X5_bowsInStep : yX5_bowsInStep.cls = RX5 ∧ yX5_bowsInStep.cls ≠ "java/lang/invoke/MethodHandle" ∧ yX5_bowsInStep.cls ≠ "java/lang/invoke/VarHandle" ∧ (parseMethodDescriptor yX5_bowsInStep.desc).map (fun d => d.parameters.length) = some 2 := by decide +kernel
set_option maxRecDepth 100000 in
set_option maxHeartbeats 4000000 in
theorem w_X5_bowsInStep_93 {p : Program} {l : Launch} {e : Env} {s : State} {m : MethodId} {args : Array Value} {below : List Frame} {meth : Method} {c : Code} {D : va_G} {cI : ClassId} {ad : Nat → Nat} {L : List CDs} {r : Int32} {M' : Mem} (C0 : me_X p s m args meth c cX5_bowsInStep 11 (some .int) wsX5_bowsInStep RX5 D cI ad L) (t : Nat) (hT : is_X5 L t) (x7 : Int32) (x8 : Int32) : ∀ (y0 : Int32) (M : Mem), X5_bowsInStep_93 t x7 x8 y0 M = some (r, M') → me_W p l e rmX5_bowsInStep s m args below meth c D cI ad L (some (.int r)) M' 11 93 [(0, .ref (ad t)), (7, .int x7), (8, .int x8)] [.int y0] M := by
  obtain ⟨hx, hb, hr, hml, hown, hts, hlk, hK, hI⟩ := id C0
  intro y0 M h
  unfold X5_bowsInStep_93 at h
  intro H locs ls hP hS hl
  refine lv_istore (lv' := [(10, .int y0), (0, .ref (ad t)), (7, .int x7), (8, .int x8)]) hx hb dX5_bowsInStep_93 hl (by decide) rfl (fun ls hl => ?_)
  refine lv_aload_n hx hb dX5_bowsInStep_95 rfl (lv_at hl 1 rfl) ?_
  refine me_getr (ci := 5) (C := RX5) (T := TX5) (N := 13) hx hb hts in_X5_bowsInStep_X5 hown hK hP hT.1 rfl 4 (by decide) (hts _ kX5_bowsInStep_f37) rfl dX5_bowsInStep_96 ?_
  refine lv_iload hx hb dX5_bowsInStep_99 (lv_at hl 0 rfl) ?_
  refine lv_iload hx hb dX5_bowsInStep_101 (lv_at hl 2 rfl) ?_
  refine lv_iload hx hb dX5_bowsInStep_103 (lv_at hl 3 rfl) ?_
  obtain ⟨v105, M105, h1, h⟩ := s_call_inv h
  refine me_callVi (As := [.int y0, .int x7, .int x8]) (rest := []) ⟨hx, hb, hml, hown, hts⟩ (c_X4_canBeDone hT.2.2.2.2.2.1 h1) (cwV 3 hts gX5_bowsInStep_X4_canBeDone rfl rfl rfl hd_X4_canBeDone ⟨(Nat.le_of_ble_eq_true rfl), (Nat.le_of_ble_eq_true rfl)⟩) hK hI hP hS hT.2.2.2.2.2.1.1 rfl rfl hl.1 rfl (Nat.le_of_ble_eq_true rfl) dX5_bowsInStep_105 ⟨Nat.zero_le _, Nat.zero_le _⟩ (fun H locs hP hS => ?_)
  refine lv_if_ne (tgt := 113) hx hb dX5_bowsInStep_108 (by decide) (fun q => ?_) (fun q => ?_)
  · rw [if_pos q] at h
    refine lv_aload_n hx hb dX5_bowsInStep_113 rfl (lv_at hl 1 rfl) ?_
    refine me_getr (ci := 5) (C := RX5) (T := TX5) (N := 13) hx hb hts in_X5_bowsInStep_X5 hown hK hP hT.1 rfl 4 (by decide) (hts _ kX5_bowsInStep_f37) rfl dX5_bowsInStep_114 ?_
    refine lv_iload hx hb dX5_bowsInStep_117 (lv_at hl 0 rfl) ?_
    refine lv_iload hx hb dX5_bowsInStep_119 (lv_at hl 2 rfl) ?_
    refine lv_iload hx hb dX5_bowsInStep_121 (lv_at hl 3 rfl) ?_
    obtain ⟨u123, M123, h1, h⟩ := s_call_inv h
    refine me_callVv (As := [.int y0, .int x7, .int x8]) (rest := []) ⟨hx, hb, hml, hown, hts⟩ (c_X4_perform hT.2.2.2.2.2.1 h1) (cwV 3 hts gX5_bowsInStep_X4_perform rfl rfl rfl hd_X4_perform ⟨(Nat.le_of_ble_eq_true rfl), (Nat.le_of_ble_eq_true rfl)⟩) hK hI hP hS hT.2.2.2.2.2.1.1 rfl rfl hl.1 rfl (Nat.le_of_ble_eq_true rfl) dX5_bowsInStep_123 ⟨Nat.zero_le _, Nat.zero_le _⟩ (fun H locs hP hS => ?_)
    refine lv_iload hx hb dX5_bowsInStep_126 (lv_at hl 0 rfl) ?_
    refine lv_iconst (v := (1 : Int32)) hx hb dX5_bowsInStep_128 (by decide) ?_
    refine lv_icmp_ne (tgt := 136) hx hb dX5_bowsInStep_129 (by decide) (fun q => ?_) (fun q => ?_)
    · rw [if_pos q] at h
      refine lv_iconst (v := (0 : Int32)) hx hb dX5_bowsInStep_136 (by decide) ?_
      obtain ⟨v137, M137, h1, h⟩ := s_call_inv h
      refine me_callSi (As := [.int (0 : Int32)]) (rest := []) ⟨hx, hb, hml, hown, hts⟩ (c_X5_asNumber h1) (va_cwS 1 hts gX5_bowsInStep_X5_asNumber rfl rfl rfl hd_X5_asNumber.2 ⟨(Nat.le_of_ble_eq_true rfl), (Nat.le_of_ble_eq_true rfl)⟩) hK hI hP hS rfl hl.1 rfl (Nat.le_of_ble_eq_true rfl) dX5_bowsInStep_137 ⟨Nat.zero_le _, Nat.zero_le _⟩ (fun H locs hP hS => ?_)
      exact me_iret hx hb hr hlk hP hS h dX5_bowsInStep_140
    · rw [if_neg (not_not_intro q)] at h
      refine lv_iconst (v := (1 : Int32)) hx hb dX5_bowsInStep_132 (by decide) ?_
      refine lv_goto (tgt := 137) hx hb dX5_bowsInStep_133 (by decide) ?_
      obtain ⟨v137, M137, h1, h⟩ := s_call_inv h
      refine me_callSi (As := [.int (1 : Int32)]) (rest := []) ⟨hx, hb, hml, hown, hts⟩ (c_X5_asNumber h1) (va_cwS 1 hts gX5_bowsInStep_X5_asNumber rfl rfl rfl hd_X5_asNumber.2 ⟨(Nat.le_of_ble_eq_true rfl), (Nat.le_of_ble_eq_true rfl)⟩) hK hI hP hS rfl hl.1 rfl (Nat.le_of_ble_eq_true rfl) dX5_bowsInStep_137 ⟨Nat.zero_le _, Nat.zero_le _⟩ (fun H locs hP hS => ?_)
      exact me_iret hx hb hr hlk hP hS h dX5_bowsInStep_140
  · rw [if_neg (not_not_intro q)] at h
    refine lv_iconst (v := (0 : Int32)) hx hb dX5_bowsInStep_111 (by decide) ?_
    exact me_iret hx hb hr hlk hP hS h dX5_bowsInStep_112
set_option maxRecDepth 100000 in
set_option maxHeartbeats 4000000 in
theorem w_X5_bowsInStep {p : Program} {l : Launch} {e : Env} {s : State} {m : MethodId} {args : Array Value} {below : List Frame} {meth : Method} {c : Code} {D : va_G} {cI : ClassId} {ad : Nat → Nat} {L : List CDs} {r : Int32} {M' : Mem} (C0 : me_X p s m args meth c cX5_bowsInStep 11 (some .int) wsX5_bowsInStep RX5 D cI ad L) (t : Nat) (hT : is_X5 L t) (x1 : Int32) (x2 : Int32) : ∀  (M : Mem), X5_bowsInStep t x1 x2 M = some (r, M') → me_W p l e rmX5_bowsInStep s m args below meth c D cI ad L (some (.int r)) M' 11 0 [(0, .ref (ad t)), (1, .int x1), (2, .int x2)] [] M := by
  obtain ⟨hx, hb, hr, hml, hown, hts, hlk, hK, hI⟩ := id C0
  intro M h
  unfold X5_bowsInStep at h
  intro H locs ls hP hS hl
  refine lv_aload_n hx hb dX5_bowsInStep_0 rfl (lv_at hl 0 rfl) ?_
  refine me_getr (ci := 5) (C := RX5) (T := TX5) (N := 13) hx hb hts in_X5_bowsInStep_X5 hown hK hP hT.1 rfl 4 (by decide) (hts _ kX5_bowsInStep_f37) rfl dX5_bowsInStep_1 ?_
  obtain ⟨v4, M4, h1, h⟩ := s_call_inv h
  refine me_callVi (As := []) (rest := []) ⟨hx, hb, hml, hown, hts⟩ (c_X4_persons hT.2.2.2.2.2.1 h1) (cwV 0 hts gX5_bowsInStep_X4_persons rfl rfl rfl hd_X4_persons ⟨(Nat.le_of_ble_eq_true rfl), (Nat.le_of_ble_eq_true rfl)⟩) hK hI hP hS hT.2.2.2.2.2.1.1 rfl rfl hl.1 rfl (Nat.le_of_ble_eq_true rfl) dX5_bowsInStep_4 ⟨Nat.zero_le _, Nat.zero_le _⟩ (fun H locs hP hS => ?_)
  refine lv_istore_n (lv' := [(3, .int v4), (0, .ref (ad t)), (1, .int x1), (2, .int x2)]) hx hb dX5_bowsInStep_7 rfl hl (by decide) rfl (fun ls hl => ?_)
  refine lv_iload_n hx hb dX5_bowsInStep_8 rfl (lv_at hl 0 rfl) ?_
  refine lv_iconst (v := (1 : Int32)) hx hb dX5_bowsInStep_9 (by decide) ?_
  refine lv_icmp_ge (tgt := 15) hx hb dX5_bowsInStep_10 (by decide) (fun q => ?_) (fun q => ?_)
  · rw [if_pos q] at h
    refine lv_ldc2 (v := (7919 : Int64)) hx hb hown (hts _ kX5_bowsInStep_c280) dX5_bowsInStep_15 ?_
    refine lv_iload_n hx hb dX5_bowsInStep_18 rfl (lv_at hl 2 rfl) ?_
    refine lv_i2l (v := (x1).toInt64) hx hb dX5_bowsInStep_19 rfl ?_
    refine lv_lmul hx hb dX5_bowsInStep_20 ?_
    refine lv_ldc2 (v := (6151 : Int64)) hx hb hown (hts _ kX5_bowsInStep_c282) dX5_bowsInStep_21 ?_
    refine lv_iload_n hx hb dX5_bowsInStep_24 rfl (lv_at hl 3 rfl) ?_
    refine lv_i2l (v := (x2).toInt64) hx hb dX5_bowsInStep_25 rfl ?_
    refine lv_lmul hx hb dX5_bowsInStep_26 ?_
    refine lv_ladd hx hb dX5_bowsInStep_27 ?_
    refine lv_lconst (v := (1 : Int64)) hx hb dX5_bowsInStep_28 (by decide) ?_
    refine lv_ladd hx hb dX5_bowsInStep_29 ?_
    refine lv_topl (fun x4_30 ev => ?_)
    replace h := s_letl_inv h x4_30 ev
    refine lv_lstore (lv' := [(4, .long x4_30), (3, .int v4), (0, .ref (ad t)), (1, .int x1), (2, .int x2)]) hx hb dX5_bowsInStep_30 hl (by decide) rfl (fun ls hl => ?_)
    refine lv_lload hx hb dX5_bowsInStep_32 (lv_at hl 0 rfl) ?_
    refine lv_lload hx hb dX5_bowsInStep_34 (lv_at hl 0 rfl) ?_
    refine lv_lmul hx hb dX5_bowsInStep_36 ?_
    refine lv_ldc2 (v := (65521 : Int64)) hx hb hown (hts _ kX5_bowsInStep_c284) dX5_bowsInStep_37 ?_
    obtain ⟨hi, h⟩ := s_reml_inv h
    refine lv_lrem hx hb dX5_bowsInStep_40 hi ?_
    refine lv_topl (fun v40 ev => ?_)
    replace h := h v40 ev
    refine lv_l2i (v := (v40).toInt32) hx hb dX5_bowsInStep_41 rfl ?_
    refine lv_topi (fun x6_42 ev => ?_)
    replace h := s_let_inv h x6_42 ev
    refine lv_istore (lv' := [(6, .int x6_42), (4, .long x4_30), (3, .int v4), (0, .ref (ad t)), (1, .int x1), (2, .int x2)]) hx hb dX5_bowsInStep_42 hl (by decide) rfl (fun ls hl => ?_)
    refine lv_iload hx hb dX5_bowsInStep_44 (lv_at hl 0 rfl) ?_
    refine lv_iload_n hx hb dX5_bowsInStep_46 rfl (lv_at hl 2 rfl) ?_
    obtain ⟨hi, h⟩ := s_rem_inv h
    refine lv_irem hx hb dX5_bowsInStep_47 hi ?_
    refine lv_topi (fun v47 ev => ?_)
    replace h := h v47 ev
    refine lv_istore (lv' := [(7, .int v47), (6, .int x6_42), (4, .long x4_30), (3, .int v4), (0, .ref (ad t)), (1, .int x1), (2, .int x2)]) hx hb dX5_bowsInStep_48 hl (by decide) rfl (fun ls hl => ?_)
    refine lv_iload hx hb dX5_bowsInStep_50 (lv_at hl 1 rfl) ?_
    refine lv_bipush (v := (8 : Int32)) hx hb dX5_bowsInStep_52 (by decide) ?_
    obtain ⟨hi, h⟩ := s_div_inv h
    refine lv_idiv hx hb dX5_bowsInStep_54 hi ?_
    refine lv_topi (fun v54 ev => ?_)
    replace h := h v54 ev
    refine lv_iload_n hx hb dX5_bowsInStep_55 rfl (lv_at hl 3 rfl) ?_
    obtain ⟨hi, h⟩ := s_rem_inv h
    refine lv_irem hx hb dX5_bowsInStep_56 hi ?_
    refine lv_topi (fun v56 ev => ?_)
    replace h := h v56 ev
    refine lv_istore (lv' := [(8, .int v56), (7, .int v47), (6, .int x6_42), (4, .long x4_30), (3, .int v4), (0, .ref (ad t)), (1, .int x1), (2, .int x2)]) hx hb dX5_bowsInStep_57 hl (by decide) rfl (fun ls hl => ?_)
    refine lv_iload hx hb dX5_bowsInStep_59 (lv_at hl 2 rfl) ?_
    refine lv_bipush (v := (64 : Int32)) hx hb dX5_bowsInStep_61 (by decide) ?_
    obtain ⟨hi, h⟩ := s_div_inv h
    refine lv_idiv hx hb dX5_bowsInStep_63 hi ?_
    refine lv_topi (fun v63 ev => ?_)
    replace h := h v63 ev
    refine lv_iconst (v := (4 : Int32)) hx hb dX5_bowsInStep_64 (by decide) ?_
    obtain ⟨hi, h⟩ := s_rem_inv h
    refine lv_irem hx hb dX5_bowsInStep_65 hi ?_
    refine lv_topi (fun v65 ev => ?_)
    replace h := h v65 ev
    refine lv_istore (lv' := [(9, .int v65), (8, .int v56), (7, .int v47), (6, .int x6_42), (4, .long x4_30), (3, .int v4), (0, .ref (ad t)), (1, .int x1), (2, .int x2)]) hx hb dX5_bowsInStep_66 hl (by decide) rfl (fun ls hl => ?_)
    refine lv_iload hx hb dX5_bowsInStep_68 (lv_at hl 0 rfl) ?_
    refine lv_iconst (v := (1 : Int32)) hx hb dX5_bowsInStep_70 (by decide) ?_
    refine lv_icmp_ne (tgt := 83) hx hb dX5_bowsInStep_71 (by decide) (fun q => ?_) (fun q => ?_)
    · rw [if_pos q] at h
      refine lv_iload hx hb dX5_bowsInStep_83 (lv_at hl 0 rfl) ?_
      refine lv_if_ne (tgt := 92) hx hb dX5_bowsInStep_85 (by decide) (fun q => ?_) (fun q => ?_)
      · rw [if_pos q] at h
        refine lv_iconst (v := (1 : Int32)) hx hb dX5_bowsInStep_92 (by decide) ?_
        exact w_X5_bowsInStep_93 C0 t hT v47 v56 (1 : Int32) M4 h H locs ls hP hS (lv_sub hl [6, 2, 1] rfl)
      · rw [if_neg (not_not_intro q)] at h
        refine lv_iconst (v := (0 : Int32)) hx hb dX5_bowsInStep_88 (by decide) ?_
        refine lv_goto (tgt := 93) hx hb dX5_bowsInStep_89 (by decide) ?_
        exact w_X5_bowsInStep_93 C0 t hT v47 v56 (0 : Int32) M4 h H locs ls hP hS (lv_sub hl [6, 2, 1] rfl)
    · rw [if_neg (not_not_intro q)] at h
      refine lv_aload_n hx hb dX5_bowsInStep_74 rfl (lv_at hl 6 rfl) ?_
      refine me_getr (ci := 5) (C := RX5) (T := TX5) (N := 13) hx hb hts in_X5_bowsInStep_X5 hown hK hP hT.1 rfl 4 (by decide) (hts _ kX5_bowsInStep_f37) rfl dX5_bowsInStep_75 ?_
      obtain ⟨u78, M78, h1, h⟩ := s_call_inv h
      refine me_callVv (As := []) (rest := []) ⟨hx, hb, hml, hown, hts⟩ (c_X4_passDay hT.2.2.2.2.2.1 h1) (cwV 0 hts gX5_bowsInStep_X4_passDay rfl rfl rfl hd_X4_passDay ⟨(Nat.le_of_ble_eq_true rfl), (Nat.le_of_ble_eq_true rfl)⟩) hK hI hP hS hT.2.2.2.2.2.1.1 rfl rfl hl.1 rfl (Nat.le_of_ble_eq_true rfl) dX5_bowsInStep_78 ⟨Nat.zero_le _, Nat.zero_le _⟩ (fun H locs hP hS => ?_)
      refine lv_iconst (v := (0 : Int32)) hx hb dX5_bowsInStep_81 (by decide) ?_
      exact me_iret hx hb hr hlk hP hS h dX5_bowsInStep_82
  · rw [if_neg q] at h
    refine lv_iconst (v := (0 : Int32)) hx hb dX5_bowsInStep_13 (by decide) ?_
    exact me_iret hx hb hr hlk hP hS h dX5_bowsInStep_14
theorem c_X5_bowsInStep {l : Launch} {D : va_G} {cI : ClassId} {ad : Nat → Nat} {L : List CDs} {t : Nat} (hT : is_X5 L t) {x1 : Int32} {x2 : Int32} {M M' : Mem} {r : Int32} (h : X5_bowsInStep t x1 x2 M = some (r, M')) : me_Met l yX5_bowsInStep wsX5_bowsInStep rmX5_bowsInStep D cI ad L [.ref (ad t), .int x1, .int x2] (some (.int r)) M M' :=
  me_ofW (by decide) rfl (Nat.le_of_ble_eq_true rfl) (fun p e s m below meth c C0 => w_X5_bowsInStep C0 t hT x1 x2 M h)
abbrev rmX5_year : Room := { frames := 6, cells := 0, slots := 0, locals := 143 }
theorem kX5_year_f37 : (Cond.fieldLink RX5 37 "LadderOfBows" "trial" "LLadderOfBows$Town;") ∈ wsX5_year := List.mem_of_getElem? (i := 1) rfl
theorem kX5_year_f31 : (Cond.fieldLink RX5 31 "LadderOfBows" "now" "LLadderOfBows$Town;") ∈ wsX5_year := List.mem_of_getElem? (i := 2) rfl
theorem in_X5_year_X5 : ∀ w ∈ wsX50, w ∈ wsX5_year := by decide +kernel
theorem hd_X5_year : yX5_year.cls = RX5 ∧ yX5_year.cls ≠ "java/lang/invoke/MethodHandle" ∧ yX5_year.cls ≠ "java/lang/invoke/VarHandle" ∧ (parseMethodDescriptor yX5_year.desc).map (fun d => d.parameters.length) = some 3 := by decide +kernel
set_option maxRecDepth 100000 in
set_option maxHeartbeats 4000000 in
theorem w_X5_year_48 {p : Program} {l : Launch} {e : Env} {s : State} {m : MethodId} {args : Array Value} {below : List Frame} {meth : Method} {c : Code} {D : va_G} {cI : ClassId} {ad : Nat → Nat} {L : List CDs} {r : Int32} {M' : Mem} (C0 : me_X p s m args meth c cX5_year 6 (some .int) wsX5_year RX5 D cI ad L) (t : Nat) (hT : is_X5 L t) (x1 : Int32) (x2 : Int32) (x3 : Int32) : ∀ (n : Nat) (x4 : Int32) (x5 : Int32) (M : Mem), X5_year_48 t x1 x2 x3 n x4 x5 M = some (r, M') → me_W p l e rmX5_year s m args below meth c D cI ad L (some (.int r)) M' 6 48 [(0, .ref (ad t)), (1, .int x1), (2, .int x2), (3, .int x3), (4, .int x4), (5, .int x5)] [] M := by
  obtain ⟨hx, hb, hr, hml, hown, hts, hlk, hK, hI⟩ := id C0
  intro n
  induction n with
  | zero =>
    intro x4 x5 M h
    rw [X5_year_48] at h
    cases h
  | succ n ih =>
    intro x4 x5 M h
    rw [X5_year_48] at h
    intro H locs ls hP hS hl
    refine lv_iload hx hb dX5_year_48 (lv_at hl 5 rfl) ?_
    refine lv_iload_n hx hb dX5_year_50 rfl (lv_at hl 2 rfl) ?_
    refine lv_icmp_ge (tgt := 72) hx hb dX5_year_51 (by decide) (fun q => ?_) (fun q => ?_)
    · rw [if_pos q] at h
      refine lv_iload_n hx hb dX5_year_72 rfl (lv_at hl 3 rfl) ?_
      refine lv_if_ne (tgt := 86) hx hb dX5_year_73 (by decide) (fun q => ?_) (fun q => ?_)
      · rw [if_pos q] at h
        refine lv_iload hx hb dX5_year_86 (lv_at hl 4 rfl) ?_
        exact me_iret hx hb hr hlk hP hS h dX5_year_88
      · rw [if_neg (not_not_intro q)] at h
        refine lv_aload_n hx hb dX5_year_76 rfl (lv_at hl 0 rfl) ?_
        refine me_getr (ci := 5) (C := RX5) (T := TX5) (N := 13) hx hb hts in_X5_year_X5 hown hK hP hT.1 rfl 4 (by decide) (hts _ kX5_year_f37) rfl dX5_year_77 ?_
        obtain ⟨v80, M80, h1, h⟩ := s_call_inv h
        refine me_callVi (As := []) (rest := []) ⟨hx, hb, hml, hown, hts⟩ (c_X4_allOwed hT.2.2.2.2.2.1 h1) (cwV 0 hts gX5_year_X4_allOwed rfl rfl rfl hd_X4_allOwed ⟨(Nat.le_of_ble_eq_true rfl), (Nat.le_of_ble_eq_true rfl)⟩) hK hI hP hS hT.2.2.2.2.2.1.1 rfl rfl hl.1 rfl (Nat.le_of_ble_eq_true rfl) dX5_year_80 ⟨Nat.zero_le _, Nat.zero_le _⟩ (fun H locs hP hS => ?_)
        refine lv_goto (tgt := 88) hx hb dX5_year_83 (by decide) ?_
        exact me_iret hx hb hr hlk hP hS h dX5_year_88
    · rw [if_neg q] at h
      refine lv_iload hx hb dX5_year_54 (lv_at hl 4 rfl) ?_
      refine lv_aload_n hx hb dX5_year_56 rfl (lv_at hl 0 rfl) ?_
      refine lv_iload_n hx hb dX5_year_57 rfl (lv_at hl 1 rfl) ?_
      refine lv_iload hx hb dX5_year_58 (lv_at hl 5 rfl) ?_
      obtain ⟨v60, M60, h1, h⟩ := s_call_inv h
      refine me_callVi (As := [.int x1, .int x5]) (rest := [.int x4]) ⟨hx, hb, hml, hown, hts⟩ (c_X5_bowsInStep hT h1) (cwV 2 hts gX5_year_X5_bowsInStep rfl rfl rfl hd_X5_bowsInStep ⟨(Nat.le_of_ble_eq_true rfl), (Nat.le_of_ble_eq_true rfl)⟩) hK hI hP hS hT.1 rfl rfl hl.1 rfl (Nat.le_of_ble_eq_true rfl) dX5_year_60 ⟨Nat.zero_le _, Nat.zero_le _⟩ (fun H locs hP hS => ?_)
      refine lv_iadd hx hb dX5_year_63 ?_
      refine lv_topi (fun x4_64 ev => ?_)
      replace h := s_let_inv h x4_64 ev
      refine lv_istore (lv' := [(4, .int x4_64), (0, .ref (ad t)), (1, .int x1), (2, .int x2), (3, .int x3), (5, .int x5)]) hx hb dX5_year_64 hl (by decide) rfl (fun ls hl => ?_)
      refine lv_iinc (k := 5) (v := (x5 + (1 : Int32))) (lv' := [(5, .int (x5 + (1 : Int32))), (4, .int x4_64), (0, .ref (ad t)), (1, .int x1), (2, .int x2), (3, .int x3)]) hx hb dX5_year_66 hl rfl rfl (by decide) rfl (fun ls hl => ?_)
      refine lv_goto (tgt := 48) hx hb dX5_year_69 (by decide) ?_
      exact ih x4_64 (x5 + (1 : Int32)) M60 h H locs ls hP hS (lv_sub hl [2, 3, 4, 5, 1, 0] rfl)
set_option maxRecDepth 100000 in
set_option maxHeartbeats 4000000 in
theorem w_X5_year {p : Program} {l : Launch} {e : Env} {s : State} {m : MethodId} {args : Array Value} {below : List Frame} {meth : Method} {c : Code} {D : va_G} {cI : ClassId} {ad : Nat → Nat} {L : List CDs} {r : Int32} {M' : Mem} (C0 : me_X p s m args meth c cX5_year 6 (some .int) wsX5_year RX5 D cI ad L) (t : Nat) (hT : is_X5 L t) (x1 : Int32) (x2 : Int32) (x3 : Int32) : ∀  (M : Mem), X5_year t x1 x2 x3 M = some (r, M') → me_W p l e rmX5_year s m args below meth c D cI ad L (some (.int r)) M' 6 0 [(0, .ref (ad t)), (1, .int x1), (2, .int x2), (3, .int x3)] [] M := by
  obtain ⟨hx, hb, hr, hml, hown, hts, hlk, hK, hI⟩ := id C0
  intro M h
  unfold X5_year at h
  intro H locs ls hP hS hl
  refine lv_iload_n hx hb dX5_year_0 rfl (lv_at hl 1 rfl) ?_
  refine lv_if_lt (tgt := 29) hx hb dX5_year_1 (by decide) (fun q => ?_) (fun q => ?_)
  · rw [if_pos q] at h
    refine lv_iconst (v := (-1 : Int32)) hx hb dX5_year_29 (by decide) ?_
    exact me_iret hx hb hr hlk hP hS h dX5_year_30
  · rw [if_neg q] at h
    refine lv_iload_n hx hb dX5_year_4 rfl (lv_at hl 1 rfl) ?_
    refine lv_sipush (v := (9999 : Int32)) hx hb dX5_year_5 (by decide) ?_
    refine lv_icmp_gt (tgt := 29) hx hb dX5_year_8 (by decide) (fun q => ?_) (fun q => ?_)
    · rw [if_pos q] at h
      refine lv_iconst (v := (-1 : Int32)) hx hb dX5_year_29 (by decide) ?_
      exact me_iret hx hb hr hlk hP hS h dX5_year_30
    · rw [if_neg q] at h
      refine lv_iload_n hx hb dX5_year_11 rfl (lv_at hl 2 rfl) ?_
      refine lv_iconst (v := (1 : Int32)) hx hb dX5_year_12 (by decide) ?_
      refine lv_icmp_lt (tgt := 29) hx hb dX5_year_13 (by decide) (fun q => ?_) (fun q => ?_)
      · rw [if_pos q] at h
        refine lv_iconst (v := (-1 : Int32)) hx hb dX5_year_29 (by decide) ?_
        exact me_iret hx hb hr hlk hP hS h dX5_year_30
      · rw [if_neg q] at h
        refine lv_iload_n hx hb dX5_year_16 rfl (lv_at hl 2 rfl) ?_
        refine lv_bipush (v := (60 : Int32)) hx hb dX5_year_17 (by decide) ?_
        refine lv_icmp_gt (tgt := 29) hx hb dX5_year_19 (by decide) (fun q => ?_) (fun q => ?_)
        · rw [if_pos q] at h
          refine lv_iconst (v := (-1 : Int32)) hx hb dX5_year_29 (by decide) ?_
          exact me_iret hx hb hr hlk hP hS h dX5_year_30
        · rw [if_neg q] at h
          refine lv_iload_n hx hb dX5_year_22 rfl (lv_at hl 3 rfl) ?_
          obtain ⟨v23, M23, h1, h⟩ := s_call_inv h
          refine me_callSi (As := [.int x3]) (rest := []) ⟨hx, hb, hml, hown, hts⟩ (c_X5_isZeroOrOne h1) (va_cwS 1 hts gX5_year_X5_isZeroOrOne rfl rfl rfl hd_X5_isZeroOrOne.2 ⟨(Nat.le_of_ble_eq_true rfl), (Nat.le_of_ble_eq_true rfl)⟩) hK hI hP hS rfl hl.1 rfl (Nat.le_of_ble_eq_true rfl) dX5_year_23 ⟨Nat.zero_le _, Nat.zero_le _⟩ (fun H locs hP hS => ?_)
          refine lv_if_ne (tgt := 31) hx hb dX5_year_26 (by decide) (fun q => ?_) (fun q => ?_)
          · rw [if_pos q] at h
            refine lv_aload_n hx hb dX5_year_31 rfl (lv_at hl 0 rfl) ?_
            refine me_getr (ci := 5) (C := RX5) (T := TX5) (N := 13) hx hb hts in_X5_year_X5 hown hK hP hT.1 rfl 4 (by decide) (hts _ kX5_year_f37) rfl dX5_year_32 ?_
            refine lv_aload_n hx hb dX5_year_35 rfl (lv_at hl 0 rfl) ?_
            refine me_getr (ci := 5) (C := RX5) (T := TX5) (N := 13) hx hb hts in_X5_year_X5 hown hK hP hT.1 rfl 3 (by decide) (hts _ kX5_year_f31) rfl dX5_year_36 ?_
            obtain ⟨u39, M39, h1, h⟩ := s_call_inv h
            refine me_callVv (As := [.ref (ad (t + 16))]) (rest := []) ⟨hx, hb, hml, hown, hts⟩ (c_X4_copyFrom hT.2.2.2.2.2.1 hT.2.2.2.2.1 h1) (cwV 1 hts gX5_year_X4_copyFrom rfl rfl rfl hd_X4_copyFrom ⟨(Nat.le_of_ble_eq_true rfl), (Nat.le_of_ble_eq_true rfl)⟩) hK hI hP hS hT.2.2.2.2.2.1.1 rfl rfl hl.1 rfl (Nat.le_of_ble_eq_true rfl) dX5_year_39 ⟨Nat.zero_le _, Nat.zero_le _⟩ (fun H locs hP hS => ?_)
            refine lv_iconst (v := (0 : Int32)) hx hb dX5_year_42 (by decide) ?_
            refine lv_istore (lv' := [(4, .int (0 : Int32)), (0, .ref (ad t)), (1, .int x1), (2, .int x2), (3, .int x3)]) hx hb dX5_year_43 hl (by decide) rfl (fun ls hl => ?_)
            refine lv_iconst (v := (0 : Int32)) hx hb dX5_year_45 (by decide) ?_
            refine lv_istore (lv' := [(5, .int (0 : Int32)), (4, .int (0 : Int32)), (0, .ref (ad t)), (1, .int x1), (2, .int x2), (3, .int x3)]) hx hb dX5_year_46 hl (by decide) rfl (fun ls hl => ?_)
            exact w_X5_year_48 C0 t hT x1 x2 x3 FU (0 : Int32) (0 : Int32) M39 h H locs ls hP hS (lv_sub hl [2, 3, 4, 5, 1, 0] rfl)
          · rw [if_neg (not_not_intro q)] at h
            refine lv_iconst (v := (-1 : Int32)) hx hb dX5_year_29 (by decide) ?_
            exact me_iret hx hb hr hlk hP hS h dX5_year_30
theorem c_X5_year {l : Launch} {D : va_G} {cI : ClassId} {ad : Nat → Nat} {L : List CDs} {t : Nat} (hT : is_X5 L t) {x1 : Int32} {x2 : Int32} {x3 : Int32} {M M' : Mem} {r : Int32} (h : X5_year t x1 x2 x3 M = some (r, M')) : me_Met l yX5_year wsX5_year rmX5_year D cI ad L [.ref (ad t), .int x1, .int x2, .int x3] (some (.int r)) M M' :=
  me_ofW (by decide) rfl (Nat.le_of_ble_eq_true rfl) (fun p e s m below meth c C0 => w_X5_year C0 t hT x1 x2 x3 M h)
abbrev rmX5_latestKept : Room := { frames := 0, cells := 0, slots := 0, locals := 0 }
theorem kX5_latestKept_f99 : (Cond.fieldLink RX5 99 "LadderOfBows" "keptTowns" "I") ∈ wsX5_latestKept := List.mem_of_getElem? (i := 1) rfl
theorem kX5_latestKept_f50 : (Cond.fieldLink RX5 50 "LadderOfBows" "keptSecond" "LLadderOfBows$Acts;") ∈ wsX5_latestKept := List.mem_of_getElem? (i := 3) rfl
theorem kX5_latestKept_f47 : (Cond.fieldLink RX5 47 "LadderOfBows" "keptFirst" "LLadderOfBows$Acts;") ∈ wsX5_latestKept := List.mem_of_getElem? (i := 2) rfl
theorem in_X5_latestKept_X5 : ∀ w ∈ wsX50, w ∈ wsX5_latestKept := by decide +kernel
theorem hd_X5_latestKept : yX5_latestKept.cls = RX5 ∧ yX5_latestKept.cls ≠ "java/lang/invoke/MethodHandle" ∧ yX5_latestKept.cls ≠ "java/lang/invoke/VarHandle" ∧ (parseMethodDescriptor yX5_latestKept.desc).map (fun d => d.parameters.length) = some 0 := by decide +kernel
set_option maxRecDepth 100000 in
set_option maxHeartbeats 4000000 in
theorem w_X5_latestKept {p : Program} {l : Launch} {e : Env} {s : State} {m : MethodId} {args : Array Value} {below : List Frame} {meth : Method} {c : Code} {D : va_G} {cI : ClassId} {ad : Nat → Nat} {L : List CDs} {r : Nat} {M' : Mem} (C0 : me_X p s m args meth c cX5_latestKept 1 (some (.object "LadderOfBows$Acts")) wsX5_latestKept RX5 D cI ad L) (t : Nat) (hT : is_X5 L t) : ∀  (M : Mem), X5_latestKept t M = some (r, M') → me_W p l e rmX5_latestKept s m args below meth c D cI ad L (some (.ref (ad r))) M' 1 0 [(0, .ref (ad t))] [] M := by
  obtain ⟨hx, hb, hr, hml, hown, hts, hlk, hK, hI⟩ := id C0
  intro M h
  unfold X5_latestKept at h
  intro H locs ls hP hS hl
  refine lv_aload_n hx hb dX5_latestKept_0 rfl (lv_at hl 0 rfl) ?_
  refine me_get (ci := 5) (C := RX5) (T := TX5) (N := 13) hx hb hts in_X5_latestKept_X5 hown hK hP hT.1 rfl 8 (by decide) (hts _ kX5_latestKept_f99) rfl dX5_latestKept_1 ?_
  refine lv_iconst (v := (1 : Int32)) hx hb dX5_latestKept_4 (by decide) ?_
  refine lv_icmp_ne (tgt := 15) hx hb dX5_latestKept_5 (by decide) (fun q => ?_) (fun q => ?_)
  · rw [if_pos q] at h
    refine lv_aload_n hx hb dX5_latestKept_15 rfl (lv_at hl 0 rfl) ?_
    refine me_getr (ci := 5) (C := RX5) (T := TX5) (N := 13) hx hb hts in_X5_latestKept_X5 hown hK hP hT.1 rfl 7 (by decide) (hts _ kX5_latestKept_f50) rfl dX5_latestKept_16 ?_
    exact me_aret hx hb hr (Or.inl ⟨_, rfl⟩) hlk hP hS h dX5_latestKept_19
  · rw [if_neg (not_not_intro q)] at h
    refine lv_aload_n hx hb dX5_latestKept_8 rfl (lv_at hl 0 rfl) ?_
    refine me_getr (ci := 5) (C := RX5) (T := TX5) (N := 13) hx hb hts in_X5_latestKept_X5 hown hK hP hT.1 rfl 6 (by decide) (hts _ kX5_latestKept_f47) rfl dX5_latestKept_9 ?_
    refine lv_goto (tgt := 19) hx hb dX5_latestKept_12 (by decide) ?_
    exact me_aret hx hb hr (Or.inl ⟨_, rfl⟩) hlk hP hS h dX5_latestKept_19
theorem c_X5_latestKept {l : Launch} {D : va_G} {cI : ClassId} {ad : Nat → Nat} {L : List CDs} {t : Nat} (hT : is_X5 L t)  {M M' : Mem} {r : Nat} (h : X5_latestKept t M = some (r, M')) : me_Met l yX5_latestKept wsX5_latestKept rmX5_latestKept D cI ad L [.ref (ad t)] (some (.ref (ad r))) M M' :=
  me_ofW (by decide) rfl (Nat.le_of_ble_eq_true rfl) (fun p e s m below meth c C0 => w_X5_latestKept C0 t hT M h)
abbrev rmX5_keep : Room := { frames := 2, cells := 0, slots := 0, locals := 47 }
theorem kX5_keep_f99 : (Cond.fieldLink RX5 99 "LadderOfBows" "keptTowns" "I") ∈ wsX5_keep := List.mem_of_getElem? (i := 1) rfl
theorem kX5_keep_f43 : (Cond.fieldLink RX5 43 "LadderOfBows" "acts" "LLadderOfBows$Acts;") ∈ wsX5_keep := List.mem_of_getElem? (i := 2) rfl
theorem in_X5_keep_X5 : ∀ w ∈ wsX50, w ∈ wsX5_keep := by decide +kernel
theorem hd_X5_keep : yX5_keep.cls = RX5 ∧ yX5_keep.cls ≠ "java/lang/invoke/MethodHandle" ∧ yX5_keep.cls ≠ "java/lang/invoke/VarHandle" ∧ (parseMethodDescriptor yX5_keep.desc).map (fun d => d.parameters.length) = some 0 := by decide +kernel
set_option maxRecDepth 100000 in
set_option maxHeartbeats 4000000 in
theorem w_X5_keep {p : Program} {l : Launch} {e : Env} {s : State} {m : MethodId} {args : Array Value} {below : List Frame} {meth : Method} {c : Code} {D : va_G} {cI : ClassId} {ad : Nat → Nat} {L : List CDs} {r : Int32} {M' : Mem} (C0 : me_X p s m args meth c cX5_keep 1 (some .int) wsX5_keep RX5 D cI ad L) (t : Nat) (hT : is_X5 L t) : ∀  (M : Mem), X5_keep t M = some (r, M') → me_W p l e rmX5_keep s m args below meth c D cI ad L (some (.int r)) M' 1 0 [(0, .ref (ad t))] [] M := by
  obtain ⟨hx, hb, hr, hml, hown, hts, hlk, hK, hI⟩ := id C0
  intro M h
  unfold X5_keep at h
  intro H locs ls hP hS hl
  refine lv_aload_n hx hb dX5_keep_0 rfl (lv_at hl 0 rfl) ?_
  refine me_get (ci := 5) (C := RX5) (T := TX5) (N := 13) hx hb hts in_X5_keep_X5 hown hK hP hT.1 rfl 8 (by decide) (hts _ kX5_keep_f99) rfl dX5_keep_1 ?_
  refine lv_iconst (v := (2 : Int32)) hx hb dX5_keep_4 (by decide) ?_
  refine lv_icmp_lt (tgt := 11) hx hb dX5_keep_5 (by decide) (fun q => ?_) (fun q => ?_)
  · rw [if_pos q] at h
    refine lv_aload_n hx hb dX5_keep_11 rfl (lv_at hl 0 rfl) ?_
    refine lv_dup hx hb dX5_keep_12 rfl ?_
    refine me_get (ci := 5) (C := RX5) (T := TX5) (N := 13) hx hb hts in_X5_keep_X5 hown hK hP hT.1 rfl 8 (by decide) (hts _ kX5_keep_f99) rfl dX5_keep_13 ?_
    refine lv_iconst (v := (1 : Int32)) hx hb dX5_keep_16 (by decide) ?_
    refine lv_iadd hx hb dX5_keep_17 ?_
    refine me_put (ci := 5) (C := RX5) (T := TX5) (N := 13) hx hb hts in_X5_keep_X5 tyX5_ok nmX5 hown hK hI hP hS hT.1 rfl 8 (by decide) (hts _ kX5_keep_f99) rfl rfl rfl dX5_keep_18 (fun H locs M18 eM hP hS => ?_)
    replace h := s_put_inv h M18 eM
    refine lv_aload_n hx hb dX5_keep_21 rfl (lv_at hl 0 rfl) ?_
    obtain ⟨v22, M22, h1, h⟩ := s_call_inv h
    refine me_callVi (As := []) (rest := []) ⟨hx, hb, hml, hown, hts⟩ (c_X5_latestKept hT h1) (cwV 0 hts gX5_keep_X5_latestKept rfl rfl rfl hd_X5_latestKept ⟨(Nat.le_of_ble_eq_true rfl), (Nat.le_of_ble_eq_true rfl)⟩) hK hI hP hS hT.1 rfl rfl hl.1 rfl (Nat.le_of_ble_eq_true rfl) dX5_keep_22 ⟨Nat.zero_le _, Nat.zero_le _⟩ (fun H locs hP hS => ?_)
    have hA := lk_acts hT h1
    refine lv_aload_n hx hb dX5_keep_25 rfl (lv_at hl 0 rfl) ?_
    refine me_getr (ci := 5) (C := RX5) (T := TX5) (N := 13) hx hb hts in_X5_keep_X5 hown hK hP hT.1 rfl 5 (by decide) (hts _ kX5_keep_f43) rfl dX5_keep_26 ?_
    obtain ⟨u29, M29, h1, h⟩ := s_call_inv h
    refine me_callVv (As := [.ref (ad (t + 28))]) (rest := []) ⟨hx, hb, hml, hown, hts⟩ (c_X0_copyFrom hA hT.2.2.2.2.2.2.1 h1) (cwV 1 hts gX5_keep_X0_copyFrom rfl rfl rfl hd_X0_copyFrom ⟨(Nat.le_of_ble_eq_true rfl), (Nat.le_of_ble_eq_true rfl)⟩) hK hI hP hS hA.1 rfl rfl hl.1 rfl (Nat.le_of_ble_eq_true rfl) dX5_keep_29 ⟨Nat.zero_le _, Nat.zero_le _⟩ (fun H locs hP hS => ?_)
    refine lv_aload_n hx hb dX5_keep_32 rfl (lv_at hl 0 rfl) ?_
    refine me_get (ci := 5) (C := RX5) (T := TX5) (N := 13) hx hb hts in_X5_keep_X5 hown hK hP hT.1 rfl 8 (by decide) (hts _ kX5_keep_f99) rfl dX5_keep_33 ?_
    exact me_iret hx hb hr hlk hP hS h dX5_keep_36
  · rw [if_neg q] at h
    refine lv_bipush (v := (-3 : Int32)) hx hb dX5_keep_8 (by decide) ?_
    exact me_iret hx hb hr hlk hP hS h dX5_keep_10
theorem c_X5_keep {l : Launch} {D : va_G} {cI : ClassId} {ad : Nat → Nat} {L : List CDs} {t : Nat} (hT : is_X5 L t)  {M M' : Mem} {r : Int32} (h : X5_keep t M = some (r, M')) : me_Met l yX5_keep wsX5_keep rmX5_keep D cI ad L [.ref (ad t)] (some (.int r)) M M' :=
  me_ofW (by decide) rfl (Nat.le_of_ble_eq_true rfl) (fun p e s m below meth c C0 => w_X5_keep C0 t hT M h)
abbrev rmX5_back : Room := { frames := 6, cells := 0, slots := 0, locals := 139 }
theorem kX5_back_f99 : (Cond.fieldLink RX5 99 "LadderOfBows" "keptTowns" "I") ∈ wsX5_back := List.mem_of_getElem? (i := 1) rfl
theorem kX5_back_f43 : (Cond.fieldLink RX5 43 "LadderOfBows" "acts" "LLadderOfBows$Acts;") ∈ wsX5_back := List.mem_of_getElem? (i := 2) rfl
theorem kX5_back_f31 : (Cond.fieldLink RX5 31 "LadderOfBows" "now" "LLadderOfBows$Town;") ∈ wsX5_back := List.mem_of_getElem? (i := 3) rfl
theorem in_X5_back_X5 : ∀ w ∈ wsX50, w ∈ wsX5_back := by decide +kernel
theorem hd_X5_back : yX5_back.cls = RX5 ∧ yX5_back.cls ≠ "java/lang/invoke/MethodHandle" ∧ yX5_back.cls ≠ "java/lang/invoke/VarHandle" ∧ (parseMethodDescriptor yX5_back.desc).map (fun d => d.parameters.length) = some 0 := by decide +kernel
set_option maxRecDepth 100000 in
set_option maxHeartbeats 4000000 in
theorem w_X5_back {p : Program} {l : Launch} {e : Env} {s : State} {m : MethodId} {args : Array Value} {below : List Frame} {meth : Method} {c : Code} {D : va_G} {cI : ClassId} {ad : Nat → Nat} {L : List CDs} {r : Int32} {M' : Mem} (C0 : me_X p s m args meth c cX5_back 1 (some .int) wsX5_back RX5 D cI ad L) (t : Nat) (hT : is_X5 L t) : ∀  (M : Mem), X5_back t M = some (r, M') → me_W p l e rmX5_back s m args below meth c D cI ad L (some (.int r)) M' 1 0 [(0, .ref (ad t))] [] M := by
  obtain ⟨hx, hb, hr, hml, hown, hts, hlk, hK, hI⟩ := id C0
  intro M h
  unfold X5_back at h
  intro H locs ls hP hS hl
  refine lv_aload_n hx hb dX5_back_0 rfl (lv_at hl 0 rfl) ?_
  refine me_get (ci := 5) (C := RX5) (T := TX5) (N := 13) hx hb hts in_X5_back_X5 hown hK hP hT.1 rfl 8 (by decide) (hts _ kX5_back_f99) rfl dX5_back_1 ?_
  refine lv_iconst (v := (1 : Int32)) hx hb dX5_back_4 (by decide) ?_
  refine lv_icmp_ge (tgt := 11) hx hb dX5_back_5 (by decide) (fun q => ?_) (fun q => ?_)
  · rw [if_pos q] at h
    refine lv_aload_n hx hb dX5_back_11 rfl (lv_at hl 0 rfl) ?_
    refine me_getr (ci := 5) (C := RX5) (T := TX5) (N := 13) hx hb hts in_X5_back_X5 hown hK hP hT.1 rfl 5 (by decide) (hts _ kX5_back_f43) rfl dX5_back_12 ?_
    refine lv_aload_n hx hb dX5_back_15 rfl (lv_at hl 0 rfl) ?_
    obtain ⟨v16, M16, h1, h⟩ := s_call_inv h
    refine me_callVi (As := []) (rest := [.ref (ad (t + 28))]) ⟨hx, hb, hml, hown, hts⟩ (c_X5_latestKept hT h1) (cwV 0 hts gX5_back_X5_latestKept rfl rfl rfl hd_X5_latestKept ⟨(Nat.le_of_ble_eq_true rfl), (Nat.le_of_ble_eq_true rfl)⟩) hK hI hP hS hT.1 rfl rfl hl.1 rfl (Nat.le_of_ble_eq_true rfl) dX5_back_16 ⟨Nat.zero_le _, Nat.zero_le _⟩ (fun H locs hP hS => ?_)
    have hA := lk_acts hT h1
    obtain ⟨u19, M19, h1, h⟩ := s_call_inv h
    refine me_callVv (As := [.ref (ad v16)]) (rest := []) ⟨hx, hb, hml, hown, hts⟩ (c_X0_copyFrom hT.2.2.2.2.2.2.1 hA h1) (cwV 1 hts gX5_back_X0_copyFrom rfl rfl rfl hd_X0_copyFrom ⟨(Nat.le_of_ble_eq_true rfl), (Nat.le_of_ble_eq_true rfl)⟩) hK hI hP hS hT.2.2.2.2.2.2.1.1 rfl rfl hl.1 rfl (Nat.le_of_ble_eq_true rfl) dX5_back_19 ⟨Nat.zero_le _, Nat.zero_le _⟩ (fun H locs hP hS => ?_)
    refine lv_aload_n hx hb dX5_back_22 rfl (lv_at hl 0 rfl) ?_
    refine lv_dup hx hb dX5_back_23 rfl ?_
    refine me_get (ci := 5) (C := RX5) (T := TX5) (N := 13) hx hb hts in_X5_back_X5 hown hK hP hT.1 rfl 8 (by decide) (hts _ kX5_back_f99) rfl dX5_back_24 ?_
    refine lv_iconst (v := (1 : Int32)) hx hb dX5_back_27 (by decide) ?_
    refine lv_isub hx hb dX5_back_28 ?_
    refine me_put (ci := 5) (C := RX5) (T := TX5) (N := 13) hx hb hts in_X5_back_X5 tyX5_ok nmX5 hown hK hI hP hS hT.1 rfl 8 (by decide) (hts _ kX5_back_f99) rfl rfl rfl dX5_back_29 (fun H locs M29 eM hP hS => ?_)
    replace h := s_put_inv h M29 eM
    refine lv_aload_n hx hb dX5_back_32 rfl (lv_at hl 0 rfl) ?_
    refine lv_aload_n hx hb dX5_back_33 rfl (lv_at hl 0 rfl) ?_
    refine me_getr (ci := 5) (C := RX5) (T := TX5) (N := 13) hx hb hts in_X5_back_X5 hown hK hP hT.1 rfl 3 (by decide) (hts _ kX5_back_f31) rfl dX5_back_34 ?_
    refine lv_iconst (v := (-1 : Int32)) hx hb dX5_back_37 (by decide) ?_
    obtain ⟨u38, M38, h1, h⟩ := s_call_inv h
    refine me_callVv (As := [.ref (ad (t + 16)), .int (-1 : Int32)]) (rest := []) ⟨hx, hb, hml, hown, hts⟩ (c_X5_doAgain hT hT.2.2.2.2.1 h1) (cwV 2 hts gX5_back_X5_doAgain rfl rfl rfl hd_X5_doAgain ⟨(Nat.le_of_ble_eq_true rfl), (Nat.le_of_ble_eq_true rfl)⟩) hK hI hP hS hT.1 rfl rfl hl.1 rfl (Nat.le_of_ble_eq_true rfl) dX5_back_38 ⟨Nat.zero_le _, Nat.zero_le _⟩ (fun H locs hP hS => ?_)
    refine lv_aload_n hx hb dX5_back_41 rfl (lv_at hl 0 rfl) ?_
    refine me_get (ci := 5) (C := RX5) (T := TX5) (N := 13) hx hb hts in_X5_back_X5 hown hK hP hT.1 rfl 8 (by decide) (hts _ kX5_back_f99) rfl dX5_back_42 ?_
    exact me_iret hx hb hr hlk hP hS h dX5_back_45
  · rw [if_neg q] at h
    refine lv_bipush (v := (-2 : Int32)) hx hb dX5_back_8 (by decide) ?_
    exact me_iret hx hb hr hlk hP hS h dX5_back_10
theorem c_X5_back {l : Launch} {D : va_G} {cI : ClassId} {ad : Nat → Nat} {L : List CDs} {t : Nat} (hT : is_X5 L t)  {M M' : Mem} {r : Int32} (h : X5_back t M = some (r, M')) : me_Met l yX5_back wsX5_back rmX5_back D cI ad L [.ref (ad t)] (some (.int r)) M M' :=
  me_ofW (by decide) rfl (Nat.le_of_ble_eq_true rfl) (fun p e s m below meth c C0 => w_X5_back C0 t hT M h)
abbrev rmX5_count : Room := { frames := 1, cells := 0, slots := 0, locals := 22 }
theorem kX5_count_f31 : (Cond.fieldLink RX5 31 "LadderOfBows" "now" "LLadderOfBows$Town;") ∈ wsX5_count := List.mem_of_getElem? (i := 1) rfl
theorem kX5_count_f43 : (Cond.fieldLink RX5 43 "LadderOfBows" "acts" "LLadderOfBows$Acts;") ∈ wsX5_count := List.mem_of_getElem? (i := 2) rfl
theorem kX5_count_f234 : (Cond.fieldLink RX5 234 "LadderOfBows" "silences" "I") ∈ wsX5_count := List.mem_of_getElem? (i := 3) rfl
theorem kX5_count_f99 : (Cond.fieldLink RX5 99 "LadderOfBows" "keptTowns" "I") ∈ wsX5_count := List.mem_of_getElem? (i := 4) rfl
theorem kX5_count_f12 : (Cond.fieldLink RX5 12 "LadderOfBows" "text" "LLadderOfBows$Letters;") ∈ wsX5_count := List.mem_of_getElem? (i := 5) rfl
theorem in_X5_count_X5 : ∀ w ∈ wsX50, w ∈ wsX5_count := by decide +kernel
theorem hd_X5_count : yX5_count.cls = RX5 ∧ yX5_count.cls ≠ "java/lang/invoke/MethodHandle" ∧ yX5_count.cls ≠ "java/lang/invoke/VarHandle" ∧ (parseMethodDescriptor yX5_count.desc).map (fun d => d.parameters.length) = some 1 := by decide +kernel
set_option maxRecDepth 100000 in
set_option maxHeartbeats 4000000 in
theorem w_X5_count {p : Program} {l : Launch} {e : Env} {s : State} {m : MethodId} {args : Array Value} {below : List Frame} {meth : Method} {c : Code} {D : va_G} {cI : ClassId} {ad : Nat → Nat} {L : List CDs} {r : Int32} {M' : Mem} (C0 : me_X p s m args meth c cX5_count 2 (some .int) wsX5_count RX5 D cI ad L) (t : Nat) (hT : is_X5 L t) (x1 : Int32) : ∀  (M : Mem), X5_count t x1 M = some (r, M') → me_W p l e rmX5_count s m args below meth c D cI ad L (some (.int r)) M' 2 0 [(0, .ref (ad t)), (1, .int x1)] [] M := by
  obtain ⟨hx, hb, hr, hml, hown, hts, hlk, hK, hI⟩ := id C0
  intro M h
  unfold X5_count at h
  intro H locs ls hP hS hl
  refine lv_iload_n hx hb dX5_count_0 rfl (lv_at hl 1 rfl) ?_
  by_cases q0 : x1 = (0 : Int32)
  · rw [if_pos q0] at h
    refine lv_tableIn (tgt := 48) (off := 47) hx hb dX5_count_1 (by rw [q0]; decide) (by rw [q0]; decide) (by rw [q0]; rfl) (by decide) ?_
    refine lv_aload_n hx hb dX5_count_48 rfl (lv_at hl 0 rfl) ?_
    refine me_getr (ci := 5) (C := RX5) (T := TX5) (N := 13) hx hb hts in_X5_count_X5 hown hK hP hT.1 rfl 3 (by decide) (hts _ kX5_count_f31) rfl dX5_count_49 ?_
    obtain ⟨v52, M52, h1, h⟩ := s_call_inv h
    refine me_callVi (As := []) (rest := []) ⟨hx, hb, hml, hown, hts⟩ (c_X4_persons hT.2.2.2.2.1 h1) (cwV 0 hts gX5_count_X4_persons rfl rfl rfl hd_X4_persons ⟨(Nat.le_of_ble_eq_true rfl), (Nat.le_of_ble_eq_true rfl)⟩) hK hI hP hS hT.2.2.2.2.1.1 rfl rfl hl.1 rfl (Nat.le_of_ble_eq_true rfl) dX5_count_52 ⟨Nat.zero_le _, Nat.zero_le _⟩ (fun H locs hP hS => ?_)
    exact me_iret hx hb hr hlk hP hS h dX5_count_55
  rw [if_neg q0] at h
  by_cases q1 : x1 = (1 : Int32)
  · rw [if_pos q1] at h
    refine lv_tableIn (tgt := 56) (off := 55) hx hb dX5_count_1 (by rw [q1]; decide) (by rw [q1]; decide) (by rw [q1]; rfl) (by decide) ?_
    refine lv_aload_n hx hb dX5_count_56 rfl (lv_at hl 0 rfl) ?_
    refine me_getr (ci := 5) (C := RX5) (T := TX5) (N := 13) hx hb hts in_X5_count_X5 hown hK hP hT.1 rfl 3 (by decide) (hts _ kX5_count_f31) rfl dX5_count_57 ?_
    obtain ⟨v60, M60, h1, h⟩ := s_call_inv h
    refine me_callVi (As := []) (rest := []) ⟨hx, hb, hml, hown, hts⟩ (c_X4_aliveBits hT.2.2.2.2.1 h1) (cwV 0 hts gX5_count_X4_aliveBits rfl rfl rfl hd_X4_aliveBits ⟨(Nat.le_of_ble_eq_true rfl), (Nat.le_of_ble_eq_true rfl)⟩) hK hI hP hS hT.2.2.2.2.1.1 rfl rfl hl.1 rfl (Nat.le_of_ble_eq_true rfl) dX5_count_60 ⟨Nat.zero_le _, Nat.zero_le _⟩ (fun H locs hP hS => ?_)
    obtain ⟨v63, M63, h1, h⟩ := s_call_inv h
    refine me_callSi (As := [.int v60]) (rest := []) ⟨hx, hb, hml, hown, hts⟩ (c_J6_bitCount_0f7a4 h1) (va_cwS 1 hts gX5_count_J6_bitCount_0f7a4 rfl rfl rfl hd_J6_bitCount_0f7a4.2 ⟨(Nat.le_of_ble_eq_true rfl), (Nat.le_of_ble_eq_true rfl)⟩) hK hI hP hS rfl hl.1 rfl (Nat.le_of_ble_eq_true rfl) dX5_count_63 ⟨Nat.zero_le _, Nat.zero_le _⟩ (fun H locs hP hS => ?_)
    exact me_iret hx hb hr hlk hP hS h dX5_count_66
  rw [if_neg q1] at h
  by_cases q2 : x1 = (2 : Int32)
  · rw [if_pos q2] at h
    refine lv_tableIn (tgt := 67) (off := 66) hx hb dX5_count_1 (by rw [q2]; decide) (by rw [q2]; decide) (by rw [q2]; rfl) (by decide) ?_
    refine lv_aload_n hx hb dX5_count_67 rfl (lv_at hl 0 rfl) ?_
    refine me_getr (ci := 5) (C := RX5) (T := TX5) (N := 13) hx hb hts in_X5_count_X5 hown hK hP hT.1 rfl 3 (by decide) (hts _ kX5_count_f31) rfl dX5_count_68 ?_
    obtain ⟨v71, M71, h1, h⟩ := s_call_inv h
    refine me_callVi (As := []) (rest := []) ⟨hx, hb, hml, hown, hts⟩ (c_X4_day hT.2.2.2.2.1 h1) (cwV 0 hts gX5_count_X4_day rfl rfl rfl hd_X4_day ⟨(Nat.le_of_ble_eq_true rfl), (Nat.le_of_ble_eq_true rfl)⟩) hK hI hP hS hT.2.2.2.2.1.1 rfl rfl hl.1 rfl (Nat.le_of_ble_eq_true rfl) dX5_count_71 ⟨Nat.zero_le _, Nat.zero_le _⟩ (fun H locs hP hS => ?_)
    exact me_iret hx hb hr hlk hP hS h dX5_count_74
  rw [if_neg q2] at h
  by_cases q3 : x1 = (3 : Int32)
  · rw [if_pos q3] at h
    refine lv_tableIn (tgt := 75) (off := 74) hx hb dX5_count_1 (by rw [q3]; decide) (by rw [q3]; decide) (by rw [q3]; rfl) (by decide) ?_
    refine lv_aload_n hx hb dX5_count_75 rfl (lv_at hl 0 rfl) ?_
    refine me_getr (ci := 5) (C := RX5) (T := TX5) (N := 13) hx hb hts in_X5_count_X5 hown hK hP hT.1 rfl 3 (by decide) (hts _ kX5_count_f31) rfl dX5_count_76 ?_
    obtain ⟨v79, M79, h1, h⟩ := s_call_inv h
    refine me_callVi (As := []) (rest := []) ⟨hx, hb, hml, hown, hts⟩ (c_X4_allOwed hT.2.2.2.2.1 h1) (cwV 0 hts gX5_count_X4_allOwed rfl rfl rfl hd_X4_allOwed ⟨(Nat.le_of_ble_eq_true rfl), (Nat.le_of_ble_eq_true rfl)⟩) hK hI hP hS hT.2.2.2.2.1.1 rfl rfl hl.1 rfl (Nat.le_of_ble_eq_true rfl) dX5_count_79 ⟨Nat.zero_le _, Nat.zero_le _⟩ (fun H locs hP hS => ?_)
    exact me_iret hx hb hr hlk hP hS h dX5_count_82
  rw [if_neg q3] at h
  by_cases q4 : x1 = (4 : Int32)
  · rw [if_pos q4] at h
    refine lv_tableIn (tgt := 83) (off := 82) hx hb dX5_count_1 (by rw [q4]; decide) (by rw [q4]; decide) (by rw [q4]; rfl) (by decide) ?_
    refine lv_aload_n hx hb dX5_count_83 rfl (lv_at hl 0 rfl) ?_
    refine me_getr (ci := 5) (C := RX5) (T := TX5) (N := 13) hx hb hts in_X5_count_X5 hown hK hP hT.1 rfl 5 (by decide) (hts _ kX5_count_f43) rfl dX5_count_84 ?_
    obtain ⟨v87, M87, h1, h⟩ := s_call_inv h
    refine me_callVi (As := []) (rest := []) ⟨hx, hb, hml, hown, hts⟩ (c_X0_size hT.2.2.2.2.2.2.1 h1) (cwV 0 hts gX5_count_X0_size rfl rfl rfl hd_X0_size ⟨(Nat.le_of_ble_eq_true rfl), (Nat.le_of_ble_eq_true rfl)⟩) hK hI hP hS hT.2.2.2.2.2.2.1.1 rfl rfl hl.1 rfl (Nat.le_of_ble_eq_true rfl) dX5_count_87 ⟨Nat.zero_le _, Nat.zero_le _⟩ (fun H locs hP hS => ?_)
    exact me_iret hx hb hr hlk hP hS h dX5_count_90
  rw [if_neg q4] at h
  by_cases q5 : x1 = (5 : Int32)
  · rw [if_pos q5] at h
    refine lv_tableIn (tgt := 91) (off := 90) hx hb dX5_count_1 (by rw [q5]; decide) (by rw [q5]; decide) (by rw [q5]; rfl) (by decide) ?_
    refine lv_aload_n hx hb dX5_count_91 rfl (lv_at hl 0 rfl) ?_
    refine me_get (ci := 5) (C := RX5) (T := TX5) (N := 13) hx hb hts in_X5_count_X5 hown hK hP hT.1 rfl 9 (by decide) (hts _ kX5_count_f234) rfl dX5_count_92 ?_
    exact me_iret hx hb hr hlk hP hS h dX5_count_95
  rw [if_neg q5] at h
  by_cases q6 : x1 = (6 : Int32)
  · rw [if_pos q6] at h
    refine lv_tableIn (tgt := 96) (off := 95) hx hb dX5_count_1 (by rw [q6]; decide) (by rw [q6]; decide) (by rw [q6]; rfl) (by decide) ?_
    refine lv_aload_n hx hb dX5_count_96 rfl (lv_at hl 0 rfl) ?_
    refine me_get (ci := 5) (C := RX5) (T := TX5) (N := 13) hx hb hts in_X5_count_X5 hown hK hP hT.1 rfl 8 (by decide) (hts _ kX5_count_f99) rfl dX5_count_97 ?_
    exact me_iret hx hb hr hlk hP hS h dX5_count_100
  rw [if_neg q6] at h
  by_cases q7 : x1 = (7 : Int32)
  · rw [if_pos q7] at h
    refine lv_tableIn (tgt := 101) (off := 100) hx hb dX5_count_1 (by rw [q7]; decide) (by rw [q7]; decide) (by rw [q7]; rfl) (by decide) ?_
    refine lv_aload_n hx hb dX5_count_101 rfl (lv_at hl 0 rfl) ?_
    refine me_getr (ci := 5) (C := RX5) (T := TX5) (N := 13) hx hb hts in_X5_count_X5 hown hK hP hT.1 rfl 0 (by decide) (hts _ kX5_count_f12) rfl dX5_count_102 ?_
    obtain ⟨v105, M105, h1, h⟩ := s_call_inv h
    refine me_callVi (As := []) (rest := []) ⟨hx, hb, hml, hown, hts⟩ (c_X1_length hT.2.1 h1) (cwV 0 hts gX5_count_X1_length rfl rfl rfl hd_X1_length ⟨(Nat.le_of_ble_eq_true rfl), (Nat.le_of_ble_eq_true rfl)⟩) hK hI hP hS hT.2.1.1 rfl rfl hl.1 rfl (Nat.le_of_ble_eq_true rfl) dX5_count_105 ⟨Nat.zero_le _, Nat.zero_le _⟩ (fun H locs hP hS => ?_)
    exact me_iret hx hb hr hlk hP hS h dX5_count_108
  rw [if_neg q7] at h
  have e0 := lv_neT (a := 0) q0 (by decide)
  have e1 := lv_neT (a := 1) q1 (by decide)
  have e2 := lv_neT (a := 2) q2 (by decide)
  have e3 := lv_neT (a := 3) q3 (by decide)
  have e4 := lv_neT (a := 4) q4 (by decide)
  have e5 := lv_neT (a := 5) q5 (by decide)
  have e6 := lv_neT (a := 6) q6 (by decide)
  have e7 := lv_neT (a := 7) q7 (by decide)
  refine lv_tableOut (tgt := 109) hx hb dX5_count_1 (by omega) (by decide) ?_
  refine lv_iconst (v := (-1 : Int32)) hx hb dX5_count_109 (by decide) ?_
  exact me_iret hx hb hr hlk hP hS h dX5_count_110
theorem c_X5_count {l : Launch} {D : va_G} {cI : ClassId} {ad : Nat → Nat} {L : List CDs} {t : Nat} (hT : is_X5 L t) {x1 : Int32} {M M' : Mem} {r : Int32} (h : X5_count t x1 M = some (r, M')) : me_Met l yX5_count wsX5_count rmX5_count D cI ad L [.ref (ad t), .int x1] (some (.int r)) M M' :=
  me_ofW (by decide) rfl (Nat.le_of_ble_eq_true rfl) (fun p e s m below meth c C0 => w_X5_count C0 t hT x1 M h)
abbrev rmX6_in : Room := { frames := 0, cells := 0, slots := 0, locals := 0 }
theorem hd_X6_in : yX6_in.cls = RX6 ∧ yX6_in.cls ≠ "java/lang/invoke/MethodHandle" ∧ yX6_in.cls ≠ "java/lang/invoke/VarHandle" ∧ (parseMethodDescriptor yX6_in.desc).map (fun d => d.parameters.length) = some 3 := by decide +kernel
set_option maxRecDepth 100000 in
set_option maxHeartbeats 4000000 in
theorem w_X6_in {p : Program} {l : Launch} {e : Env} {s : State} {m : MethodId} {args : Array Value} {below : List Frame} {meth : Method} {c : Code} {D : va_G} {cI : ClassId} {ad : Nat → Nat} {L : List CDs} {r : Int32} {M' : Mem} (C0 : me_X p s m args meth c cX6_in 6 (some .boolean) wsX6_in RX6 D cI ad L)  (x0 : Int64) (x2 : Int64) (x4 : Int64) : ∀  (M : Mem), X6_in x0 x2 x4 M = some (r, M') → me_W p l e rmX6_in s m args below meth c D cI ad L (some (.int r)) M' 6 0 [(0, .long x0), (2, .long x2), (4, .long x4)] [] M := by
  obtain ⟨hx, hb, hr, hml, hown, hts, hlk, hK, hI⟩ := id C0
  intro M h
  unfold X6_in at h
  intro H locs ls hP hS hl
  refine lv_lload_n hx hb dX6_in_0 rfl (lv_at hl 0 rfl) ?_
  refine lv_lload_n hx hb dX6_in_1 rfl (lv_at hl 1 rfl) ?_
  refine W.lcmp hx hb dX6_in_2 ?_
  refine lv_if_lt (tgt := 17) hx hb dX6_in_3 (by decide) (fun q => ?_) (fun q => ?_)
  · rw [if_pos q] at h
    refine lv_iconst (v := (0 : Int32)) hx hb dX6_in_17 (by decide) ?_
    exact me_zret hx hb hr hlk hP hS h dX6_in_18
  · rw [if_neg q] at h
    refine lv_lload_n hx hb dX6_in_6 rfl (lv_at hl 0 rfl) ?_
    refine lv_lload hx hb dX6_in_7 (lv_at hl 2 rfl) ?_
    refine W.lcmp hx hb dX6_in_9 ?_
    refine lv_if_gt (tgt := 17) hx hb dX6_in_10 (by decide) (fun q => ?_) (fun q => ?_)
    · rw [if_pos q] at h
      refine lv_iconst (v := (0 : Int32)) hx hb dX6_in_17 (by decide) ?_
      exact me_zret hx hb hr hlk hP hS h dX6_in_18
    · rw [if_neg q] at h
      refine lv_iconst (v := (1 : Int32)) hx hb dX6_in_13 (by decide) ?_
      refine lv_goto (tgt := 18) hx hb dX6_in_14 (by decide) ?_
      exact me_zret hx hb hr hlk hP hS h dX6_in_18
theorem c_X6_in {l : Launch} {D : va_G} {cI : ClassId} {ad : Nat → Nat} {L : List CDs}  {x0 : Int64} {x2 : Int64} {x4 : Int64} {M M' : Mem} {r : Int32} (h : X6_in x0 x2 x4 M = some (r, M')) : me_Met l yX6_in wsX6_in rmX6_in D cI ad L [.long x0, .long x2, .long x4] (some (.int r)) M M' :=
  me_ofW (by decide) rfl (Nat.le_of_ble_eq_true rfl) (fun p e s m below meth c C0 => w_X6_in C0 x0 x2 x4 M h)
abbrev rmX6_has : Room := { frames := 0, cells := 0, slots := 0, locals := 0 }
theorem hd_X6_has : yX6_has.cls = RX6 ∧ yX6_has.cls ≠ "java/lang/invoke/MethodHandle" ∧ yX6_has.cls ≠ "java/lang/invoke/VarHandle" ∧ (parseMethodDescriptor yX6_has.desc).map (fun d => d.parameters.length) = some 2 := by decide +kernel
set_option maxRecDepth 100000 in
set_option maxHeartbeats 4000000 in
theorem w_X6_has {p : Program} {l : Launch} {e : Env} {s : State} {m : MethodId} {args : Array Value} {below : List Frame} {meth : Method} {c : Code} {D : va_G} {cI : ClassId} {ad : Nat → Nat} {L : List CDs} {r : Int32} {M' : Mem} (C0 : me_X p s m args meth c cX6_has 2 (some .boolean) wsX6_has RX6 D cI ad L)  (x0 : Int32) (x1 : Int32) : ∀  (M : Mem), X6_has x0 x1 M = some (r, M') → me_W p l e rmX6_has s m args below meth c D cI ad L (some (.int r)) M' 2 0 [(0, .int x0), (1, .int x1)] [] M := by
  obtain ⟨hx, hb, hr, hml, hown, hts, hlk, hK, hI⟩ := id C0
  intro M h
  unfold X6_has at h
  intro H locs ls hP hS hl
  refine lv_iload_n hx hb dX6_has_0 rfl (lv_at hl 0 rfl) ?_
  refine lv_iload_n hx hb dX6_has_1 rfl (lv_at hl 1 rfl) ?_
  refine lv_ishr hx hb dX6_has_2 ?_
  refine lv_iconst (v := (1 : Int32)) hx hb dX6_has_3 (by decide) ?_
  refine lv_iand hx hb dX6_has_4 ?_
  refine lv_iconst (v := (1 : Int32)) hx hb dX6_has_5 (by decide) ?_
  refine lv_icmp_ne (tgt := 13) hx hb dX6_has_6 (by decide) (fun q => ?_) (fun q => ?_)
  · rw [if_pos q] at h
    refine lv_iconst (v := (0 : Int32)) hx hb dX6_has_13 (by decide) ?_
    exact me_zret hx hb hr hlk hP hS h dX6_has_14
  · rw [if_neg (not_not_intro q)] at h
    refine lv_iconst (v := (1 : Int32)) hx hb dX6_has_9 (by decide) ?_
    refine lv_goto (tgt := 14) hx hb dX6_has_10 (by decide) ?_
    exact me_zret hx hb hr hlk hP hS h dX6_has_14
theorem c_X6_has {l : Launch} {D : va_G} {cI : ClassId} {ad : Nat → Nat} {L : List CDs}  {x0 : Int32} {x1 : Int32} {M M' : Mem} {r : Int32} (h : X6_has x0 x1 M = some (r, M')) : me_Met l yX6_has wsX6_has rmX6_has D cI ad L [.int x0, .int x1] (some (.int r)) M M' :=
  me_ofW (by decide) rfl (Nat.le_of_ble_eq_true rfl) (fun p e s m below meth c C0 => w_X6_has C0 x0 x1 M h)
abbrev rmX6_noTown : Room := { frames := 0, cells := 0, slots := 0, locals := 0 }
theorem kX6_noTown_f13 : (Cond.fieldLink RX6 13 "LadderOfBowsModel" "persons" "[I") ∈ wsX6_noTown := List.mem_of_getElem? (i := 1) rfl
theorem kX6_noTown_f25 : (Cond.fieldLink RX6 25 "LadderOfBowsModel" "easters" "[I") ∈ wsX6_noTown := List.mem_of_getElem? (i := 2) rfl
theorem kX6_noTown_f22 : (Cond.fieldLink RX6 22 "LadderOfBowsModel" "firsts" "[I") ∈ wsX6_noTown := List.mem_of_getElem? (i := 3) rfl
theorem in_X6_noTown_X6 : ∀ w ∈ wsX60, w ∈ wsX6_noTown := by decide +kernel
theorem hd_X6_noTown : yX6_noTown.cls = RX6 ∧ yX6_noTown.cls ≠ "java/lang/invoke/MethodHandle" ∧ yX6_noTown.cls ≠ "java/lang/invoke/VarHandle" ∧ (parseMethodDescriptor yX6_noTown.desc).map (fun d => d.parameters.length) = some 1 := by decide +kernel
set_option maxRecDepth 100000 in
set_option maxHeartbeats 4000000 in
theorem w_X6_noTown_17 {p : Program} {l : Launch} {e : Env} {s : State} {m : MethodId} {args : Array Value} {below : List Frame} {meth : Method} {c : Code} {D : va_G} {cI : ClassId} {ad : Nat → Nat} {L : List CDs} {r : Unit} {M' : Mem} (C0 : me_X p s m args meth c cX6_noTown 3 none wsX6_noTown RX6 D cI ad L) (t : Nat) (hT : is_X6 L t) (x1 : Int32) : ∀ (n : Nat) (x2 : Int32) (M : Mem), X6_noTown_17 t x1 n x2 M = some (r, M') → me_W p l e rmX6_noTown s m args below meth c D cI ad L none M' 3 17 [(0, .ref (ad t)), (1, .int x1), (2, .int x2)] [] M := by
  obtain ⟨hx, hb, hr, hml, hown, hts, hlk, hK, hI⟩ := id C0
  intro n
  induction n with
  | zero =>
    intro x2 M h
    rw [X6_noTown_17] at h
    cases h
  | succ n ih =>
    intro x2 M h
    rw [X6_noTown_17] at h
    intro H locs ls hP hS hl
    refine lv_iload_n hx hb dX6_noTown_17 rfl (lv_at hl 2 rfl) ?_
    refine lv_bipush (v := (64 : Int32)) hx hb dX6_noTown_18 (by decide) ?_
    refine lv_icmp_ge (tgt := 41) hx hb dX6_noTown_20 (by decide) (fun q => ?_) (fun q => ?_)
    · rw [if_pos q] at h
      exact me_vret hx hb hr hlk hP hS h dX6_noTown_41
    · rw [if_neg q] at h
      refine lv_aload_n hx hb dX6_noTown_23 rfl (lv_at hl 0 rfl) ?_
      refine me_getr (ci := 6) (C := RX6) (T := TX6) (N := 22) hx hb hts in_X6_noTown_X6 hown hK hP hT.1 rfl 5 (by decide) (hts _ kX6_noTown_f22) rfl dX6_noTown_24 ?_
      refine lv_bipush (v := (64 : Int32)) hx hb dX6_noTown_27 (by decide) ?_
      refine lv_iload_n hx hb dX6_noTown_29 rfl (lv_at hl 1 rfl) ?_
      refine lv_imul hx hb dX6_noTown_30 ?_
      refine lv_iload_n hx hb dX6_noTown_31 rfl (lv_at hl 2 rfl) ?_
      refine lv_iadd hx hb dX6_noTown_32 ?_
      refine lv_iconst (v := (0 : Int32)) hx hb dX6_noTown_33 (by decide) ?_
      obtain ⟨hi, h⟩ := s_ast_inv h
      refine me_ast hx hb hK hI hP hS hT.2.2.2.2.2.1 hi dX6_noTown_34 (fun H locs M34 eM hP hS => ?_)
      replace h := h M34 eM
      refine lv_iinc (k := 2) (v := (x2 + (1 : Int32))) (lv' := [(2, .int (x2 + (1 : Int32))), (0, .ref (ad t)), (1, .int x1)]) hx hb dX6_noTown_35 hl rfl rfl (by decide) rfl (fun ls hl => ?_)
      refine lv_goto (tgt := 17) hx hb dX6_noTown_38 (by decide) ?_
      exact ih (x2 + (1 : Int32)) M34 h H locs ls hP hS (lv_sub hl [1, 2, 0] rfl)
set_option maxRecDepth 100000 in
set_option maxHeartbeats 4000000 in
theorem w_X6_noTown {p : Program} {l : Launch} {e : Env} {s : State} {m : MethodId} {args : Array Value} {below : List Frame} {meth : Method} {c : Code} {D : va_G} {cI : ClassId} {ad : Nat → Nat} {L : List CDs} {r : Unit} {M' : Mem} (C0 : me_X p s m args meth c cX6_noTown 3 none wsX6_noTown RX6 D cI ad L) (t : Nat) (hT : is_X6 L t) (x1 : Int32) : ∀  (M : Mem), X6_noTown t x1 M = some (r, M') → me_W p l e rmX6_noTown s m args below meth c D cI ad L none M' 3 0 [(0, .ref (ad t)), (1, .int x1)] [] M := by
  obtain ⟨hx, hb, hr, hml, hown, hts, hlk, hK, hI⟩ := id C0
  intro M h
  unfold X6_noTown at h
  intro H locs ls hP hS hl
  refine lv_aload_n hx hb dX6_noTown_0 rfl (lv_at hl 0 rfl) ?_
  refine me_getr (ci := 6) (C := RX6) (T := TX6) (N := 22) hx hb hts in_X6_noTown_X6 hown hK hP hT.1 rfl 2 (by decide) (hts _ kX6_noTown_f13) rfl dX6_noTown_1 ?_
  refine lv_iload_n hx hb dX6_noTown_4 rfl (lv_at hl 1 rfl) ?_
  refine lv_iconst (v := (0 : Int32)) hx hb dX6_noTown_5 (by decide) ?_
  obtain ⟨hi, h⟩ := s_ast_inv h
  refine me_ast hx hb hK hI hP hS hT.2.2.1 hi dX6_noTown_6 (fun H locs M6 eM hP hS => ?_)
  replace h := h M6 eM
  refine lv_aload_n hx hb dX6_noTown_7 rfl (lv_at hl 0 rfl) ?_
  refine me_getr (ci := 6) (C := RX6) (T := TX6) (N := 22) hx hb hts in_X6_noTown_X6 hown hK hP hT.1 rfl 6 (by decide) (hts _ kX6_noTown_f25) rfl dX6_noTown_8 ?_
  refine lv_iload_n hx hb dX6_noTown_11 rfl (lv_at hl 1 rfl) ?_
  refine lv_bipush (v := (40 : Int32)) hx hb dX6_noTown_12 (by decide) ?_
  obtain ⟨hi, h⟩ := s_ast_inv h
  refine me_ast hx hb hK hI hP hS hT.2.2.2.2.2.2.1 hi dX6_noTown_14 (fun H locs M14 eM hP hS => ?_)
  replace h := h M14 eM
  refine lv_iconst (v := (0 : Int32)) hx hb dX6_noTown_15 (by decide) ?_
  refine lv_istore_n (lv' := [(2, .int (0 : Int32)), (0, .ref (ad t)), (1, .int x1)]) hx hb dX6_noTown_16 rfl hl (by decide) rfl (fun ls hl => ?_)
  exact w_X6_noTown_17 C0 t hT x1 FU (0 : Int32) M14 h H locs ls hP hS (lv_sub hl [1, 2, 0] rfl)
theorem c_X6_noTown {l : Launch} {D : va_G} {cI : ClassId} {ad : Nat → Nat} {L : List CDs} {t : Nat} (hT : is_X6 L t) {x1 : Int32} {M M' : Mem} {r : Unit} (h : X6_noTown t x1 M = some (r, M')) : me_Met l yX6_noTown wsX6_noTown rmX6_noTown D cI ad L [.ref (ad t), .int x1] none M M' :=
  me_ofW (by decide) rfl (Nat.le_of_ble_eq_true rfl) (fun p e s m below meth c C0 => w_X6_noTown C0 t hT x1 M h)
abbrev rmX6_addPerson : Room := { frames := 0, cells := 0, slots := 0, locals := 0 }
theorem kX6_addPerson_f16 : (Cond.fieldLink RX6 16 "LadderOfBowsModel" "kinds" "[I") ∈ wsX6_addPerson := List.mem_of_getElem? (i := 1) rfl
theorem kX6_addPerson_f13 : (Cond.fieldLink RX6 13 "LadderOfBowsModel" "persons" "[I") ∈ wsX6_addPerson := List.mem_of_getElem? (i := 2) rfl
theorem kX6_addPerson_f19 : (Cond.fieldLink RX6 19 "LadderOfBowsModel" "streets" "[I") ∈ wsX6_addPerson := List.mem_of_getElem? (i := 3) rfl
theorem in_X6_addPerson_X6 : ∀ w ∈ wsX60, w ∈ wsX6_addPerson := by decide +kernel
theorem hd_X6_addPerson : yX6_addPerson.cls = RX6 ∧ yX6_addPerson.cls ≠ "java/lang/invoke/MethodHandle" ∧ yX6_addPerson.cls ≠ "java/lang/invoke/VarHandle" ∧ (parseMethodDescriptor yX6_addPerson.desc).map (fun d => d.parameters.length) = some 3 := by decide +kernel
set_option maxRecDepth 100000 in
set_option maxHeartbeats 4000000 in
theorem w_X6_addPerson {p : Program} {l : Launch} {e : Env} {s : State} {m : MethodId} {args : Array Value} {below : List Frame} {meth : Method} {c : Code} {D : va_G} {cI : ClassId} {ad : Nat → Nat} {L : List CDs} {r : Unit} {M' : Mem} (C0 : me_X p s m args meth c cX6_addPerson 4 none wsX6_addPerson RX6 D cI ad L) (t : Nat) (hT : is_X6 L t) (x1 : Int32) (x2 : Int32) (x3 : Int32) : ∀  (M : Mem), X6_addPerson t x1 x2 x3 M = some (r, M') → me_W p l e rmX6_addPerson s m args below meth c D cI ad L none M' 4 0 [(0, .ref (ad t)), (1, .int x1), (2, .int x2), (3, .int x3)] [] M := by
  obtain ⟨hx, hb, hr, hml, hown, hts, hlk, hK, hI⟩ := id C0
  intro M h
  unfold X6_addPerson at h
  intro H locs ls hP hS hl
  refine lv_aload_n hx hb dX6_addPerson_0 rfl (lv_at hl 0 rfl) ?_
  refine me_getr (ci := 6) (C := RX6) (T := TX6) (N := 22) hx hb hts in_X6_addPerson_X6 hown hK hP hT.1 rfl 3 (by decide) (hts _ kX6_addPerson_f16) rfl dX6_addPerson_1 ?_
  refine lv_bipush (v := (8 : Int32)) hx hb dX6_addPerson_4 (by decide) ?_
  refine lv_iload_n hx hb dX6_addPerson_6 rfl (lv_at hl 1 rfl) ?_
  refine lv_imul hx hb dX6_addPerson_7 ?_
  refine lv_aload_n hx hb dX6_addPerson_8 rfl (lv_at hl 0 rfl) ?_
  refine me_getr (ci := 6) (C := RX6) (T := TX6) (N := 22) hx hb hts in_X6_addPerson_X6 hown hK hP hT.1 rfl 2 (by decide) (hts _ kX6_addPerson_f13) rfl dX6_addPerson_9 ?_
  refine lv_iload_n hx hb dX6_addPerson_12 rfl (lv_at hl 1 rfl) ?_
  obtain ⟨hi, h⟩ := s_ald_inv h
  refine me_ald hx hb hK hP hT.2.2.1 hi dX6_addPerson_13 (fun v13 ev => ?_)
  replace h := h v13 ev
  refine lv_iadd hx hb dX6_addPerson_14 ?_
  refine lv_iload_n hx hb dX6_addPerson_15 rfl (lv_at hl 2 rfl) ?_
  obtain ⟨hi, h⟩ := s_ast_inv h
  refine me_ast hx hb hK hI hP hS hT.2.2.2.1 hi dX6_addPerson_16 (fun H locs M16 eM hP hS => ?_)
  replace h := h M16 eM
  refine lv_aload_n hx hb dX6_addPerson_17 rfl (lv_at hl 0 rfl) ?_
  refine me_getr (ci := 6) (C := RX6) (T := TX6) (N := 22) hx hb hts in_X6_addPerson_X6 hown hK hP hT.1 rfl 4 (by decide) (hts _ kX6_addPerson_f19) rfl dX6_addPerson_18 ?_
  refine lv_bipush (v := (8 : Int32)) hx hb dX6_addPerson_21 (by decide) ?_
  refine lv_iload_n hx hb dX6_addPerson_23 rfl (lv_at hl 1 rfl) ?_
  refine lv_imul hx hb dX6_addPerson_24 ?_
  refine lv_aload_n hx hb dX6_addPerson_25 rfl (lv_at hl 0 rfl) ?_
  refine me_getr (ci := 6) (C := RX6) (T := TX6) (N := 22) hx hb hts in_X6_addPerson_X6 hown hK hP hT.1 rfl 2 (by decide) (hts _ kX6_addPerson_f13) rfl dX6_addPerson_26 ?_
  refine lv_iload_n hx hb dX6_addPerson_29 rfl (lv_at hl 1 rfl) ?_
  obtain ⟨hi, h⟩ := s_ald_inv h
  refine me_ald hx hb hK hP hT.2.2.1 hi dX6_addPerson_30 (fun v30 ev => ?_)
  replace h := h v30 ev
  refine lv_iadd hx hb dX6_addPerson_31 ?_
  refine lv_iload_n hx hb dX6_addPerson_32 rfl (lv_at hl 3 rfl) ?_
  obtain ⟨hi, h⟩ := s_ast_inv h
  refine me_ast hx hb hK hI hP hS hT.2.2.2.2.1 hi dX6_addPerson_33 (fun H locs M33 eM hP hS => ?_)
  replace h := h M33 eM
  refine lv_aload_n hx hb dX6_addPerson_34 rfl (lv_at hl 0 rfl) ?_
  refine me_getr (ci := 6) (C := RX6) (T := TX6) (N := 22) hx hb hts in_X6_addPerson_X6 hown hK hP hT.1 rfl 2 (by decide) (hts _ kX6_addPerson_f13) rfl dX6_addPerson_35 ?_
  refine lv_iload_n hx hb dX6_addPerson_38 rfl (lv_at hl 1 rfl) ?_
  refine lv_dup2_11 hx hb dX6_addPerson_39 rfl rfl ?_
  obtain ⟨hi, h⟩ := s_ald_inv h
  refine me_ald hx hb hK hP hT.2.2.1 hi dX6_addPerson_40 (fun v40 ev => ?_)
  replace h := h v40 ev
  refine lv_iconst (v := (1 : Int32)) hx hb dX6_addPerson_41 (by decide) ?_
  refine lv_iadd hx hb dX6_addPerson_42 ?_
  obtain ⟨hi, h⟩ := s_ast_inv h
  refine me_ast hx hb hK hI hP hS hT.2.2.1 hi dX6_addPerson_43 (fun H locs M43 eM hP hS => ?_)
  replace h := h M43 eM
  exact me_vret hx hb hr hlk hP hS h dX6_addPerson_44
theorem c_X6_addPerson {l : Launch} {D : va_G} {cI : ClassId} {ad : Nat → Nat} {L : List CDs} {t : Nat} (hT : is_X6 L t) {x1 : Int32} {x2 : Int32} {x3 : Int32} {M M' : Mem} {r : Unit} (h : X6_addPerson t x1 x2 x3 M = some (r, M')) : me_Met l yX6_addPerson wsX6_addPerson rmX6_addPerson D cI ad L [.ref (ad t), .int x1, .int x2, .int x3] none M M' :=
  me_ofW (by decide) rfl (Nat.le_of_ble_eq_true rfl) (fun p e s m below meth c C0 => w_X6_addPerson C0 t hT x1 x2 x3 M h)
abbrev rmX6_write : Room := { frames := 1, cells := 0, slots := 0, locals := 25 }
theorem kX6_write_c75 : (Cond.constantLong RX6 75 (32)) ∈ wsX6_write := List.mem_of_getElem? (i := 1) rfl
theorem kX6_write_c77 : (Cond.constantLong RX6 77 (126)) ∈ wsX6_write := List.mem_of_getElem? (i := 2) rfl
theorem kX6_write_f83 : (Cond.fieldLink RX6 83 "LadderOfBowsModel" "length" "I") ∈ wsX6_write := List.mem_of_getElem? (i := 3) rfl
theorem kX6_write_f7 : (Cond.fieldLink RX6 7 "LadderOfBowsModel" "text" "[I") ∈ wsX6_write := List.mem_of_getElem? (i := 4) rfl
theorem in_X6_write_X6 : ∀ w ∈ wsX60, w ∈ wsX6_write := by decide +kernel
theorem hd_X6_write : yX6_write.cls = RX6 ∧ yX6_write.cls ≠ "java/lang/invoke/MethodHandle" ∧ yX6_write.cls ≠ "java/lang/invoke/VarHandle" ∧ (parseMethodDescriptor yX6_write.desc).map (fun d => d.parameters.length) = some 1 := by decide +kernel
set_option maxRecDepth 100000 in
set_option maxHeartbeats 4000000 in
theorem w_X6_write {p : Program} {l : Launch} {e : Env} {s : State} {m : MethodId} {args : Array Value} {below : List Frame} {meth : Method} {c : Code} {D : va_G} {cI : ClassId} {ad : Nat → Nat} {L : List CDs} {r : Int32} {M' : Mem} (C0 : me_X p s m args meth c cX6_write 2 (some .int) wsX6_write RX6 D cI ad L) (t : Nat) (hT : is_X6 L t) (x1 : Int32) : ∀  (M : Mem), X6_write t x1 M = some (r, M') → me_W p l e rmX6_write s m args below meth c D cI ad L (some (.int r)) M' 2 0 [(0, .ref (ad t)), (1, .int x1)] [] M := by
  obtain ⟨hx, hb, hr, hml, hown, hts, hlk, hK, hI⟩ := id C0
  intro M h
  unfold X6_write at h
  intro H locs ls hP hS hl
  refine lv_iload_n hx hb dX6_write_0 rfl (lv_at hl 1 rfl) ?_
  refine lv_i2l (v := (x1).toInt64) hx hb dX6_write_1 rfl ?_
  refine lv_ldc2 (v := (32 : Int64)) hx hb hown (hts _ kX6_write_c75) dX6_write_2 ?_
  refine lv_ldc2 (v := (126 : Int64)) hx hb hown (hts _ kX6_write_c77) dX6_write_5 ?_
  obtain ⟨v8, M8, h1, h⟩ := s_call_inv h
  refine me_callSi (As := [.long ((x1).toInt64), .long (32 : Int64), .long (126 : Int64)]) (rest := []) ⟨hx, hb, hml, hown, hts⟩ (c_X6_in h1) (va_cwS 3 hts gX6_write_X6_in rfl rfl rfl hd_X6_in.2 ⟨(Nat.le_of_ble_eq_true rfl), (Nat.le_of_ble_eq_true rfl)⟩) hK hI hP hS rfl hl.1 rfl (Nat.le_of_ble_eq_true rfl) dX6_write_8 ⟨Nat.zero_le _, Nat.zero_le _⟩ (fun H locs hP hS => ?_)
  refine lv_if_ne (tgt := 16) hx hb dX6_write_11 (by decide) (fun q => ?_) (fun q => ?_)
  · rw [if_pos q] at h
    refine lv_aload_n hx hb dX6_write_16 rfl (lv_at hl 0 rfl) ?_
    refine me_get (ci := 6) (C := RX6) (T := TX6) (N := 22) hx hb hts in_X6_write_X6 hown hK hP hT.1 rfl 0 (by decide) (hts _ kX6_write_f83) rfl dX6_write_17 ?_
    refine lv_sipush (v := (200 : Int32)) hx hb dX6_write_20 (by decide) ?_
    refine lv_icmp_ne (tgt := 29) hx hb dX6_write_23 (by decide) (fun q => ?_) (fun q => ?_)
    · rw [if_pos q] at h
      refine lv_aload_n hx hb dX6_write_29 rfl (lv_at hl 0 rfl) ?_
      refine me_getr (ci := 6) (C := RX6) (T := TX6) (N := 22) hx hb hts in_X6_write_X6 hown hK hP hT.1 rfl 1 (by decide) (hts _ kX6_write_f7) rfl dX6_write_30 ?_
      refine lv_aload_n hx hb dX6_write_33 rfl (lv_at hl 0 rfl) ?_
      refine me_get (ci := 6) (C := RX6) (T := TX6) (N := 22) hx hb hts in_X6_write_X6 hown hK hP hT.1 rfl 0 (by decide) (hts _ kX6_write_f83) rfl dX6_write_34 ?_
      refine lv_iload_n hx hb dX6_write_37 rfl (lv_at hl 1 rfl) ?_
      obtain ⟨hi, h⟩ := s_ast_inv h
      refine me_ast hx hb hK hI hP hS hT.2.1 hi dX6_write_38 (fun H locs M38 eM hP hS => ?_)
      replace h := h M38 eM
      refine lv_aload_n hx hb dX6_write_39 rfl (lv_at hl 0 rfl) ?_
      refine lv_dup hx hb dX6_write_40 rfl ?_
      refine me_get (ci := 6) (C := RX6) (T := TX6) (N := 22) hx hb hts in_X6_write_X6 hown hK hP hT.1 rfl 0 (by decide) (hts _ kX6_write_f83) rfl dX6_write_41 ?_
      refine lv_iconst (v := (1 : Int32)) hx hb dX6_write_44 (by decide) ?_
      refine lv_iadd hx hb dX6_write_45 ?_
      refine me_put (ci := 6) (C := RX6) (T := TX6) (N := 22) hx hb hts in_X6_write_X6 tyX6_ok nmX6 hown hK hI hP hS hT.1 rfl 0 (by decide) (hts _ kX6_write_f83) rfl rfl rfl dX6_write_46 (fun H locs M46 eM hP hS => ?_)
      replace h := s_put_inv h M46 eM
      refine lv_aload_n hx hb dX6_write_49 rfl (lv_at hl 0 rfl) ?_
      refine me_get (ci := 6) (C := RX6) (T := TX6) (N := 22) hx hb hts in_X6_write_X6 hown hK hP hT.1 rfl 0 (by decide) (hts _ kX6_write_f83) rfl dX6_write_50 ?_
      exact me_iret hx hb hr hlk hP hS h dX6_write_53
    · rw [if_neg (not_not_intro q)] at h
      refine lv_bipush (v := (-3 : Int32)) hx hb dX6_write_26 (by decide) ?_
      exact me_iret hx hb hr hlk hP hS h dX6_write_28
  · rw [if_neg (not_not_intro q)] at h
    refine lv_iconst (v := (-1 : Int32)) hx hb dX6_write_14 (by decide) ?_
    exact me_iret hx hb hr hlk hP hS h dX6_write_15
theorem c_X6_write {l : Launch} {D : va_G} {cI : ClassId} {ad : Nat → Nat} {L : List CDs} {t : Nat} (hT : is_X6 L t) {x1 : Int32} {M M' : Mem} {r : Int32} (h : X6_write t x1 M = some (r, M')) : me_Met l yX6_write wsX6_write rmX6_write D cI ad L [.ref (ad t), .int x1] (some (.int r)) M M' :=
  me_ofW (by decide) rfl (Nat.le_of_ble_eq_true rfl) (fun p e s m below meth c C0 => w_X6_write C0 t hT x1 M h)
abbrev rmX6_wipe : Room := { frames := 0, cells := 0, slots := 0, locals := 0 }
theorem kX6_wipe_f83 : (Cond.fieldLink RX6 83 "LadderOfBowsModel" "length" "I") ∈ wsX6_wipe := List.mem_of_getElem? (i := 1) rfl
theorem in_X6_wipe_X6 : ∀ w ∈ wsX60, w ∈ wsX6_wipe := by decide +kernel
theorem hd_X6_wipe : yX6_wipe.cls = RX6 ∧ yX6_wipe.cls ≠ "java/lang/invoke/MethodHandle" ∧ yX6_wipe.cls ≠ "java/lang/invoke/VarHandle" ∧ (parseMethodDescriptor yX6_wipe.desc).map (fun d => d.parameters.length) = some 0 := by decide +kernel
set_option maxRecDepth 100000 in
set_option maxHeartbeats 4000000 in
theorem w_X6_wipe {p : Program} {l : Launch} {e : Env} {s : State} {m : MethodId} {args : Array Value} {below : List Frame} {meth : Method} {c : Code} {D : va_G} {cI : ClassId} {ad : Nat → Nat} {L : List CDs} {r : Int32} {M' : Mem} (C0 : me_X p s m args meth c cX6_wipe 2 (some .int) wsX6_wipe RX6 D cI ad L) (t : Nat) (hT : is_X6 L t) : ∀  (M : Mem), X6_wipe t M = some (r, M') → me_W p l e rmX6_wipe s m args below meth c D cI ad L (some (.int r)) M' 2 0 [(0, .ref (ad t))] [] M := by
  obtain ⟨hx, hb, hr, hml, hown, hts, hlk, hK, hI⟩ := id C0
  intro M h
  unfold X6_wipe at h
  intro H locs ls hP hS hl
  refine lv_aload_n hx hb dX6_wipe_0 rfl (lv_at hl 0 rfl) ?_
  refine me_get (ci := 6) (C := RX6) (T := TX6) (N := 22) hx hb hts in_X6_wipe_X6 hown hK hP hT.1 rfl 0 (by decide) (hts _ kX6_wipe_f83) rfl dX6_wipe_1 ?_
  refine lv_topi (fun x1_4 ev => ?_)
  replace h := s_let_inv h x1_4 ev
  refine lv_istore_n (lv' := [(1, .int x1_4), (0, .ref (ad t))]) hx hb dX6_wipe_4 rfl hl (by decide) rfl (fun ls hl => ?_)
  refine lv_aload_n hx hb dX6_wipe_5 rfl (lv_at hl 1 rfl) ?_
  refine lv_iconst (v := (0 : Int32)) hx hb dX6_wipe_6 (by decide) ?_
  refine me_put (ci := 6) (C := RX6) (T := TX6) (N := 22) hx hb hts in_X6_wipe_X6 tyX6_ok nmX6 hown hK hI hP hS hT.1 rfl 0 (by decide) (hts _ kX6_wipe_f83) rfl rfl rfl dX6_wipe_7 (fun H locs M7 eM hP hS => ?_)
  replace h := s_put_inv h M7 eM
  refine lv_iload_n hx hb dX6_wipe_10 rfl (lv_at hl 0 rfl) ?_
  exact me_iret hx hb hr hlk hP hS h dX6_wipe_11
theorem c_X6_wipe {l : Launch} {D : va_G} {cI : ClassId} {ad : Nat → Nat} {L : List CDs} {t : Nat} (hT : is_X6 L t)  {M M' : Mem} {r : Int32} (h : X6_wipe t M = some (r, M')) : me_Met l yX6_wipe wsX6_wipe rmX6_wipe D cI ad L [.ref (ad t)] (some (.int r)) M M' :=
  me_ofW (by decide) rfl (Nat.le_of_ble_eq_true rfl) (fun p e s m below meth c C0 => w_X6_wipe C0 t hT M h)
abbrev rmX6_letterAt : Room := { frames := 0, cells := 0, slots := 0, locals := 0 }
theorem kX6_letterAt_f83 : (Cond.fieldLink RX6 83 "LadderOfBowsModel" "length" "I") ∈ wsX6_letterAt := List.mem_of_getElem? (i := 1) rfl
theorem kX6_letterAt_f7 : (Cond.fieldLink RX6 7 "LadderOfBowsModel" "text" "[I") ∈ wsX6_letterAt := List.mem_of_getElem? (i := 2) rfl
theorem in_X6_letterAt_X6 : ∀ w ∈ wsX60, w ∈ wsX6_letterAt := by decide +kernel
theorem hd_X6_letterAt : yX6_letterAt.cls = RX6 ∧ yX6_letterAt.cls ≠ "java/lang/invoke/MethodHandle" ∧ yX6_letterAt.cls ≠ "java/lang/invoke/VarHandle" ∧ (parseMethodDescriptor yX6_letterAt.desc).map (fun d => d.parameters.length) = some 1 := by decide +kernel
set_option maxRecDepth 100000 in
set_option maxHeartbeats 4000000 in
theorem w_X6_letterAt {p : Program} {l : Launch} {e : Env} {s : State} {m : MethodId} {args : Array Value} {below : List Frame} {meth : Method} {c : Code} {D : va_G} {cI : ClassId} {ad : Nat → Nat} {L : List CDs} {r : Int32} {M' : Mem} (C0 : me_X p s m args meth c cX6_letterAt 2 (some .int) wsX6_letterAt RX6 D cI ad L) (t : Nat) (hT : is_X6 L t) (x1 : Int32) : ∀  (M : Mem), X6_letterAt t x1 M = some (r, M') → me_W p l e rmX6_letterAt s m args below meth c D cI ad L (some (.int r)) M' 2 0 [(0, .ref (ad t)), (1, .int x1)] [] M := by
  obtain ⟨hx, hb, hr, hml, hown, hts, hlk, hK, hI⟩ := id C0
  intro M h
  unfold X6_letterAt at h
  intro H locs ls hP hS hl
  refine lv_iload_n hx hb dX6_letterAt_0 rfl (lv_at hl 1 rfl) ?_
  refine lv_aload_n hx hb dX6_letterAt_1 rfl (lv_at hl 0 rfl) ?_
  refine me_get (ci := 6) (C := RX6) (T := TX6) (N := 22) hx hb hts in_X6_letterAt_X6 hown hK hP hT.1 rfl 0 (by decide) (hts _ kX6_letterAt_f83) rfl dX6_letterAt_2 ?_
  refine lv_icmp_ge (tgt := 17) hx hb dX6_letterAt_5 (by decide) (fun q => ?_) (fun q => ?_)
  · rw [if_pos q] at h
    refine lv_iconst (v := (0 : Int32)) hx hb dX6_letterAt_17 (by decide) ?_
    exact me_iret hx hb hr hlk hP hS h dX6_letterAt_18
  · rw [if_neg q] at h
    refine lv_aload_n hx hb dX6_letterAt_8 rfl (lv_at hl 0 rfl) ?_
    refine me_getr (ci := 6) (C := RX6) (T := TX6) (N := 22) hx hb hts in_X6_letterAt_X6 hown hK hP hT.1 rfl 1 (by decide) (hts _ kX6_letterAt_f7) rfl dX6_letterAt_9 ?_
    refine lv_iload_n hx hb dX6_letterAt_12 rfl (lv_at hl 1 rfl) ?_
    obtain ⟨hi, h⟩ := s_ald_inv h
    refine me_ald hx hb hK hP hT.2.1 hi dX6_letterAt_13 (fun v13 ev => ?_)
    replace h := h v13 ev
    refine lv_goto (tgt := 18) hx hb dX6_letterAt_14 (by decide) ?_
    exact me_iret hx hb hr hlk hP hS h dX6_letterAt_18
theorem c_X6_letterAt {l : Launch} {D : va_G} {cI : ClassId} {ad : Nat → Nat} {L : List CDs} {t : Nat} (hT : is_X6 L t) {x1 : Int32} {M M' : Mem} {r : Int32} (h : X6_letterAt t x1 M = some (r, M')) : me_Met l yX6_letterAt wsX6_letterAt rmX6_letterAt D cI ad L [.ref (ad t), .int x1] (some (.int r)) M M' :=
  me_ofW (by decide) rfl (Nat.le_of_ble_eq_true rfl) (fun p e s m below meth c C0 => w_X6_letterAt C0 t hT x1 M h)
abbrev rmX6_figures : Room := { frames := 1, cells := 0, slots := 0, locals := 25 }
theorem kX6_figures_f87 : (Cond.fieldLink RX6 87 "LadderOfBowsModel" "spot" "I") ∈ wsX6_figures := List.mem_of_getElem? (i := 1) rfl
theorem kX6_figures_c94 : (Cond.constantLong RX6 94 (48)) ∈ wsX6_figures := List.mem_of_getElem? (i := 2) rfl
theorem kX6_figures_c96 : (Cond.constantLong RX6 96 (57)) ∈ wsX6_figures := List.mem_of_getElem? (i := 3) rfl
theorem kX6_figures_c98 : (Cond.constantLong RX6 98 (2)) ∈ wsX6_figures := List.mem_of_getElem? (i := 4) rfl
theorem kX6_figures_f43 : (Cond.fieldLink RX6 43 "LadderOfBowsModel" "told" "[I") ∈ wsX6_figures := List.mem_of_getElem? (i := 5) rfl
theorem in_X6_figures_X6 : ∀ w ∈ wsX60, w ∈ wsX6_figures := by decide +kernel
theorem hd_X6_figures : yX6_figures.cls = RX6 ∧ yX6_figures.cls ≠ "java/lang/invoke/MethodHandle" ∧ yX6_figures.cls ≠ "java/lang/invoke/VarHandle" ∧ (parseMethodDescriptor yX6_figures.desc).map (fun d => d.parameters.length) = some 1 := by decide +kernel
set_option maxRecDepth 100000 in
set_option maxHeartbeats 4000000 in
theorem w_X6_figures_107 {p : Program} {l : Launch} {e : Env} {s : State} {m : MethodId} {args : Array Value} {below : List Frame} {meth : Method} {c : Code} {D : va_G} {cI : ClassId} {ad : Nat → Nat} {L : List CDs} {r : Int32} {M' : Mem} (C0 : me_X p s m args meth c cX6_figures 5 (some .boolean) wsX6_figures RX6 D cI ad L) (t : Nat) (hT : is_X6 L t) (x1 : Int32) (x2 : Int32) (x4 : Int32) (k2 : Int32 → Mem → Option (Int32 × Mem)) (hk2 : ∀ (x2 : Int32) (M : Mem), k2 x2 M = some (r, M') → me_W p l e rmX6_figures s m args below meth c D cI ad L (some (.int r)) M' 5 2 [(0, .ref (ad t)), (1, .int x1), (2, .int x2)] [] M) : ∀ (y0 : Int32) (y1 : Int32) (M : Mem), X6_figures_107 t x1 x2 x4 k2 y0 y1 M = some (r, M') → me_W p l e rmX6_figures s m args below meth c D cI ad L (some (.int r)) M' 5 107 [(0, .ref (ad t)), (1, .int x1), (2, .int x2), (4, .int x4)] [.int y0, .int y1] M := by
  obtain ⟨hx, hb, hr, hml, hown, hts, hlk, hK, hI⟩ := id C0
  intro y0 y1 M h
  unfold X6_figures_107 at h
  intro H locs ls hP hS hl
  refine lv_icmp_eq (tgt := 112) hx hb dX6_figures_107 (by decide) (fun q => ?_) (fun q => ?_)
  · rw [if_pos q] at h
    refine lv_aload_n hx hb dX6_figures_112 rfl (lv_at hl 0 rfl) ?_
    refine me_getr (ci := 6) (C := RX6) (T := TX6) (N := 22) hx hb hts in_X6_figures_X6 hown hK hP hT.1 rfl 15 (by decide) (hts _ kX6_figures_f43) rfl dX6_figures_113 ?_
    refine lv_iload_n hx hb dX6_figures_116 rfl (lv_at hl 2 rfl) ?_
    refine lv_iload hx hb dX6_figures_117 (lv_at hl 3 rfl) ?_
    obtain ⟨hi, h⟩ := s_ast_inv h
    refine me_ast hx hb hK hI hP hS hT.2.2.2.2.2.2.2.2.2.2.2.2.1 hi dX6_figures_119 (fun H locs M119 eM hP hS => ?_)
    replace h := h M119 eM
    refine lv_aload_n hx hb dX6_figures_120 rfl (lv_at hl 0 rfl) ?_
    refine lv_dup hx hb dX6_figures_121 rfl ?_
    refine me_get (ci := 6) (C := RX6) (T := TX6) (N := 22) hx hb hts in_X6_figures_X6 hown hK hP hT.1 rfl 14 (by decide) (hts _ kX6_figures_f87) rfl dX6_figures_122 ?_
    refine lv_iconst (v := (1 : Int32)) hx hb dX6_figures_125 (by decide) ?_
    refine lv_iadd hx hb dX6_figures_126 ?_
    refine me_put (ci := 6) (C := RX6) (T := TX6) (N := 22) hx hb hts in_X6_figures_X6 tyX6_ok nmX6 hown hK hI hP hS hT.1 rfl 14 (by decide) (hts _ kX6_figures_f87) rfl rfl rfl dX6_figures_127 (fun H locs M127 eM hP hS => ?_)
    replace h := s_put_inv h M127 eM
    refine lv_iinc (k := 2) (v := (x2 + (1 : Int32))) (lv' := [(2, .int (x2 + (1 : Int32))), (0, .ref (ad t)), (1, .int x1), (4, .int x4)]) hx hb dX6_figures_130 hl rfl rfl (by decide) rfl (fun ls hl => ?_)
    refine lv_goto (tgt := 2) hx hb dX6_figures_133 (by decide) ?_
    exact hk2 (x2 + (1 : Int32)) M127 h H locs ls hP hS (lv_sub hl [1, 2, 0] rfl)
  · rw [if_neg q] at h
    refine lv_iconst (v := (0 : Int32)) hx hb dX6_figures_110 (by decide) ?_
    exact me_zret hx hb hr hlk hP hS h dX6_figures_111
set_option maxRecDepth 100000 in
set_option maxHeartbeats 4000000 in
theorem w_X6_figures_73 {p : Program} {l : Launch} {e : Env} {s : State} {m : MethodId} {args : Array Value} {below : List Frame} {meth : Method} {c : Code} {D : va_G} {cI : ClassId} {ad : Nat → Nat} {L : List CDs} {r : Int32} {M' : Mem} (C0 : me_X p s m args meth c cX6_figures 5 (some .boolean) wsX6_figures RX6 D cI ad L) (t : Nat) (hT : is_X6 L t) (x1 : Int32) (x2 : Int32) (x3 : Int32) (x4 : Int32) (k2 : Int32 → Mem → Option (Int32 × Mem)) (hk2 : ∀ (x2 : Int32) (M : Mem), k2 x2 M = some (r, M') → me_W p l e rmX6_figures s m args below meth c D cI ad L (some (.int r)) M' 5 2 [(0, .ref (ad t)), (1, .int x1), (2, .int x2)] [] M) : ∀  (M : Mem), X6_figures_73 t x1 x2 x3 x4 k2 M = some (r, M') → me_W p l e rmX6_figures s m args below meth c D cI ad L (some (.int r)) M' 5 73 [(0, .ref (ad t)), (1, .int x1), (2, .int x2), (3, .int x3), (4, .int x4)] [] M := by
  obtain ⟨hx, hb, hr, hml, hown, hts, hlk, hK, hI⟩ := id C0
  intro M h
  unfold X6_figures_73 at h
  intro H locs ls hP hS hl
  refine lv_iload_n hx hb dX6_figures_73 rfl (lv_at hl 3 rfl) ?_
  refine lv_i2l (v := (x3).toInt64) hx hb dX6_figures_74 rfl ?_
  refine lv_lconst (v := (1 : Int64)) hx hb dX6_figures_75 (by decide) ?_
  refine lv_ldc2 (v := (2 : Int64)) hx hb hown (hts _ kX6_figures_c98) dX6_figures_76 ?_
  obtain ⟨v79, M79, h1, h⟩ := s_call_inv h
  refine me_callSi (As := [.long ((x3).toInt64), .long (1 : Int64), .long (2 : Int64)]) (rest := []) ⟨hx, hb, hml, hown, hts⟩ (c_X6_in h1) (va_cwS 3 hts gX6_figures_X6_in rfl rfl rfl hd_X6_in.2 ⟨(Nat.le_of_ble_eq_true rfl), (Nat.le_of_ble_eq_true rfl)⟩) hK hI hP hS rfl hl.1 rfl (Nat.le_of_ble_eq_true rfl) dX6_figures_79 ⟨Nat.zero_le _, Nat.zero_le _⟩ (fun H locs hP hS => ?_)
  refine lv_if_eq (tgt := 110) hx hb dX6_figures_82 (by decide) (fun q => ?_) (fun q => ?_)
  · rw [if_pos q] at h
    refine lv_iconst (v := (0 : Int32)) hx hb dX6_figures_110 (by decide) ?_
    exact me_zret hx hb hr hlk hP hS h dX6_figures_111
  · rw [if_neg q] at h
    refine lv_aload_n hx hb dX6_figures_85 rfl (lv_at hl 0 rfl) ?_
    refine lv_aload_n hx hb dX6_figures_86 rfl (lv_at hl 0 rfl) ?_
    refine me_get (ci := 6) (C := RX6) (T := TX6) (N := 22) hx hb hts in_X6_figures_X6 hown hK hP hT.1 rfl 14 (by decide) (hts _ kX6_figures_f87) rfl dX6_figures_87 ?_
    obtain ⟨v90, M90, h1, h⟩ := s_call_inv h
    refine me_callVi (As := [.int (M79 t 14)]) (rest := []) ⟨hx, hb, hml, hown, hts⟩ (c_X6_letterAt hT h1) (cwV 1 hts gX6_figures_X6_letterAt rfl rfl rfl hd_X6_letterAt ⟨(Nat.le_of_ble_eq_true rfl), (Nat.le_of_ble_eq_true rfl)⟩) hK hI hP hS hT.1 rfl rfl hl.1 rfl (Nat.le_of_ble_eq_true rfl) dX6_figures_90 ⟨Nat.zero_le _, Nat.zero_le _⟩ (fun H locs hP hS => ?_)
    refine lv_iload_n hx hb dX6_figures_93 rfl (lv_at hl 2 rfl) ?_
    refine lv_iload_n hx hb dX6_figures_94 rfl (lv_at hl 1 rfl) ?_
    refine lv_iconst (v := (1 : Int32)) hx hb dX6_figures_95 (by decide) ?_
    refine lv_isub hx hb dX6_figures_96 ?_
    refine lv_icmp_ge (tgt := 105) hx hb dX6_figures_97 (by decide) (fun q => ?_) (fun q => ?_)
    · rw [if_pos q] at h
      refine lv_bipush (v := (59 : Int32)) hx hb dX6_figures_105 (by decide) ?_
      exact w_X6_figures_107 C0 t hT x1 x2 x4 k2 hk2 (59 : Int32) v90 M90 h H locs ls hP hS (lv_sub hl [0, 1, 2, 4] rfl)
    · rw [if_neg q] at h
      refine lv_bipush (v := (44 : Int32)) hx hb dX6_figures_100 (by decide) ?_
      refine lv_goto (tgt := 107) hx hb dX6_figures_102 (by decide) ?_
      exact w_X6_figures_107 C0 t hT x1 x2 x4 k2 hk2 (44 : Int32) v90 M90 h H locs ls hP hS (lv_sub hl [0, 1, 2, 4] rfl)
set_option maxRecDepth 100000 in
set_option maxHeartbeats 4000000 in
theorem w_X6_figures_12 {p : Program} {l : Launch} {e : Env} {s : State} {m : MethodId} {args : Array Value} {below : List Frame} {meth : Method} {c : Code} {D : va_G} {cI : ClassId} {ad : Nat → Nat} {L : List CDs} {r : Int32} {M' : Mem} (C0 : me_X p s m args meth c cX6_figures 5 (some .boolean) wsX6_figures RX6 D cI ad L) (t : Nat) (hT : is_X6 L t) (x1 : Int32) (x2 : Int32) (k2 : Int32 → Mem → Option (Int32 × Mem)) (hk2 : ∀ (x2 : Int32) (M : Mem), k2 x2 M = some (r, M') → me_W p l e rmX6_figures s m args below meth c D cI ad L (some (.int r)) M' 5 2 [(0, .ref (ad t)), (1, .int x1), (2, .int x2)] [] M) : ∀ (n : Nat) (x3 : Int32) (x4 : Int32) (M : Mem), X6_figures_12 t x1 x2 k2 n x3 x4 M = some (r, M') → me_W p l e rmX6_figures s m args below meth c D cI ad L (some (.int r)) M' 5 12 [(0, .ref (ad t)), (1, .int x1), (2, .int x2), (3, .int x3), (4, .int x4)] [] M := by
  obtain ⟨hx, hb, hr, hml, hown, hts, hlk, hK, hI⟩ := id C0
  intro n
  induction n with
  | zero =>
    intro x3 x4 M h
    rw [X6_figures_12] at h
    cases h
  | succ n ih =>
    intro x3 x4 M h
    rw [X6_figures_12] at h
    intro H locs ls hP hS hl
    refine lv_aload_n hx hb dX6_figures_12 rfl (lv_at hl 0 rfl) ?_
    refine lv_aload_n hx hb dX6_figures_13 rfl (lv_at hl 0 rfl) ?_
    refine me_get (ci := 6) (C := RX6) (T := TX6) (N := 22) hx hb hts in_X6_figures_X6 hown hK hP hT.1 rfl 14 (by decide) (hts _ kX6_figures_f87) rfl dX6_figures_14 ?_
    obtain ⟨v17, M17, h1, h⟩ := s_call_inv h
    refine me_callVi (As := [.int (M t 14)]) (rest := []) ⟨hx, hb, hml, hown, hts⟩ (c_X6_letterAt hT h1) (cwV 1 hts gX6_figures_X6_letterAt rfl rfl rfl hd_X6_letterAt ⟨(Nat.le_of_ble_eq_true rfl), (Nat.le_of_ble_eq_true rfl)⟩) hK hI hP hS hT.1 rfl rfl hl.1 rfl (Nat.le_of_ble_eq_true rfl) dX6_figures_17 ⟨Nat.zero_le _, Nat.zero_le _⟩ (fun H locs hP hS => ?_)
    refine lv_i2l (v := (v17).toInt64) hx hb dX6_figures_20 rfl ?_
    refine lv_ldc2 (v := (48 : Int64)) hx hb hown (hts _ kX6_figures_c94) dX6_figures_21 ?_
    refine lv_ldc2 (v := (57 : Int64)) hx hb hown (hts _ kX6_figures_c96) dX6_figures_24 ?_
    obtain ⟨v27, M27, h1, h⟩ := s_call_inv h
    refine me_callSi (As := [.long ((v17).toInt64), .long (48 : Int64), .long (57 : Int64)]) (rest := []) ⟨hx, hb, hml, hown, hts⟩ (c_X6_in h1) (va_cwS 3 hts gX6_figures_X6_in rfl rfl rfl hd_X6_in.2 ⟨(Nat.le_of_ble_eq_true rfl), (Nat.le_of_ble_eq_true rfl)⟩) hK hI hP hS rfl hl.1 rfl (Nat.le_of_ble_eq_true rfl) dX6_figures_27 ⟨Nat.zero_le _, Nat.zero_le _⟩ (fun H locs hP hS => ?_)
    refine lv_if_eq (tgt := 73) hx hb dX6_figures_30 (by decide) (fun q => ?_) (fun q => ?_)
    · rw [if_pos q] at h
      exact w_X6_figures_73 C0 t hT x1 x2 x3 x4 k2 hk2 M27 h H locs ls hP hS (lv_sub hl [0, 1, 2, 3, 4] rfl)
    · rw [if_neg q] at h
      refine lv_iload_n hx hb dX6_figures_33 rfl (lv_at hl 3 rfl) ?_
      refine lv_iconst (v := (3 : Int32)) hx hb dX6_figures_34 (by decide) ?_
      refine lv_icmp_ge (tgt := 73) hx hb dX6_figures_35 (by decide) (fun q => ?_) (fun q => ?_)
      · rw [if_pos q] at h
        exact w_X6_figures_73 C0 t hT x1 x2 x3 x4 k2 hk2 M27 h H locs ls hP hS (lv_sub hl [0, 1, 2, 3, 4] rfl)
      · rw [if_neg q] at h
        refine lv_bipush (v := (10 : Int32)) hx hb dX6_figures_38 (by decide) ?_
        refine lv_iload hx hb dX6_figures_40 (lv_at hl 4 rfl) ?_
        refine lv_imul hx hb dX6_figures_42 ?_
        refine lv_aload_n hx hb dX6_figures_43 rfl (lv_at hl 0 rfl) ?_
        refine lv_aload_n hx hb dX6_figures_44 rfl (lv_at hl 0 rfl) ?_
        refine me_get (ci := 6) (C := RX6) (T := TX6) (N := 22) hx hb hts in_X6_figures_X6 hown hK hP hT.1 rfl 14 (by decide) (hts _ kX6_figures_f87) rfl dX6_figures_45 ?_
        obtain ⟨v48, M48, h1, h⟩ := s_call_inv h
        refine me_callVi (As := [.int (M27 t 14)]) (rest := [.int ((10 : Int32) * x4)]) ⟨hx, hb, hml, hown, hts⟩ (c_X6_letterAt hT h1) (cwV 1 hts gX6_figures_X6_letterAt rfl rfl rfl hd_X6_letterAt ⟨(Nat.le_of_ble_eq_true rfl), (Nat.le_of_ble_eq_true rfl)⟩) hK hI hP hS hT.1 rfl rfl hl.1 rfl (Nat.le_of_ble_eq_true rfl) dX6_figures_48 ⟨Nat.zero_le _, Nat.zero_le _⟩ (fun H locs hP hS => ?_)
        refine lv_iadd hx hb dX6_figures_51 ?_
        refine lv_bipush (v := (48 : Int32)) hx hb dX6_figures_52 (by decide) ?_
        refine lv_isub hx hb dX6_figures_54 ?_
        refine lv_topi (fun x4_55 ev => ?_)
        replace h := s_let_inv h x4_55 ev
        refine lv_istore (lv' := [(4, .int x4_55), (0, .ref (ad t)), (1, .int x1), (2, .int x2), (3, .int x3)]) hx hb dX6_figures_55 hl (by decide) rfl (fun ls hl => ?_)
        refine lv_iinc (k := 4) (v := (x3 + (1 : Int32))) (lv' := [(3, .int (x3 + (1 : Int32))), (4, .int x4_55), (0, .ref (ad t)), (1, .int x1), (2, .int x2)]) hx hb dX6_figures_57 hl rfl rfl (by decide) rfl (fun ls hl => ?_)
        refine lv_aload_n hx hb dX6_figures_60 rfl (lv_at hl 2 rfl) ?_
        refine lv_dup hx hb dX6_figures_61 rfl ?_
        refine me_get (ci := 6) (C := RX6) (T := TX6) (N := 22) hx hb hts in_X6_figures_X6 hown hK hP hT.1 rfl 14 (by decide) (hts _ kX6_figures_f87) rfl dX6_figures_62 ?_
        refine lv_iconst (v := (1 : Int32)) hx hb dX6_figures_65 (by decide) ?_
        refine lv_iadd hx hb dX6_figures_66 ?_
        refine me_put (ci := 6) (C := RX6) (T := TX6) (N := 22) hx hb hts in_X6_figures_X6 tyX6_ok nmX6 hown hK hI hP hS hT.1 rfl 14 (by decide) (hts _ kX6_figures_f87) rfl rfl rfl dX6_figures_67 (fun H locs M67 eM hP hS => ?_)
        replace h := s_put_inv h M67 eM
        refine lv_goto (tgt := 12) hx hb dX6_figures_70 (by decide) ?_
        exact ih (x3 + (1 : Int32)) x4_55 M67 h H locs ls hP hS (lv_sub hl [2, 3, 4, 0, 1] rfl)
set_option maxRecDepth 100000 in
set_option maxHeartbeats 4000000 in
theorem w_X6_figures_2 {p : Program} {l : Launch} {e : Env} {s : State} {m : MethodId} {args : Array Value} {below : List Frame} {meth : Method} {c : Code} {D : va_G} {cI : ClassId} {ad : Nat → Nat} {L : List CDs} {r : Int32} {M' : Mem} (C0 : me_X p s m args meth c cX6_figures 5 (some .boolean) wsX6_figures RX6 D cI ad L) (t : Nat) (hT : is_X6 L t) (x1 : Int32) : ∀ (n : Nat) (x2 : Int32) (M : Mem), X6_figures_2 t x1 n x2 M = some (r, M') → me_W p l e rmX6_figures s m args below meth c D cI ad L (some (.int r)) M' 5 2 [(0, .ref (ad t)), (1, .int x1), (2, .int x2)] [] M := by
  obtain ⟨hx, hb, hr, hml, hown, hts, hlk, hK, hI⟩ := id C0
  intro n
  induction n with
  | zero =>
    intro x2 M h
    rw [X6_figures_2] at h
    cases h
  | succ n ih =>
    intro x2 M h
    rw [X6_figures_2] at h
    intro H locs ls hP hS hl
    refine lv_iload_n hx hb dX6_figures_2 rfl (lv_at hl 2 rfl) ?_
    refine lv_iload_n hx hb dX6_figures_3 rfl (lv_at hl 1 rfl) ?_
    refine lv_icmp_ge (tgt := 136) hx hb dX6_figures_4 (by decide) (fun q => ?_) (fun q => ?_)
    · rw [if_pos q] at h
      refine lv_iconst (v := (1 : Int32)) hx hb dX6_figures_136 (by decide) ?_
      exact me_zret hx hb hr hlk hP hS h dX6_figures_137
    · rw [if_neg q] at h
      refine lv_iconst (v := (0 : Int32)) hx hb dX6_figures_7 (by decide) ?_
      refine lv_istore_n (lv' := [(3, .int (0 : Int32)), (0, .ref (ad t)), (1, .int x1), (2, .int x2)]) hx hb dX6_figures_8 rfl hl (by decide) rfl (fun ls hl => ?_)
      refine lv_iconst (v := (0 : Int32)) hx hb dX6_figures_9 (by decide) ?_
      refine lv_istore (lv' := [(4, .int (0 : Int32)), (3, .int (0 : Int32)), (0, .ref (ad t)), (1, .int x1), (2, .int x2)]) hx hb dX6_figures_10 hl (by decide) rfl (fun ls hl => ?_)
      exact w_X6_figures_12 C0 t hT x1 x2 (X6_figures_2 t x1 n) (fun x2 M h => ih x2 M h) FU (0 : Int32) (0 : Int32) M h H locs ls hP hS (lv_sub hl [2, 3, 4, 1, 0] rfl)
set_option maxRecDepth 100000 in
set_option maxHeartbeats 4000000 in
theorem w_X6_figures {p : Program} {l : Launch} {e : Env} {s : State} {m : MethodId} {args : Array Value} {below : List Frame} {meth : Method} {c : Code} {D : va_G} {cI : ClassId} {ad : Nat → Nat} {L : List CDs} {r : Int32} {M' : Mem} (C0 : me_X p s m args meth c cX6_figures 5 (some .boolean) wsX6_figures RX6 D cI ad L) (t : Nat) (hT : is_X6 L t) (x1 : Int32) : ∀  (M : Mem), X6_figures t x1 M = some (r, M') → me_W p l e rmX6_figures s m args below meth c D cI ad L (some (.int r)) M' 5 0 [(0, .ref (ad t)), (1, .int x1)] [] M := by
  obtain ⟨hx, hb, hr, hml, hown, hts, hlk, hK, hI⟩ := id C0
  intro M h
  unfold X6_figures at h
  intro H locs ls hP hS hl
  refine lv_iconst (v := (0 : Int32)) hx hb dX6_figures_0 (by decide) ?_
  refine lv_istore_n (lv' := [(2, .int (0 : Int32)), (0, .ref (ad t)), (1, .int x1)]) hx hb dX6_figures_1 rfl hl (by decide) rfl (fun ls hl => ?_)
  exact w_X6_figures_2 C0 t hT x1 FU (0 : Int32) M h H locs ls hP hS (lv_sub hl [1, 2, 0] rfl)
theorem c_X6_figures {l : Launch} {D : va_G} {cI : ClassId} {ad : Nat → Nat} {L : List CDs} {t : Nat} (hT : is_X6 L t) {x1 : Int32} {M M' : Mem} {r : Int32} (h : X6_figures t x1 M = some (r, M')) : me_Met l yX6_figures wsX6_figures rmX6_figures D cI ad L [.ref (ad t), .int x1] (some (.int r)) M M' :=
  me_ofW (by decide) rfl (Nat.le_of_ble_eq_true rfl) (fun p e s m below meth c C0 => w_X6_figures C0 t hT x1 M h)
abbrev rmX6_item : Room := { frames := 2, cells := 0, slots := 0, locals := 49 }
theorem kX6_item_f87 : (Cond.fieldLink RX6 87 "LadderOfBowsModel" "spot" "I") ∈ wsX6_item := List.mem_of_getElem? (i := 1) rfl
theorem kX6_item_f43 : (Cond.fieldLink RX6 43 "LadderOfBowsModel" "told" "[I") ∈ wsX6_item := List.mem_of_getElem? (i := 3) rfl
theorem kX6_item_c104 : (Cond.constantLong RX6 104 (60)) ∈ wsX6_item := List.mem_of_getElem? (i := 5) rfl
theorem kX6_item_f25 : (Cond.fieldLink RX6 25 "LadderOfBowsModel" "easters" "[I") ∈ wsX6_item := List.mem_of_getElem? (i := 6) rfl
theorem kX6_item_f13 : (Cond.fieldLink RX6 13 "LadderOfBowsModel" "persons" "[I") ∈ wsX6_item := List.mem_of_getElem? (i := 2) rfl
theorem kX6_item_f22 : (Cond.fieldLink RX6 22 "LadderOfBowsModel" "firsts" "[I") ∈ wsX6_item := List.mem_of_getElem? (i := 4) rfl
theorem in_X6_item_X6 : ∀ w ∈ wsX60, w ∈ wsX6_item := by decide +kernel
theorem hd_X6_item : yX6_item.cls = RX6 ∧ yX6_item.cls ≠ "java/lang/invoke/MethodHandle" ∧ yX6_item.cls ≠ "java/lang/invoke/VarHandle" ∧ (parseMethodDescriptor yX6_item.desc).map (fun d => d.parameters.length) = some 0 := by decide +kernel
set_option maxRecDepth 100000 in
set_option maxHeartbeats 4000000 in
theorem w_X6_item {p : Program} {l : Launch} {e : Env} {s : State} {m : MethodId} {args : Array Value} {below : List Frame} {meth : Method} {c : Code} {D : va_G} {cI : ClassId} {ad : Nat → Nat} {L : List CDs} {r : Int32} {M' : Mem} (C0 : me_X p s m args meth c cX6_item 2 (some .boolean) wsX6_item RX6 D cI ad L) (t : Nat) (hT : is_X6 L t) : ∀  (M : Mem), X6_item t M = some (r, M') → me_W p l e rmX6_item s m args below meth c D cI ad L (some (.int r)) M' 2 0 [(0, .ref (ad t))] [] M := by
  obtain ⟨hx, hb, hr, hml, hown, hts, hlk, hK, hI⟩ := id C0
  intro M h
  unfold X6_item at h
  intro H locs ls hP hS hl
  refine lv_aload_n hx hb dX6_item_0 rfl (lv_at hl 0 rfl) ?_
  refine lv_aload_n hx hb dX6_item_1 rfl (lv_at hl 0 rfl) ?_
  refine me_get (ci := 6) (C := RX6) (T := TX6) (N := 22) hx hb hts in_X6_item_X6 hown hK hP hT.1 rfl 14 (by decide) (hts _ kX6_item_f87) rfl dX6_item_2 ?_
  obtain ⟨v5, M5, h1, h⟩ := s_call_inv h
  refine me_callVi (As := [.int (M t 14)]) (rest := []) ⟨hx, hb, hml, hown, hts⟩ (c_X6_letterAt hT h1) (cwV 1 hts gX6_item_X6_letterAt rfl rfl rfl hd_X6_letterAt ⟨(Nat.le_of_ble_eq_true rfl), (Nat.le_of_ble_eq_true rfl)⟩) hK hI hP hS hT.1 rfl rfl hl.1 rfl (Nat.le_of_ble_eq_true rfl) dX6_item_5 ⟨Nat.zero_le _, Nat.zero_le _⟩ (fun H locs hP hS => ?_)
  refine lv_istore_n (lv' := [(1, .int v5), (0, .ref (ad t))]) hx hb dX6_item_8 rfl hl (by decide) rfl (fun ls hl => ?_)
  refine lv_aload_n hx hb dX6_item_9 rfl (lv_at hl 1 rfl) ?_
  refine lv_dup hx hb dX6_item_10 rfl ?_
  refine me_get (ci := 6) (C := RX6) (T := TX6) (N := 22) hx hb hts in_X6_item_X6 hown hK hP hT.1 rfl 14 (by decide) (hts _ kX6_item_f87) rfl dX6_item_11 ?_
  refine lv_iconst (v := (1 : Int32)) hx hb dX6_item_14 (by decide) ?_
  refine lv_iadd hx hb dX6_item_15 ?_
  refine me_put (ci := 6) (C := RX6) (T := TX6) (N := 22) hx hb hts in_X6_item_X6 tyX6_ok nmX6 hown hK hI hP hS hT.1 rfl 14 (by decide) (hts _ kX6_item_f87) rfl rfl rfl dX6_item_16 (fun H locs M16 eM hP hS => ?_)
  replace h := s_put_inv h M16 eM
  refine lv_iload_n hx hb dX6_item_19 rfl (lv_at hl 0 rfl) ?_
  by_cases q0 : v5 = (101 : Int32)
  · rw [if_pos q0] at h
    refine lv_lookup (tgt := 214) (off := 194) hx hb dX6_item_20 (by decide) (by rw [q0]; rfl) (by decide) ?_
    refine lv_aload_n hx hb dX6_item_214 rfl (lv_at hl 1 rfl) ?_
    refine lv_iconst (v := (1 : Int32)) hx hb dX6_item_215 (by decide) ?_
    obtain ⟨v216, M216, h1, h⟩ := s_call_inv h
    refine me_callVi (As := [.int (1 : Int32)]) (rest := []) ⟨hx, hb, hml, hown, hts⟩ (c_X6_figures hT h1) (cwV 1 hts gX6_item_X6_figures rfl rfl rfl hd_X6_figures ⟨(Nat.le_of_ble_eq_true rfl), (Nat.le_of_ble_eq_true rfl)⟩) hK hI hP hS hT.1 rfl rfl hl.1 rfl (Nat.le_of_ble_eq_true rfl) dX6_item_216 ⟨Nat.zero_le _, Nat.zero_le _⟩ (fun H locs hP hS => ?_)
    refine lv_if_eq (tgt := 239) hx hb dX6_item_219 (by decide) (fun q => ?_) (fun q => ?_)
    · rw [if_pos q] at h
      refine lv_iconst (v := (0 : Int32)) hx hb dX6_item_239 (by decide) ?_
      exact me_zret hx hb hr hlk hP hS h dX6_item_240
    · rw [if_neg q] at h
      refine lv_aload_n hx hb dX6_item_222 rfl (lv_at hl 1 rfl) ?_
      refine me_getr (ci := 6) (C := RX6) (T := TX6) (N := 22) hx hb hts in_X6_item_X6 hown hK hP hT.1 rfl 15 (by decide) (hts _ kX6_item_f43) rfl dX6_item_223 ?_
      refine lv_iconst (v := (0 : Int32)) hx hb dX6_item_226 (by decide) ?_
      obtain ⟨hi, h⟩ := s_ald_inv h
      refine me_ald hx hb hK hP hT.2.2.2.2.2.2.2.2.2.2.2.2.1 hi dX6_item_227 (fun v227 ev => ?_)
      replace h := h v227 ev
      refine lv_i2l (v := (v227).toInt64) hx hb dX6_item_228 rfl ?_
      refine lv_lconst (v := (1 : Int64)) hx hb dX6_item_229 (by decide) ?_
      refine lv_ldc2 (v := (60 : Int64)) hx hb hown (hts _ kX6_item_c104) dX6_item_230 ?_
      obtain ⟨v233, M233, h1, h⟩ := s_call_inv h
      refine me_callSi (As := [.long ((v227).toInt64), .long (1 : Int64), .long (60 : Int64)]) (rest := []) ⟨hx, hb, hml, hown, hts⟩ (c_X6_in h1) (va_cwS 3 hts gX6_item_X6_in rfl rfl rfl hd_X6_in.2 ⟨(Nat.le_of_ble_eq_true rfl), (Nat.le_of_ble_eq_true rfl)⟩) hK hI hP hS rfl hl.1 rfl (Nat.le_of_ble_eq_true rfl) dX6_item_233 ⟨Nat.zero_le _, Nat.zero_le _⟩ (fun H locs hP hS => ?_)
      refine lv_if_ne (tgt := 241) hx hb dX6_item_236 (by decide) (fun q => ?_) (fun q => ?_)
      · rw [if_pos q] at h
        refine lv_aload_n hx hb dX6_item_241 rfl (lv_at hl 1 rfl) ?_
        refine me_getr (ci := 6) (C := RX6) (T := TX6) (N := 22) hx hb hts in_X6_item_X6 hown hK hP hT.1 rfl 6 (by decide) (hts _ kX6_item_f25) rfl dX6_item_242 ?_
        refine lv_iconst (v := (1 : Int32)) hx hb dX6_item_245 (by decide) ?_
        refine lv_aload_n hx hb dX6_item_246 rfl (lv_at hl 1 rfl) ?_
        refine me_getr (ci := 6) (C := RX6) (T := TX6) (N := 22) hx hb hts in_X6_item_X6 hown hK hP hT.1 rfl 15 (by decide) (hts _ kX6_item_f43) rfl dX6_item_247 ?_
        refine lv_iconst (v := (0 : Int32)) hx hb dX6_item_250 (by decide) ?_
        obtain ⟨hi, h⟩ := s_ald_inv h
        refine me_ald hx hb hK hP hT.2.2.2.2.2.2.2.2.2.2.2.2.1 hi dX6_item_251 (fun v251 ev => ?_)
        replace h := h v251 ev
        obtain ⟨hi, h⟩ := s_ast_inv h
        refine me_ast hx hb hK hI hP hS hT.2.2.2.2.2.2.1 hi dX6_item_252 (fun H locs M252 eM hP hS => ?_)
        replace h := h M252 eM
        refine lv_iconst (v := (1 : Int32)) hx hb dX6_item_253 (by decide) ?_
        exact me_zret hx hb hr hlk hP hS h dX6_item_254
      · rw [if_neg (not_not_intro q)] at h
        refine lv_iconst (v := (0 : Int32)) hx hb dX6_item_239 (by decide) ?_
        exact me_zret hx hb hr hlk hP hS h dX6_item_240
  rw [if_neg q0] at h
  by_cases q1 : v5 = (111 : Int32)
  · rw [if_pos q1] at h
    refine lv_lookup (tgt := 116) (off := 96) hx hb dX6_item_20 (by decide) (by rw [q1]; rfl) (by decide) ?_
    refine lv_aload_n hx hb dX6_item_116 rfl (lv_at hl 1 rfl) ?_
    refine lv_iconst (v := (3 : Int32)) hx hb dX6_item_117 (by decide) ?_
    obtain ⟨v118, M118, h1, h⟩ := s_call_inv h
    refine me_callVi (As := [.int (3 : Int32)]) (rest := []) ⟨hx, hb, hml, hown, hts⟩ (c_X6_figures hT h1) (cwV 1 hts gX6_item_X6_figures rfl rfl rfl hd_X6_figures ⟨(Nat.le_of_ble_eq_true rfl), (Nat.le_of_ble_eq_true rfl)⟩) hK hI hP hS hT.1 rfl rfl hl.1 rfl (Nat.le_of_ble_eq_true rfl) dX6_item_118 ⟨Nat.zero_le _, Nat.zero_le _⟩ (fun H locs hP hS => ?_)
    refine lv_if_eq (tgt := 180) hx hb dX6_item_121 (by decide) (fun q => ?_) (fun q => ?_)
    · rw [if_pos q] at h
      refine lv_iconst (v := (0 : Int32)) hx hb dX6_item_180 (by decide) ?_
      exact me_zret hx hb hr hlk hP hS h dX6_item_181
    · rw [if_neg q] at h
      refine lv_aload_n hx hb dX6_item_124 rfl (lv_at hl 1 rfl) ?_
      refine me_getr (ci := 6) (C := RX6) (T := TX6) (N := 22) hx hb hts in_X6_item_X6 hown hK hP hT.1 rfl 15 (by decide) (hts _ kX6_item_f43) rfl dX6_item_125 ?_
      refine lv_iconst (v := (0 : Int32)) hx hb dX6_item_128 (by decide) ?_
      obtain ⟨hi, h⟩ := s_ald_inv h
      refine me_ald hx hb hK hP hT.2.2.2.2.2.2.2.2.2.2.2.2.1 hi dX6_item_129 (fun v129 ev => ?_)
      replace h := h v129 ev
      refine lv_aload_n hx hb dX6_item_130 rfl (lv_at hl 1 rfl) ?_
      refine me_getr (ci := 6) (C := RX6) (T := TX6) (N := 22) hx hb hts in_X6_item_X6 hown hK hP hT.1 rfl 2 (by decide) (hts _ kX6_item_f13) rfl dX6_item_131 ?_
      refine lv_iconst (v := (1 : Int32)) hx hb dX6_item_134 (by decide) ?_
      obtain ⟨hi, h⟩ := s_ald_inv h
      refine me_ald hx hb hK hP hT.2.2.1 hi dX6_item_135 (fun v135 ev => ?_)
      replace h := h v135 ev
      refine lv_icmp_ge (tgt := 180) hx hb dX6_item_136 (by decide) (fun q => ?_) (fun q => ?_)
      · rw [if_pos q] at h
        refine lv_iconst (v := (0 : Int32)) hx hb dX6_item_180 (by decide) ?_
        exact me_zret hx hb hr hlk hP hS h dX6_item_181
      · rw [if_neg q] at h
        refine lv_aload_n hx hb dX6_item_139 rfl (lv_at hl 1 rfl) ?_
        refine me_getr (ci := 6) (C := RX6) (T := TX6) (N := 22) hx hb hts in_X6_item_X6 hown hK hP hT.1 rfl 15 (by decide) (hts _ kX6_item_f43) rfl dX6_item_140 ?_
        refine lv_iconst (v := (1 : Int32)) hx hb dX6_item_143 (by decide) ?_
        obtain ⟨hi, h⟩ := s_ald_inv h
        refine me_ald hx hb hK hP hT.2.2.2.2.2.2.2.2.2.2.2.2.1 hi dX6_item_144 (fun v144 ev => ?_)
        replace h := h v144 ev
        refine lv_aload_n hx hb dX6_item_145 rfl (lv_at hl 1 rfl) ?_
        refine me_getr (ci := 6) (C := RX6) (T := TX6) (N := 22) hx hb hts in_X6_item_X6 hown hK hP hT.1 rfl 2 (by decide) (hts _ kX6_item_f13) rfl dX6_item_146 ?_
        refine lv_iconst (v := (1 : Int32)) hx hb dX6_item_149 (by decide) ?_
        obtain ⟨hi, h⟩ := s_ald_inv h
        refine me_ald hx hb hK hP hT.2.2.1 hi dX6_item_150 (fun v150 ev => ?_)
        replace h := h v150 ev
        refine lv_icmp_ge (tgt := 180) hx hb dX6_item_151 (by decide) (fun q => ?_) (fun q => ?_)
        · rw [if_pos q] at h
          refine lv_iconst (v := (0 : Int32)) hx hb dX6_item_180 (by decide) ?_
          exact me_zret hx hb hr hlk hP hS h dX6_item_181
        · rw [if_neg q] at h
          refine lv_aload_n hx hb dX6_item_154 rfl (lv_at hl 1 rfl) ?_
          refine me_getr (ci := 6) (C := RX6) (T := TX6) (N := 22) hx hb hts in_X6_item_X6 hown hK hP hT.1 rfl 15 (by decide) (hts _ kX6_item_f43) rfl dX6_item_155 ?_
          refine lv_iconst (v := (0 : Int32)) hx hb dX6_item_158 (by decide) ?_
          obtain ⟨hi, h⟩ := s_ald_inv h
          refine me_ald hx hb hK hP hT.2.2.2.2.2.2.2.2.2.2.2.2.1 hi dX6_item_159 (fun v159 ev => ?_)
          replace h := h v159 ev
          refine lv_aload_n hx hb dX6_item_160 rfl (lv_at hl 1 rfl) ?_
          refine me_getr (ci := 6) (C := RX6) (T := TX6) (N := 22) hx hb hts in_X6_item_X6 hown hK hP hT.1 rfl 15 (by decide) (hts _ kX6_item_f43) rfl dX6_item_161 ?_
          refine lv_iconst (v := (1 : Int32)) hx hb dX6_item_164 (by decide) ?_
          obtain ⟨hi, h⟩ := s_ald_inv h
          refine me_ald hx hb hK hP hT.2.2.2.2.2.2.2.2.2.2.2.2.1 hi dX6_item_165 (fun v165 ev => ?_)
          replace h := h v165 ev
          refine lv_icmp_eq (tgt := 180) hx hb dX6_item_166 (by decide) (fun q => ?_) (fun q => ?_)
          · rw [if_pos q] at h
            refine lv_iconst (v := (0 : Int32)) hx hb dX6_item_180 (by decide) ?_
            exact me_zret hx hb hr hlk hP hS h dX6_item_181
          · rw [if_neg q] at h
            refine lv_aload_n hx hb dX6_item_169 rfl (lv_at hl 1 rfl) ?_
            refine me_getr (ci := 6) (C := RX6) (T := TX6) (N := 22) hx hb hts in_X6_item_X6 hown hK hP hT.1 rfl 15 (by decide) (hts _ kX6_item_f43) rfl dX6_item_170 ?_
            refine lv_iconst (v := (2 : Int32)) hx hb dX6_item_173 (by decide) ?_
            obtain ⟨hi, h⟩ := s_ald_inv h
            refine me_ald hx hb hK hP hT.2.2.2.2.2.2.2.2.2.2.2.2.1 hi dX6_item_174 (fun v174 ev => ?_)
            replace h := h v174 ev
            refine lv_bipush (v := (9 : Int32)) hx hb dX6_item_175 (by decide) ?_
            refine lv_icmp_le (tgt := 182) hx hb dX6_item_177 (by decide) (fun q => ?_) (fun q => ?_)
            · rw [if_pos q] at h
              refine lv_aload_n hx hb dX6_item_182 rfl (lv_at hl 1 rfl) ?_
              refine me_getr (ci := 6) (C := RX6) (T := TX6) (N := 22) hx hb hts in_X6_item_X6 hown hK hP hT.1 rfl 5 (by decide) (hts _ kX6_item_f22) rfl dX6_item_183 ?_
              refine lv_bipush (v := (64 : Int32)) hx hb dX6_item_186 (by decide) ?_
              refine lv_bipush (v := (8 : Int32)) hx hb dX6_item_188 (by decide) ?_
              refine lv_aload_n hx hb dX6_item_190 rfl (lv_at hl 1 rfl) ?_
              refine me_getr (ci := 6) (C := RX6) (T := TX6) (N := 22) hx hb hts in_X6_item_X6 hown hK hP hT.1 rfl 15 (by decide) (hts _ kX6_item_f43) rfl dX6_item_191 ?_
              refine lv_iconst (v := (0 : Int32)) hx hb dX6_item_194 (by decide) ?_
              obtain ⟨hi, h⟩ := s_ald_inv h
              refine me_ald hx hb hK hP hT.2.2.2.2.2.2.2.2.2.2.2.2.1 hi dX6_item_195 (fun v195 ev => ?_)
              replace h := h v195 ev
              refine lv_imul hx hb dX6_item_196 ?_
              refine lv_iadd hx hb dX6_item_197 ?_
              refine lv_aload_n hx hb dX6_item_198 rfl (lv_at hl 1 rfl) ?_
              refine me_getr (ci := 6) (C := RX6) (T := TX6) (N := 22) hx hb hts in_X6_item_X6 hown hK hP hT.1 rfl 15 (by decide) (hts _ kX6_item_f43) rfl dX6_item_199 ?_
              refine lv_iconst (v := (1 : Int32)) hx hb dX6_item_202 (by decide) ?_
              obtain ⟨hi, h⟩ := s_ald_inv h
              refine me_ald hx hb hK hP hT.2.2.2.2.2.2.2.2.2.2.2.2.1 hi dX6_item_203 (fun v203 ev => ?_)
              replace h := h v203 ev
              refine lv_iadd hx hb dX6_item_204 ?_
              refine lv_aload_n hx hb dX6_item_205 rfl (lv_at hl 1 rfl) ?_
              refine me_getr (ci := 6) (C := RX6) (T := TX6) (N := 22) hx hb hts in_X6_item_X6 hown hK hP hT.1 rfl 15 (by decide) (hts _ kX6_item_f43) rfl dX6_item_206 ?_
              refine lv_iconst (v := (2 : Int32)) hx hb dX6_item_209 (by decide) ?_
              obtain ⟨hi, h⟩ := s_ald_inv h
              refine me_ald hx hb hK hP hT.2.2.2.2.2.2.2.2.2.2.2.2.1 hi dX6_item_210 (fun v210 ev => ?_)
              replace h := h v210 ev
              obtain ⟨hi, h⟩ := s_ast_inv h
              refine me_ast hx hb hK hI hP hS hT.2.2.2.2.2.1 hi dX6_item_211 (fun H locs M211 eM hP hS => ?_)
              replace h := h M211 eM
              refine lv_iconst (v := (1 : Int32)) hx hb dX6_item_212 (by decide) ?_
              exact me_zret hx hb hr hlk hP hS h dX6_item_213
            · rw [if_neg q] at h
              refine lv_iconst (v := (0 : Int32)) hx hb dX6_item_180 (by decide) ?_
              exact me_zret hx hb hr hlk hP hS h dX6_item_181
  rw [if_neg q1] at h
  by_cases q2 : v5 = (112 : Int32)
  · rw [if_pos q2] at h
    refine lv_lookup (tgt := 56) (off := 36) hx hb dX6_item_20 (by decide) (by rw [q2]; rfl) (by decide) ?_
    refine lv_aload_n hx hb dX6_item_56 rfl (lv_at hl 1 rfl) ?_
    refine lv_iconst (v := (2 : Int32)) hx hb dX6_item_57 (by decide) ?_
    obtain ⟨v58, M58, h1, h⟩ := s_call_inv h
    refine me_callVi (As := [.int (2 : Int32)]) (rest := []) ⟨hx, hb, hml, hown, hts⟩ (c_X6_figures hT h1) (cwV 1 hts gX6_item_X6_figures rfl rfl rfl hd_X6_figures ⟨(Nat.le_of_ble_eq_true rfl), (Nat.le_of_ble_eq_true rfl)⟩) hK hI hP hS hT.1 rfl rfl hl.1 rfl (Nat.le_of_ble_eq_true rfl) dX6_item_58 ⟨Nat.zero_le _, Nat.zero_le _⟩ (fun H locs hP hS => ?_)
    refine lv_if_eq (tgt := 95) hx hb dX6_item_61 (by decide) (fun q => ?_) (fun q => ?_)
    · rw [if_pos q] at h
      refine lv_iconst (v := (0 : Int32)) hx hb dX6_item_95 (by decide) ?_
      exact me_zret hx hb hr hlk hP hS h dX6_item_96
    · rw [if_neg q] at h
      refine lv_aload_n hx hb dX6_item_64 rfl (lv_at hl 1 rfl) ?_
      refine me_getr (ci := 6) (C := RX6) (T := TX6) (N := 22) hx hb hts in_X6_item_X6 hown hK hP hT.1 rfl 2 (by decide) (hts _ kX6_item_f13) rfl dX6_item_65 ?_
      refine lv_iconst (v := (1 : Int32)) hx hb dX6_item_68 (by decide) ?_
      obtain ⟨hi, h⟩ := s_ald_inv h
      refine me_ald hx hb hK hP hT.2.2.1 hi dX6_item_69 (fun v69 ev => ?_)
      replace h := h v69 ev
      refine lv_bipush (v := (7 : Int32)) hx hb dX6_item_70 (by decide) ?_
      refine lv_icmp_eq (tgt := 95) hx hb dX6_item_72 (by decide) (fun q => ?_) (fun q => ?_)
      · rw [if_pos q] at h
        refine lv_iconst (v := (0 : Int32)) hx hb dX6_item_95 (by decide) ?_
        exact me_zret hx hb hr hlk hP hS h dX6_item_96
      · rw [if_neg q] at h
        refine lv_aload_n hx hb dX6_item_75 rfl (lv_at hl 1 rfl) ?_
        refine me_getr (ci := 6) (C := RX6) (T := TX6) (N := 22) hx hb hts in_X6_item_X6 hown hK hP hT.1 rfl 15 (by decide) (hts _ kX6_item_f43) rfl dX6_item_76 ?_
        refine lv_iconst (v := (0 : Int32)) hx hb dX6_item_79 (by decide) ?_
        obtain ⟨hi, h⟩ := s_ald_inv h
        refine me_ald hx hb hK hP hT.2.2.2.2.2.2.2.2.2.2.2.2.1 hi dX6_item_80 (fun v80 ev => ?_)
        replace h := h v80 ev
        refine lv_iconst (v := (3 : Int32)) hx hb dX6_item_81 (by decide) ?_
        refine lv_icmp_gt (tgt := 95) hx hb dX6_item_82 (by decide) (fun q => ?_) (fun q => ?_)
        · rw [if_pos q] at h
          refine lv_iconst (v := (0 : Int32)) hx hb dX6_item_95 (by decide) ?_
          exact me_zret hx hb hr hlk hP hS h dX6_item_96
        · rw [if_neg q] at h
          refine lv_aload_n hx hb dX6_item_85 rfl (lv_at hl 1 rfl) ?_
          refine me_getr (ci := 6) (C := RX6) (T := TX6) (N := 22) hx hb hts in_X6_item_X6 hown hK hP hT.1 rfl 15 (by decide) (hts _ kX6_item_f43) rfl dX6_item_86 ?_
          refine lv_iconst (v := (1 : Int32)) hx hb dX6_item_89 (by decide) ?_
          obtain ⟨hi, h⟩ := s_ald_inv h
          refine me_ald hx hb hK hP hT.2.2.2.2.2.2.2.2.2.2.2.2.1 hi dX6_item_90 (fun v90 ev => ?_)
          replace h := h v90 ev
          refine lv_iconst (v := (3 : Int32)) hx hb dX6_item_91 (by decide) ?_
          refine lv_icmp_le (tgt := 97) hx hb dX6_item_92 (by decide) (fun q => ?_) (fun q => ?_)
          · rw [if_pos q] at h
            refine lv_aload_n hx hb dX6_item_97 rfl (lv_at hl 1 rfl) ?_
            refine lv_iconst (v := (1 : Int32)) hx hb dX6_item_98 (by decide) ?_
            refine lv_aload_n hx hb dX6_item_99 rfl (lv_at hl 1 rfl) ?_
            refine me_getr (ci := 6) (C := RX6) (T := TX6) (N := 22) hx hb hts in_X6_item_X6 hown hK hP hT.1 rfl 15 (by decide) (hts _ kX6_item_f43) rfl dX6_item_100 ?_
            refine lv_iconst (v := (0 : Int32)) hx hb dX6_item_103 (by decide) ?_
            obtain ⟨hi, h⟩ := s_ald_inv h
            refine me_ald hx hb hK hP hT.2.2.2.2.2.2.2.2.2.2.2.2.1 hi dX6_item_104 (fun v104 ev => ?_)
            replace h := h v104 ev
            refine lv_aload_n hx hb dX6_item_105 rfl (lv_at hl 1 rfl) ?_
            refine me_getr (ci := 6) (C := RX6) (T := TX6) (N := 22) hx hb hts in_X6_item_X6 hown hK hP hT.1 rfl 15 (by decide) (hts _ kX6_item_f43) rfl dX6_item_106 ?_
            refine lv_iconst (v := (1 : Int32)) hx hb dX6_item_109 (by decide) ?_
            obtain ⟨hi, h⟩ := s_ald_inv h
            refine me_ald hx hb hK hP hT.2.2.2.2.2.2.2.2.2.2.2.2.1 hi dX6_item_110 (fun v110 ev => ?_)
            replace h := h v110 ev
            obtain ⟨u111, M111, h1, h⟩ := s_call_inv h
            refine me_callVv (As := [.int (1 : Int32), .int v104, .int v110]) (rest := []) ⟨hx, hb, hml, hown, hts⟩ (c_X6_addPerson hT h1) (cwV 3 hts gX6_item_X6_addPerson rfl rfl rfl hd_X6_addPerson ⟨(Nat.le_of_ble_eq_true rfl), (Nat.le_of_ble_eq_true rfl)⟩) hK hI hP hS hT.1 rfl rfl hl.1 rfl (Nat.le_of_ble_eq_true rfl) dX6_item_111 ⟨Nat.zero_le _, Nat.zero_le _⟩ (fun H locs hP hS => ?_)
            refine lv_iconst (v := (1 : Int32)) hx hb dX6_item_114 (by decide) ?_
            exact me_zret hx hb hr hlk hP hS h dX6_item_115
          · rw [if_neg q] at h
            refine lv_iconst (v := (0 : Int32)) hx hb dX6_item_95 (by decide) ?_
            exact me_zret hx hb hr hlk hP hS h dX6_item_96
  rw [if_neg q2] at h
  refine lv_lookup (tgt := 255) (off := 235) hx hb dX6_item_20 (by decide) ((lv_osw q0 (by decide)).trans ((lv_osw q1 (by decide)).trans ((lv_osw q2 (by decide)).trans rfl))) (by decide) ?_
  refine lv_iconst (v := (0 : Int32)) hx hb dX6_item_255 (by decide) ?_
  exact me_zret hx hb hr hlk hP hS h dX6_item_256
theorem c_X6_item {l : Launch} {D : va_G} {cI : ClassId} {ad : Nat → Nat} {L : List CDs} {t : Nat} (hT : is_X6 L t)  {M M' : Mem} {r : Int32} (h : X6_item t M = some (r, M')) : me_Met l yX6_item wsX6_item rmX6_item D cI ad L [.ref (ad t)] (some (.int r)) M M' :=
  me_ofW (by decide) rfl (Nat.le_of_ble_eq_true rfl) (fun p e s m below meth c C0 => w_X6_item C0 t hT M h)
