/-! ===== the walks, by program (wip/gen/gen.py) ===== -/
abbrev rmX5_days : Room := { frames := 6, cells := 0, slots := 0, locals := 136 }
theorem kX5_days_f31 : (Cond.fieldLink RX5 31 "LadderOfBows" "now" "LLadderOfBows$Town;") ∈ wsX5_days := List.mem_of_getElem? (i := 1) rfl
theorem in_X5_days_X5 : ∀ w ∈ wsX50, w ∈ wsX5_days := by decide +kernel
theorem hd_X5_days : yX5_days.cls = RX5 ∧ yX5_days.cls ≠ "java/lang/invoke/MethodHandle" ∧ yX5_days.cls ≠ "java/lang/invoke/VarHandle" ∧ (parseMethodDescriptor yX5_days.desc).map (fun d => d.parameters.length) = some 1 := by decide +kernel
set_option maxRecDepth 100000 in
set_option maxHeartbeats 4000000 in
theorem w_X5_days {p : Program} {l : Launch} {e : Env} {s : State} {m : MethodId} {args : Array Value} {below : List Frame} {meth : Method} {c : Code} {D : va_G} {cI : ClassId} {ad : Nat → Nat} {L : List CDs} {r : Int32} {M' : Mem} (C0 : me_X p s m args meth c cX5_days 3 (some .int) wsX5_days RX5 D cI ad L) (t : Nat) (hT : is_X5 L t) (x1 : Int32) : ∀  (M : Mem), X5_days t x1 M = some (r, M') → me_W p l e rmX5_days s m args below meth c D cI ad L (some (.int r)) M' 3 0 [(0, .ref (ad t)), (1, .int x1)] [] M := by
  obtain ⟨hx, hb, hr, hml, hown, hts, hlk, hK, hI⟩ := id C0
  intro M h
  unfold X5_days at h
  intro H locs ls hP hS hl
  refine lv_iload_n hx hb dX5_days_0 rfl (lv_at hl 1 rfl) ?_
  refine lv_iconst (v := (1 : Int32)) hx hb dX5_days_1 (by decide) ?_
  refine lv_icmp_lt (tgt := 11) hx hb dX5_days_2 (by decide) (fun q => ?_) (fun q => ?_)
  · rw [if_pos q] at h
    refine lv_iconst (v := (-1 : Int32)) hx hb dX5_days_11 (by decide) ?_
    exact me_iret hx hb hr hlk hP hS h dX5_days_12
  · rw [if_neg q] at h
    refine lv_iload_n hx hb dX5_days_5 rfl (lv_at hl 1 rfl) ?_
    refine lv_bipush (v := (9 : Int32)) hx hb dX5_days_6 (by decide) ?_
    refine lv_icmp_le (tgt := 13) hx hb dX5_days_8 (by decide) (fun q => ?_) (fun q => ?_)
    · rw [if_pos q] at h
      refine lv_aload_n hx hb dX5_days_13 rfl (lv_at hl 0 rfl) ?_
      refine lv_iconst (v := (5 : Int32)) hx hb dX5_days_14 (by decide) ?_
      refine lv_iload_n hx hb dX5_days_15 rfl (lv_at hl 1 rfl) ?_
      refine lv_iload_n hx hb dX5_days_16 rfl (lv_at hl 1 rfl) ?_
      obtain ⟨v17, M17, h1, h⟩ := s_call_inv h
      refine me_callVi (As := [.int (5 : Int32), .int x1, .int x1]) (rest := []) ⟨hx, hb, hml, hown, hts⟩ (c_X5_act hT h1) (cwV 3 hts gX5_days_X5_act rfl rfl rfl hd_X5_act ⟨(Nat.le_of_ble_eq_true rfl), (Nat.le_of_ble_eq_true rfl)⟩) hK hI hP hS hT.1 rfl rfl hl.1 rfl (Nat.le_of_ble_eq_true rfl) dX5_days_17 ⟨Nat.zero_le _, Nat.zero_le _⟩ (fun H locs hP hS => ?_)
      refine lv_istore_n (lv' := [(2, .int v17), (0, .ref (ad t)), (1, .int x1)]) hx hb dX5_days_20 rfl hl (by decide) rfl (fun ls hl => ?_)
      refine lv_iload_n hx hb dX5_days_21 rfl (lv_at hl 0 rfl) ?_
      refine lv_if_ge (tgt := 29) hx hb dX5_days_22 (by decide) (fun q => ?_) (fun q => ?_)
      · rw [if_pos q] at h
        refine lv_aload_n hx hb dX5_days_29 rfl (lv_at hl 1 rfl) ?_
        refine me_getr (ci := 5) (C := RX5) (T := TX5) (N := 13) hx hb hts in_X5_days_X5 hown hK hP hT.1 rfl 3 (by decide) (hts _ kX5_days_f31) rfl dX5_days_30 ?_
        obtain ⟨v33, M33, h1, h⟩ := s_call_inv h
        refine me_callVi (As := []) (rest := []) ⟨hx, hb, hml, hown, hts⟩ (c_X4_day hT.2.2.2.2.1 h1) (cwV 0 hts gX5_days_X4_day rfl rfl rfl hd_X4_day ⟨(Nat.le_of_ble_eq_true rfl), (Nat.le_of_ble_eq_true rfl)⟩) hK hI hP hS hT.2.2.2.2.1.1 rfl rfl hl.1 rfl (Nat.le_of_ble_eq_true rfl) dX5_days_33 ⟨Nat.zero_le _, Nat.zero_le _⟩ (fun H locs hP hS => ?_)
        exact me_iret hx hb hr hlk hP hS h dX5_days_36
      · rw [if_neg q] at h
        refine lv_iload_n hx hb dX5_days_25 rfl (lv_at hl 0 rfl) ?_
        refine lv_goto (tgt := 36) hx hb dX5_days_26 (by decide) ?_
        exact me_iret hx hb hr hlk hP hS h dX5_days_36
    · rw [if_neg q] at h
      refine lv_iconst (v := (-1 : Int32)) hx hb dX5_days_11 (by decide) ?_
      exact me_iret hx hb hr hlk hP hS h dX5_days_12
theorem c_X5_days {l : Launch} {D : va_G} {cI : ClassId} {ad : Nat → Nat} {L : List CDs} {t : Nat} (hT : is_X5 L t) {x1 : Int32} {M M' : Mem} {r : Int32} (h : X5_days t x1 M = some (r, M')) : me_Met l yX5_days wsX5_days rmX5_days D cI ad L [.ref (ad t), .int x1] (some (.int r)) M M' :=
  me_ofW (by decide) rfl (Nat.le_of_ble_eq_true rfl) (fun p e s m below meth c C0 => w_X5_days C0 t hT x1 M h)
abbrev rmX5_doAgain : Room := { frames := 5, cells := 0, slots := 0, locals := 113 }
theorem kX5_doAgain_f27 : (Cond.fieldLink RX5 27 "LadderOfBows" "start" "LLadderOfBows$Town;") ∈ wsX5_doAgain := List.mem_of_getElem? (i := 1) rfl
theorem kX5_doAgain_f43 : (Cond.fieldLink RX5 43 "LadderOfBows" "acts" "LLadderOfBows$Acts;") ∈ wsX5_doAgain := List.mem_of_getElem? (i := 2) rfl
theorem in_X5_doAgain_X5 : ∀ w ∈ wsX50, w ∈ wsX5_doAgain := by decide +kernel
theorem hd_X5_doAgain : yX5_doAgain.cls = RX5 ∧ yX5_doAgain.cls ≠ "java/lang/invoke/MethodHandle" ∧ yX5_doAgain.cls ≠ "java/lang/invoke/VarHandle" ∧ (parseMethodDescriptor yX5_doAgain.desc).map (fun d => d.parameters.length) = some 2 := by decide +kernel
set_option maxRecDepth 100000 in
set_option maxHeartbeats 4000000 in
theorem w_X5_doAgain_10 {p : Program} {l : Launch} {e : Env} {s : State} {m : MethodId} {args : Array Value} {below : List Frame} {meth : Method} {c : Code} {D : va_G} {cI : ClassId} {ad : Nat → Nat} {L : List CDs} {r : Unit} {M' : Mem} (C0 : me_X p s m args meth c cX5_doAgain 7 none wsX5_doAgain RX5 D cI ad L) (t : Nat) (hT : is_X5 L t) (t1 : Nat) (hT1 : is_X4 L t1) (x2 : Int32) : ∀ (n : Nat) (x3 : Int32) (M : Mem), X5_doAgain_10 t t1 x2 n x3 M = some (r, M') → me_W p l e rmX5_doAgain s m args below meth c D cI ad L none M' 7 10 [(0, .ref (ad t)), (1, .ref (ad t1)), (2, .int x2), (3, .int x3)] [] M := by
  obtain ⟨hx, hb, hr, hml, hown, hts, hlk, hK, hI⟩ := id C0
  intro n
  induction n with
  | zero =>
    intro x3 M h
    rw [X5_doAgain_10] at h
    cases h
  | succ n ih =>
    intro x3 M h
    rw [X5_doAgain_10] at h
    intro H locs ls hP hS hl
    refine lv_iload_n hx hb dX5_doAgain_10 rfl (lv_at hl 3 rfl) ?_
    refine lv_aload_n hx hb dX5_doAgain_11 rfl (lv_at hl 0 rfl) ?_
    refine me_getr (ci := 5) (C := RX5) (T := TX5) (N := 13) hx hb hts in_X5_doAgain_X5 hown hK hP hT.1 rfl 5 (by decide) (hts _ kX5_doAgain_f43) rfl dX5_doAgain_12 ?_
    obtain ⟨v15, M15, h1, h⟩ := s_call_inv h
    refine me_callVi (As := []) (rest := [.int x3]) ⟨hx, hb, hml, hown, hts⟩ (c_X0_size hT.2.2.2.2.2.2.1 h1) (cwV 0 hts gX5_doAgain_X0_size rfl rfl rfl hd_X0_size ⟨(Nat.le_of_ble_eq_true rfl), (Nat.le_of_ble_eq_true rfl)⟩) hK hI hP hS hT.2.2.2.2.2.2.1.1 rfl rfl hl.1 rfl (Nat.le_of_ble_eq_true rfl) dX5_doAgain_15 ⟨Nat.zero_le _, Nat.zero_le _⟩ (fun H locs hP hS => ?_)
    refine lv_icmp_ge (tgt := 85) hx hb dX5_doAgain_18 (by decide) (fun q => ?_) (fun q => ?_)
    · rw [if_pos q] at h
      exact me_vret hx hb hr hlk hP hS h dX5_doAgain_85
    · rw [if_neg q] at h
      refine lv_aload_n hx hb dX5_doAgain_21 rfl (lv_at hl 0 rfl) ?_
      refine me_getr (ci := 5) (C := RX5) (T := TX5) (N := 13) hx hb hts in_X5_doAgain_X5 hown hK hP hT.1 rfl 5 (by decide) (hts _ kX5_doAgain_f43) rfl dX5_doAgain_22 ?_
      refine lv_iload_n hx hb dX5_doAgain_25 rfl (lv_at hl 3 rfl) ?_
      obtain ⟨v26, M26, h1, h⟩ := s_call_inv h
      refine me_callVi (As := [.int x3]) (rest := []) ⟨hx, hb, hml, hown, hts⟩ (c_X0_kindAt hT.2.2.2.2.2.2.1 h1) (cwV 1 hts gX5_doAgain_X0_kindAt rfl rfl rfl hd_X0_kindAt ⟨(Nat.le_of_ble_eq_true rfl), (Nat.le_of_ble_eq_true rfl)⟩) hK hI hP hS hT.2.2.2.2.2.2.1.1 rfl rfl hl.1 rfl (Nat.le_of_ble_eq_true rfl) dX5_doAgain_26 ⟨Nat.zero_le _, Nat.zero_le _⟩ (fun H locs hP hS => ?_)
      refine lv_istore (lv' := [(4, .int v26), (0, .ref (ad t)), (1, .ref (ad t1)), (2, .int x2), (3, .int x3)]) hx hb dX5_doAgain_29 hl (by decide) rfl (fun ls hl => ?_)
      refine lv_aload_n hx hb dX5_doAgain_31 rfl (lv_at hl 1 rfl) ?_
      refine me_getr (ci := 5) (C := RX5) (T := TX5) (N := 13) hx hb hts in_X5_doAgain_X5 hown hK hP hT.1 rfl 5 (by decide) (hts _ kX5_doAgain_f43) rfl dX5_doAgain_32 ?_
      refine lv_iload_n hx hb dX5_doAgain_35 rfl (lv_at hl 4 rfl) ?_
      obtain ⟨v36, M36, h1, h⟩ := s_call_inv h
      refine me_callVi (As := [.int x3]) (rest := []) ⟨hx, hb, hml, hown, hts⟩ (c_X0_firstAt hT.2.2.2.2.2.2.1 h1) (cwV 1 hts gX5_doAgain_X0_firstAt rfl rfl rfl hd_X0_firstAt ⟨(Nat.le_of_ble_eq_true rfl), (Nat.le_of_ble_eq_true rfl)⟩) hK hI hP hS hT.2.2.2.2.2.2.1.1 rfl rfl hl.1 rfl (Nat.le_of_ble_eq_true rfl) dX5_doAgain_36 ⟨Nat.zero_le _, Nat.zero_le _⟩ (fun H locs hP hS => ?_)
      refine lv_istore (lv' := [(5, .int v36), (4, .int v26), (0, .ref (ad t)), (1, .ref (ad t1)), (2, .int x2), (3, .int x3)]) hx hb dX5_doAgain_39 hl (by decide) rfl (fun ls hl => ?_)
      refine lv_aload_n hx hb dX5_doAgain_41 rfl (lv_at hl 2 rfl) ?_
      refine me_getr (ci := 5) (C := RX5) (T := TX5) (N := 13) hx hb hts in_X5_doAgain_X5 hown hK hP hT.1 rfl 5 (by decide) (hts _ kX5_doAgain_f43) rfl dX5_doAgain_42 ?_
      refine lv_iload_n hx hb dX5_doAgain_45 rfl (lv_at hl 5 rfl) ?_
      obtain ⟨v46, M46, h1, h⟩ := s_call_inv h
      refine me_callVi (As := [.int x3]) (rest := []) ⟨hx, hb, hml, hown, hts⟩ (c_X0_secondAt hT.2.2.2.2.2.2.1 h1) (cwV 1 hts gX5_doAgain_X0_secondAt rfl rfl rfl hd_X0_secondAt ⟨(Nat.le_of_ble_eq_true rfl), (Nat.le_of_ble_eq_true rfl)⟩) hK hI hP hS hT.2.2.2.2.2.2.1.1 rfl rfl hl.1 rfl (Nat.le_of_ble_eq_true rfl) dX5_doAgain_46 ⟨Nat.zero_le _, Nat.zero_le _⟩ (fun H locs hP hS => ?_)
      refine lv_istore (lv' := [(6, .int v46), (5, .int v36), (4, .int v26), (0, .ref (ad t)), (1, .ref (ad t1)), (2, .int x2), (3, .int x3)]) hx hb dX5_doAgain_49 hl (by decide) rfl (fun ls hl => ?_)
      refine lv_iload_n hx hb dX5_doAgain_51 rfl (lv_at hl 6 rfl) ?_
      refine lv_iload_n hx hb dX5_doAgain_52 rfl (lv_at hl 5 rfl) ?_
      refine lv_icmp_eq (tgt := 79) hx hb dX5_doAgain_53 (by decide) (fun q => ?_) (fun q => ?_)
      · rw [if_pos q] at h
        refine lv_iinc (k := 6) (v := (x3 + (1 : Int32))) (lv' := [(3, .int (x3 + (1 : Int32))), (6, .int v46), (5, .int v36), (4, .int v26), (0, .ref (ad t)), (1, .ref (ad t1)), (2, .int x2)]) hx hb dX5_doAgain_79 hl rfl rfl (by decide) rfl (fun ls hl => ?_)
        refine lv_goto (tgt := 10) hx hb dX5_doAgain_82 (by decide) ?_
        exact ih (x3 + (1 : Int32)) M46 h H locs ls hP hS (lv_sub hl [4, 5, 6, 0] rfl)
      · rw [if_neg q] at h
        refine lv_aload_n hx hb dX5_doAgain_56 rfl (lv_at hl 4 rfl) ?_
        refine lv_iload hx hb dX5_doAgain_57 (lv_at hl 2 rfl) ?_
        refine lv_iload hx hb dX5_doAgain_59 (lv_at hl 1 rfl) ?_
        refine lv_iload hx hb dX5_doAgain_61 (lv_at hl 0 rfl) ?_
        obtain ⟨v63, M63, h1, h⟩ := s_call_inv h
        refine me_callVi (As := [.int v26, .int v36, .int v46]) (rest := []) ⟨hx, hb, hml, hown, hts⟩ (c_X4_canBeDone hT1 h1) (cwV 3 hts gX5_doAgain_X4_canBeDone rfl rfl rfl hd_X4_canBeDone ⟨(Nat.le_of_ble_eq_true rfl), (Nat.le_of_ble_eq_true rfl)⟩) hK hI hP hS hT1.1 rfl rfl hl.1 rfl (Nat.le_of_ble_eq_true rfl) dX5_doAgain_63 ⟨Nat.zero_le _, Nat.zero_le _⟩ (fun H locs hP hS => ?_)
        refine lv_if_eq (tgt := 79) hx hb dX5_doAgain_66 (by decide) (fun q => ?_) (fun q => ?_)
        · rw [if_pos q] at h
          refine lv_iinc (k := 6) (v := (x3 + (1 : Int32))) (lv' := [(3, .int (x3 + (1 : Int32))), (6, .int v46), (5, .int v36), (4, .int v26), (0, .ref (ad t)), (1, .ref (ad t1)), (2, .int x2)]) hx hb dX5_doAgain_79 hl rfl rfl (by decide) rfl (fun ls hl => ?_)
          refine lv_goto (tgt := 10) hx hb dX5_doAgain_82 (by decide) ?_
          exact ih (x3 + (1 : Int32)) M63 h H locs ls hP hS (lv_sub hl [4, 5, 6, 0] rfl)
        · rw [if_neg q] at h
          refine lv_aload_n hx hb dX5_doAgain_69 rfl (lv_at hl 4 rfl) ?_
          refine lv_iload hx hb dX5_doAgain_70 (lv_at hl 2 rfl) ?_
          refine lv_iload hx hb dX5_doAgain_72 (lv_at hl 1 rfl) ?_
          refine lv_iload hx hb dX5_doAgain_74 (lv_at hl 0 rfl) ?_
          obtain ⟨u76, M76, h1, h⟩ := s_call_inv h
          refine me_callVv (As := [.int v26, .int v36, .int v46]) (rest := []) ⟨hx, hb, hml, hown, hts⟩ (c_X4_perform hT1 h1) (cwV 3 hts gX5_doAgain_X4_perform rfl rfl rfl hd_X4_perform ⟨(Nat.le_of_ble_eq_true rfl), (Nat.le_of_ble_eq_true rfl)⟩) hK hI hP hS hT1.1 rfl rfl hl.1 rfl (Nat.le_of_ble_eq_true rfl) dX5_doAgain_76 ⟨Nat.zero_le _, Nat.zero_le _⟩ (fun H locs hP hS => ?_)
          refine lv_iinc (k := 6) (v := (x3 + (1 : Int32))) (lv' := [(3, .int (x3 + (1 : Int32))), (6, .int v46), (5, .int v36), (4, .int v26), (0, .ref (ad t)), (1, .ref (ad t1)), (2, .int x2)]) hx hb dX5_doAgain_79 hl rfl rfl (by decide) rfl (fun ls hl => ?_)
          refine lv_goto (tgt := 10) hx hb dX5_doAgain_82 (by decide) ?_
          exact ih (x3 + (1 : Int32)) M76 h H locs ls hP hS (lv_sub hl [4, 5, 6, 0] rfl)
set_option maxRecDepth 100000 in
set_option maxHeartbeats 4000000 in
theorem w_X5_doAgain {p : Program} {l : Launch} {e : Env} {s : State} {m : MethodId} {args : Array Value} {below : List Frame} {meth : Method} {c : Code} {D : va_G} {cI : ClassId} {ad : Nat → Nat} {L : List CDs} {r : Unit} {M' : Mem} (C0 : me_X p s m args meth c cX5_doAgain 7 none wsX5_doAgain RX5 D cI ad L) (t : Nat) (hT : is_X5 L t) (t1 : Nat) (hT1 : is_X4 L t1) (x2 : Int32) : ∀  (M : Mem), X5_doAgain t t1 x2 M = some (r, M') → me_W p l e rmX5_doAgain s m args below meth c D cI ad L none M' 7 0 [(0, .ref (ad t)), (1, .ref (ad t1)), (2, .int x2)] [] M := by
  obtain ⟨hx, hb, hr, hml, hown, hts, hlk, hK, hI⟩ := id C0
  intro M h
  unfold X5_doAgain at h
  intro H locs ls hP hS hl
  refine lv_aload_n hx hb dX5_doAgain_0 rfl (lv_at hl 1 rfl) ?_
  refine lv_aload_n hx hb dX5_doAgain_1 rfl (lv_at hl 0 rfl) ?_
  refine me_getr (ci := 5) (C := RX5) (T := TX5) (N := 13) hx hb hts in_X5_doAgain_X5 hown hK hP hT.1 rfl 2 (by decide) (hts _ kX5_doAgain_f27) rfl dX5_doAgain_2 ?_
  obtain ⟨u5, M5, h1, h⟩ := s_call_inv h
  refine me_callVv (As := [.ref (ad (t + 7))]) (rest := []) ⟨hx, hb, hml, hown, hts⟩ (c_X4_copyFrom hT1 hT.2.2.2.1 h1) (cwV 1 hts gX5_doAgain_X4_copyFrom rfl rfl rfl hd_X4_copyFrom ⟨(Nat.le_of_ble_eq_true rfl), (Nat.le_of_ble_eq_true rfl)⟩) hK hI hP hS hT1.1 rfl rfl hl.1 rfl (Nat.le_of_ble_eq_true rfl) dX5_doAgain_5 ⟨Nat.zero_le _, Nat.zero_le _⟩ (fun H locs hP hS => ?_)
  refine lv_iconst (v := (0 : Int32)) hx hb dX5_doAgain_8 (by decide) ?_
  refine lv_istore_n (lv' := [(3, .int (0 : Int32)), (0, .ref (ad t)), (1, .ref (ad t1)), (2, .int x2)]) hx hb dX5_doAgain_9 rfl hl (by decide) rfl (fun ls hl => ?_)
  exact w_X5_doAgain_10 C0 t hT t1 hT1 x2 FU (0 : Int32) M5 h H locs ls hP hS (lv_sub hl [1, 2, 3, 0] rfl)
theorem c_X5_doAgain {l : Launch} {D : va_G} {cI : ClassId} {ad : Nat → Nat} {L : List CDs} {t : Nat} (hT : is_X5 L t) {t1 : Nat} (hT1 : is_X4 L t1) {x2 : Int32} {M M' : Mem} {r : Unit} (h : X5_doAgain t t1 x2 M = some (r, M')) : me_Met l yX5_doAgain wsX5_doAgain rmX5_doAgain D cI ad L [.ref (ad t), .ref (ad t1), .int x2] none M M' :=
  me_ofW (by decide) rfl (Nat.le_of_ble_eq_true rfl) (fun p e s m below meth c C0 => w_X5_doAgain C0 t hT t1 hT1 x2 M h)
abbrev rmX5_undo : Room := { frames := 6, cells := 0, slots := 0, locals := 139 }
theorem kX5_undo_f43 : (Cond.fieldLink RX5 43 "LadderOfBows" "acts" "LLadderOfBows$Acts;") ∈ wsX5_undo := List.mem_of_getElem? (i := 1) rfl
theorem kX5_undo_f31 : (Cond.fieldLink RX5 31 "LadderOfBows" "now" "LLadderOfBows$Town;") ∈ wsX5_undo := List.mem_of_getElem? (i := 2) rfl
theorem in_X5_undo_X5 : ∀ w ∈ wsX50, w ∈ wsX5_undo := by decide +kernel
theorem hd_X5_undo : yX5_undo.cls = RX5 ∧ yX5_undo.cls ≠ "java/lang/invoke/MethodHandle" ∧ yX5_undo.cls ≠ "java/lang/invoke/VarHandle" ∧ (parseMethodDescriptor yX5_undo.desc).map (fun d => d.parameters.length) = some 0 := by decide +kernel
set_option maxRecDepth 100000 in
set_option maxHeartbeats 4000000 in
theorem w_X5_undo {p : Program} {l : Launch} {e : Env} {s : State} {m : MethodId} {args : Array Value} {below : List Frame} {meth : Method} {c : Code} {D : va_G} {cI : ClassId} {ad : Nat → Nat} {L : List CDs} {r : Int32} {M' : Mem} (C0 : me_X p s m args meth c cX5_undo 1 (some .int) wsX5_undo RX5 D cI ad L) (t : Nat) (hT : is_X5 L t) : ∀  (M : Mem), X5_undo t M = some (r, M') → me_W p l e rmX5_undo s m args below meth c D cI ad L (some (.int r)) M' 1 0 [(0, .ref (ad t))] [] M := by
  obtain ⟨hx, hb, hr, hml, hown, hts, hlk, hK, hI⟩ := id C0
  intro M h
  unfold X5_undo at h
  intro H locs ls hP hS hl
  refine lv_aload_n hx hb dX5_undo_0 rfl (lv_at hl 0 rfl) ?_
  refine me_getr (ci := 5) (C := RX5) (T := TX5) (N := 13) hx hb hts in_X5_undo_X5 hown hK hP hT.1 rfl 5 (by decide) (hts _ kX5_undo_f43) rfl dX5_undo_1 ?_
  obtain ⟨v4, M4, h1, h⟩ := s_call_inv h
  refine me_callVi (As := []) (rest := []) ⟨hx, hb, hml, hown, hts⟩ (c_X0_size hT.2.2.2.2.2.2.1 h1) (cwV 0 hts gX5_undo_X0_size rfl rfl rfl hd_X0_size ⟨(Nat.le_of_ble_eq_true rfl), (Nat.le_of_ble_eq_true rfl)⟩) hK hI hP hS hT.2.2.2.2.2.2.1.1 rfl rfl hl.1 rfl (Nat.le_of_ble_eq_true rfl) dX5_undo_4 ⟨Nat.zero_le _, Nat.zero_le _⟩ (fun H locs hP hS => ?_)
  refine lv_iconst (v := (1 : Int32)) hx hb dX5_undo_7 (by decide) ?_
  refine lv_icmp_ge (tgt := 14) hx hb dX5_undo_8 (by decide) (fun q => ?_) (fun q => ?_)
  · rw [if_pos q] at h
    refine lv_aload_n hx hb dX5_undo_14 rfl (lv_at hl 0 rfl) ?_
    refine me_getr (ci := 5) (C := RX5) (T := TX5) (N := 13) hx hb hts in_X5_undo_X5 hown hK hP hT.1 rfl 5 (by decide) (hts _ kX5_undo_f43) rfl dX5_undo_15 ?_
    obtain ⟨u18, M18, h1, h⟩ := s_call_inv h
    refine me_callVv (As := []) (rest := []) ⟨hx, hb, hml, hown, hts⟩ (c_X0_dropLatest hT.2.2.2.2.2.2.1 h1) (cwV 0 hts gX5_undo_X0_dropLatest rfl rfl rfl hd_X0_dropLatest ⟨(Nat.le_of_ble_eq_true rfl), (Nat.le_of_ble_eq_true rfl)⟩) hK hI hP hS hT.2.2.2.2.2.2.1.1 rfl rfl hl.1 rfl (Nat.le_of_ble_eq_true rfl) dX5_undo_18 ⟨Nat.zero_le _, Nat.zero_le _⟩ (fun H locs hP hS => ?_)
    refine lv_aload_n hx hb dX5_undo_21 rfl (lv_at hl 0 rfl) ?_
    refine lv_aload_n hx hb dX5_undo_22 rfl (lv_at hl 0 rfl) ?_
    refine me_getr (ci := 5) (C := RX5) (T := TX5) (N := 13) hx hb hts in_X5_undo_X5 hown hK hP hT.1 rfl 3 (by decide) (hts _ kX5_undo_f31) rfl dX5_undo_23 ?_
    refine lv_iconst (v := (-1 : Int32)) hx hb dX5_undo_26 (by decide) ?_
    obtain ⟨u27, M27, h1, h⟩ := s_call_inv h
    refine me_callVv (As := [.ref (ad (t + 16)), .int (-1 : Int32)]) (rest := []) ⟨hx, hb, hml, hown, hts⟩ (c_X5_doAgain hT hT.2.2.2.2.1 h1) (cwV 2 hts gX5_undo_X5_doAgain rfl rfl rfl hd_X5_doAgain ⟨(Nat.le_of_ble_eq_true rfl), (Nat.le_of_ble_eq_true rfl)⟩) hK hI hP hS hT.1 rfl rfl hl.1 rfl (Nat.le_of_ble_eq_true rfl) dX5_undo_27 ⟨Nat.zero_le _, Nat.zero_le _⟩ (fun H locs hP hS => ?_)
    refine lv_aload_n hx hb dX5_undo_30 rfl (lv_at hl 0 rfl) ?_
    refine me_getr (ci := 5) (C := RX5) (T := TX5) (N := 13) hx hb hts in_X5_undo_X5 hown hK hP hT.1 rfl 5 (by decide) (hts _ kX5_undo_f43) rfl dX5_undo_31 ?_
    obtain ⟨v34, M34, h1, h⟩ := s_call_inv h
    refine me_callVi (As := []) (rest := []) ⟨hx, hb, hml, hown, hts⟩ (c_X0_size hT.2.2.2.2.2.2.1 h1) (cwV 0 hts gX5_undo_X0_size rfl rfl rfl hd_X0_size ⟨(Nat.le_of_ble_eq_true rfl), (Nat.le_of_ble_eq_true rfl)⟩) hK hI hP hS hT.2.2.2.2.2.2.1.1 rfl rfl hl.1 rfl (Nat.le_of_ble_eq_true rfl) dX5_undo_34 ⟨Nat.zero_le _, Nat.zero_le _⟩ (fun H locs hP hS => ?_)
    exact me_iret hx hb hr hlk hP hS h dX5_undo_37
  · rw [if_neg q] at h
    refine lv_bipush (v := (-2 : Int32)) hx hb dX5_undo_11 (by decide) ?_
    exact me_iret hx hb hr hlk hP hS h dX5_undo_13
theorem c_X5_undo {l : Launch} {D : va_G} {cI : ClassId} {ad : Nat → Nat} {L : List CDs} {t : Nat} (hT : is_X5 L t)  {M M' : Mem} {r : Int32} (h : X5_undo t M = some (r, M')) : me_Met l yX5_undo wsX5_undo rmX5_undo D cI ad L [.ref (ad t)] (some (.int r)) M M' :=
  me_ofW (by decide) rfl (Nat.le_of_ble_eq_true rfl) (fun p e s m below meth c C0 => w_X5_undo C0 t hT M h)
abbrev rmX5_peace : Room := { frames := 4, cells := 0, slots := 0, locals := 91 }
theorem kX5_peace_f37 : (Cond.fieldLink RX5 37 "LadderOfBows" "trial" "LLadderOfBows$Town;") ∈ wsX5_peace := List.mem_of_getElem? (i := 1) rfl
theorem kX5_peace_f31 : (Cond.fieldLink RX5 31 "LadderOfBows" "now" "LLadderOfBows$Town;") ∈ wsX5_peace := List.mem_of_getElem? (i := 2) rfl
theorem in_X5_peace_X5 : ∀ w ∈ wsX50, w ∈ wsX5_peace := by decide +kernel
theorem hd_X5_peace : yX5_peace.cls = RX5 ∧ yX5_peace.cls ≠ "java/lang/invoke/MethodHandle" ∧ yX5_peace.cls ≠ "java/lang/invoke/VarHandle" ∧ (parseMethodDescriptor yX5_peace.desc).map (fun d => d.parameters.length) = some 1 := by decide +kernel
set_option maxRecDepth 100000 in
set_option maxHeartbeats 4000000 in
theorem w_X5_peace {p : Program} {l : Launch} {e : Env} {s : State} {m : MethodId} {args : Array Value} {below : List Frame} {meth : Method} {c : Code} {D : va_G} {cI : ClassId} {ad : Nat → Nat} {L : List CDs} {r : Int32} {M' : Mem} (C0 : me_X p s m args meth c cX5_peace 3 (some .int) wsX5_peace RX5 D cI ad L) (t : Nat) (hT : is_X5 L t) (x1 : Int32) : ∀  (M : Mem), X5_peace t x1 M = some (r, M') → me_W p l e rmX5_peace s m args below meth c D cI ad L (some (.int r)) M' 3 0 [(0, .ref (ad t)), (1, .int x1)] [] M := by
  obtain ⟨hx, hb, hr, hml, hown, hts, hlk, hK, hI⟩ := id C0
  intro M h
  unfold X5_peace at h
  intro H locs ls hP hS hl
  refine lv_iload_n hx hb dX5_peace_0 rfl (lv_at hl 1 rfl) ?_
  refine lv_if_lt (tgt := 9) hx hb dX5_peace_1 (by decide) (fun q => ?_) (fun q => ?_)
  · rw [if_pos q] at h
    refine lv_iconst (v := (-1 : Int32)) hx hb dX5_peace_9 (by decide) ?_
    exact me_iret hx hb hr hlk hP hS h dX5_peace_10
  · rw [if_neg q] at h
    refine lv_iload_n hx hb dX5_peace_4 rfl (lv_at hl 1 rfl) ?_
    refine lv_iconst (v := (2 : Int32)) hx hb dX5_peace_5 (by decide) ?_
    refine lv_icmp_le (tgt := 11) hx hb dX5_peace_6 (by decide) (fun q => ?_) (fun q => ?_)
    · rw [if_pos q] at h
      refine lv_aload_n hx hb dX5_peace_11 rfl (lv_at hl 0 rfl) ?_
      refine me_getr (ci := 5) (C := RX5) (T := TX5) (N := 13) hx hb hts in_X5_peace_X5 hown hK hP hT.1 rfl 4 (by decide) (hts _ kX5_peace_f37) rfl dX5_peace_12 ?_
      refine lv_aload_n hx hb dX5_peace_15 rfl (lv_at hl 0 rfl) ?_
      refine me_getr (ci := 5) (C := RX5) (T := TX5) (N := 13) hx hb hts in_X5_peace_X5 hown hK hP hT.1 rfl 3 (by decide) (hts _ kX5_peace_f31) rfl dX5_peace_16 ?_
      obtain ⟨u19, M19, h1, h⟩ := s_call_inv h
      refine me_callVv (As := [.ref (ad (t + 16))]) (rest := []) ⟨hx, hb, hml, hown, hts⟩ (c_X4_copyFrom hT.2.2.2.2.2.1 hT.2.2.2.2.1 h1) (cwV 1 hts gX5_peace_X4_copyFrom rfl rfl rfl hd_X4_copyFrom ⟨(Nat.le_of_ble_eq_true rfl), (Nat.le_of_ble_eq_true rfl)⟩) hK hI hP hS hT.2.2.2.2.2.1.1 rfl rfl hl.1 rfl (Nat.le_of_ble_eq_true rfl) dX5_peace_19 ⟨Nat.zero_le _, Nat.zero_le _⟩ (fun H locs hP hS => ?_)
      refine lv_aload_n hx hb dX5_peace_22 rfl (lv_at hl 0 rfl) ?_
      refine me_getr (ci := 5) (C := RX5) (T := TX5) (N := 13) hx hb hts in_X5_peace_X5 hown hK hP hT.1 rfl 4 (by decide) (hts _ kX5_peace_f37) rfl dX5_peace_23 ?_
      obtain ⟨v26, M26, h1, h⟩ := s_call_inv h
      refine me_callVi (As := []) (rest := []) ⟨hx, hb, hml, hown, hts⟩ (c_X4_makePeace hT.2.2.2.2.2.1 h1) (cwV 0 hts gX5_peace_X4_makePeace rfl rfl rfl hd_X4_makePeace ⟨(Nat.le_of_ble_eq_true rfl), (Nat.le_of_ble_eq_true rfl)⟩) hK hI hP hS hT.2.2.2.2.2.1.1 rfl rfl hl.1 rfl (Nat.le_of_ble_eq_true rfl) dX5_peace_26 ⟨Nat.zero_le _, Nat.zero_le _⟩ (fun H locs hP hS => ?_)
      refine lv_istore_n (lv' := [(2, .int v26), (0, .ref (ad t)), (1, .int x1)]) hx hb dX5_peace_29 rfl hl (by decide) rfl (fun ls hl => ?_)
      refine lv_iload_n hx hb dX5_peace_30 rfl (lv_at hl 2 rfl) ?_
      refine lv_if_ne (tgt := 36) hx hb dX5_peace_31 (by decide) (fun q => ?_) (fun q => ?_)
      · rw [if_pos q] at h
        refine lv_iload_n hx hb dX5_peace_36 rfl (lv_at hl 2 rfl) ?_
        refine lv_iconst (v := (1 : Int32)) hx hb dX5_peace_37 (by decide) ?_
        refine lv_icmp_ne (tgt := 51) hx hb dX5_peace_38 (by decide) (fun q => ?_) (fun q => ?_)
        · rw [if_pos q] at h
          refine lv_aload_n hx hb dX5_peace_51 rfl (lv_at hl 1 rfl) ?_
          refine me_getr (ci := 5) (C := RX5) (T := TX5) (N := 13) hx hb hts in_X5_peace_X5 hown hK hP hT.1 rfl 4 (by decide) (hts _ kX5_peace_f37) rfl dX5_peace_52 ?_
          obtain ⟨v55, M55, h1, h⟩ := s_call_inv h
          refine me_callVi (As := []) (rest := []) ⟨hx, hb, hml, hown, hts⟩ (c_X4_stuckBits hT.2.2.2.2.2.1 h1) (cwV 0 hts gX5_peace_X4_stuckBits rfl rfl rfl hd_X4_stuckBits ⟨(Nat.le_of_ble_eq_true rfl), (Nat.le_of_ble_eq_true rfl)⟩) hK hI hP hS hT.2.2.2.2.2.1.1 rfl rfl hl.1 rfl (Nat.le_of_ble_eq_true rfl) dX5_peace_55 ⟨Nat.zero_le _, Nat.zero_le _⟩ (fun H locs hP hS => ?_)
          exact me_iret hx hb hr hlk hP hS h dX5_peace_58
        · rw [if_neg (not_not_intro q)] at h
          refine lv_aload_n hx hb dX5_peace_41 rfl (lv_at hl 1 rfl) ?_
          refine me_getr (ci := 5) (C := RX5) (T := TX5) (N := 13) hx hb hts in_X5_peace_X5 hown hK hP hT.1 rfl 4 (by decide) (hts _ kX5_peace_f37) rfl dX5_peace_42 ?_
          obtain ⟨v45, M45, h1, h⟩ := s_call_inv h
          refine me_callVi (As := []) (rest := []) ⟨hx, hb, hml, hown, hts⟩ (c_X4_allOwed hT.2.2.2.2.2.1 h1) (cwV 0 hts gX5_peace_X4_allOwed rfl rfl rfl hd_X4_allOwed ⟨(Nat.le_of_ble_eq_true rfl), (Nat.le_of_ble_eq_true rfl)⟩) hK hI hP hS hT.2.2.2.2.2.1.1 rfl rfl hl.1 rfl (Nat.le_of_ble_eq_true rfl) dX5_peace_45 ⟨Nat.zero_le _, Nat.zero_le _⟩ (fun H locs hP hS => ?_)
          refine lv_goto (tgt := 58) hx hb dX5_peace_48 (by decide) ?_
          exact me_iret hx hb hr hlk hP hS h dX5_peace_58
      · rw [if_neg (not_not_intro q)] at h
        refine lv_iload_n hx hb dX5_peace_34 rfl (lv_at hl 0 rfl) ?_
        exact me_iret hx hb hr hlk hP hS h dX5_peace_35
    · rw [if_neg q] at h
      refine lv_iconst (v := (-1 : Int32)) hx hb dX5_peace_9 (by decide) ?_
      exact me_iret hx hb hr hlk hP hS h dX5_peace_10
theorem c_X5_peace {l : Launch} {D : va_G} {cI : ClassId} {ad : Nat → Nat} {L : List CDs} {t : Nat} (hT : is_X5 L t) {x1 : Int32} {M M' : Mem} {r : Int32} (h : X5_peace t x1 M = some (r, M')) : me_Met l yX5_peace wsX5_peace rmX5_peace D cI ad L [.ref (ad t), .int x1] (some (.int r)) M M' :=
  me_ofW (by decide) rfl (Nat.le_of_ble_eq_true rfl) (fun p e s m below meth c C0 => w_X5_peace C0 t hT x1 M h)
abbrev rmX5_isZeroOrOne : Room := { frames := 0, cells := 0, slots := 0, locals := 0 }
theorem hd_X5_isZeroOrOne : yX5_isZeroOrOne.cls = RX5 ∧ yX5_isZeroOrOne.cls ≠ "java/lang/invoke/MethodHandle" ∧ yX5_isZeroOrOne.cls ≠ "java/lang/invoke/VarHandle" ∧ (parseMethodDescriptor yX5_isZeroOrOne.desc).map (fun d => d.parameters.length) = some 1 := by decide +kernel
set_option maxRecDepth 100000 in
set_option maxHeartbeats 4000000 in
theorem w_X5_isZeroOrOne {p : Program} {l : Launch} {e : Env} {s : State} {m : MethodId} {args : Array Value} {below : List Frame} {meth : Method} {c : Code} {D : va_G} {cI : ClassId} {ad : Nat → Nat} {L : List CDs} {r : Int32} {M' : Mem} (C0 : me_X p s m args meth c cX5_isZeroOrOne 1 (some .boolean) wsX5_isZeroOrOne RX5 D cI ad L)  (x0 : Int32) : ∀  (M : Mem), X5_isZeroOrOne x0 M = some (r, M') → me_W p l e rmX5_isZeroOrOne s m args below meth c D cI ad L (some (.int r)) M' 1 0 [(0, .int x0)] [] M := by
  obtain ⟨hx, hb, hr, hml, hown, hts, hlk, hK, hI⟩ := id C0
  intro M h
  unfold X5_isZeroOrOne at h
  intro H locs ls hP hS hl
  refine lv_iload_n hx hb dX5_isZeroOrOne_0 rfl (lv_at hl 0 rfl) ?_
  refine lv_if_eq (tgt := 9) hx hb dX5_isZeroOrOne_1 (by decide) (fun q => ?_) (fun q => ?_)
  · rw [if_pos q] at h
    refine lv_iconst (v := (1 : Int32)) hx hb dX5_isZeroOrOne_9 (by decide) ?_
    refine lv_goto (tgt := 14) hx hb dX5_isZeroOrOne_10 (by decide) ?_
    exact me_zret hx hb hr hlk hP hS h dX5_isZeroOrOne_14
  · rw [if_neg q] at h
    refine lv_iload_n hx hb dX5_isZeroOrOne_4 rfl (lv_at hl 0 rfl) ?_
    refine lv_iconst (v := (1 : Int32)) hx hb dX5_isZeroOrOne_5 (by decide) ?_
    refine lv_icmp_ne (tgt := 13) hx hb dX5_isZeroOrOne_6 (by decide) (fun q => ?_) (fun q => ?_)
    · rw [if_pos q] at h
      refine lv_iconst (v := (0 : Int32)) hx hb dX5_isZeroOrOne_13 (by decide) ?_
      exact me_zret hx hb hr hlk hP hS h dX5_isZeroOrOne_14
    · rw [if_neg (not_not_intro q)] at h
      refine lv_iconst (v := (1 : Int32)) hx hb dX5_isZeroOrOne_9 (by decide) ?_
      refine lv_goto (tgt := 14) hx hb dX5_isZeroOrOne_10 (by decide) ?_
      exact me_zret hx hb hr hlk hP hS h dX5_isZeroOrOne_14
theorem c_X5_isZeroOrOne {l : Launch} {D : va_G} {cI : ClassId} {ad : Nat → Nat} {L : List CDs}  {x0 : Int32} {M M' : Mem} {r : Int32} (h : X5_isZeroOrOne x0 M = some (r, M')) : me_Met l yX5_isZeroOrOne wsX5_isZeroOrOne rmX5_isZeroOrOne D cI ad L [.int x0] (some (.int r)) M M' :=
  me_ofW (by decide) rfl (Nat.le_of_ble_eq_true rfl) (fun p e s m below meth c C0 => w_X5_isZeroOrOne C0 x0 M h)
abbrev rmX5_ring : Room := { frames := 3, cells := 0, slots := 0, locals := 67 }
theorem kX5_ring_f31 : (Cond.fieldLink RX5 31 "LadderOfBows" "now" "LLadderOfBows$Town;") ∈ wsX5_ring := List.mem_of_getElem? (i := 1) rfl
theorem kX5_ring_f56 : (Cond.fieldLink RX5 56 "LadderOfBows" "links" "LLadderOfBows$Links;") ∈ wsX5_ring := List.mem_of_getElem? (i := 2) rfl
theorem in_X5_ring_X5 : ∀ w ∈ wsX50, w ∈ wsX5_ring := by decide +kernel
theorem hd_X5_ring : yX5_ring.cls = RX5 ∧ yX5_ring.cls ≠ "java/lang/invoke/MethodHandle" ∧ yX5_ring.cls ≠ "java/lang/invoke/VarHandle" ∧ (parseMethodDescriptor yX5_ring.desc).map (fun d => d.parameters.length) = some 2 := by decide +kernel
set_option maxRecDepth 100000 in
set_option maxHeartbeats 4000000 in
theorem w_X5_ring_78 {p : Program} {l : Launch} {e : Env} {s : State} {m : MethodId} {args : Array Value} {below : List Frame} {meth : Method} {c : Code} {D : va_G} {cI : ClassId} {ad : Nat → Nat} {L : List CDs} {r : Int32} {M' : Mem} (C0 : me_X p s m args meth c cX5_ring 7 (some .int) wsX5_ring RX5 D cI ad L) (t : Nat) (hT : is_X5 L t) (x1 : Int32) (x2 : Int32) (x3 : Int32) (x4 : Int32) (x5 : Int32) (k38 : Int32 → Int32 → Int32 → Mem → Option (Int32 × Mem)) (hk38 : ∀ (x3 : Int32) (x4 : Int32) (x5 : Int32) (M : Mem), k38 x3 x4 x5 M = some (r, M') → me_W p l e rmX5_ring s m args below meth c D cI ad L (some (.int r)) M' 7 38 [(0, .ref (ad t)), (1, .int x1), (2, .int x2), (3, .int x3), (4, .int x4), (5, .int x5)] [] M) : ∀ (y0 : Int32) (M : Mem), X5_ring_78 t x1 x2 x3 x4 x5 k38 y0 M = some (r, M') → me_W p l e rmX5_ring s m args below meth c D cI ad L (some (.int r)) M' 7 78 [(0, .ref (ad t)), (1, .int x1), (2, .int x2), (3, .int x3), (4, .int x4), (5, .int x5)] [.int y0] M := by
  obtain ⟨hx, hb, hr, hml, hown, hts, hlk, hK, hI⟩ := id C0
  intro y0 M h
  unfold X5_ring_78 at h
  intro H locs ls hP hS hl
  refine lv_istore (lv' := [(6, .int y0), (0, .ref (ad t)), (1, .int x1), (2, .int x2), (3, .int x3), (4, .int x4), (5, .int x5)]) hx hb dX5_ring_78 hl (by decide) rfl (fun ls hl => ?_)
  refine lv_iload hx hb dX5_ring_80 (lv_at hl 0 rfl) ?_
  refine lv_bipush (v := (-4 : Int32)) hx hb dX5_ring_82 (by decide) ?_
  refine lv_icmp_eq (tgt := 110) hx hb dX5_ring_84 (by decide) (fun q => ?_) (fun q => ?_)
  · rw [if_pos q] at h
    refine lv_iinc (k := 6) (v := (x5 + (1 : Int32))) (lv' := [(5, .int (x5 + (1 : Int32))), (6, .int y0), (0, .ref (ad t)), (1, .int x1), (2, .int x2), (3, .int x3), (4, .int x4)]) hx hb dX5_ring_110 hl rfl rfl (by decide) rfl (fun ls hl => ?_)
    refine lv_goto (tgt := 38) hx hb dX5_ring_113 (by decide) ?_
    exact hk38 x3 x4 (x5 + (1 : Int32)) M h H locs ls hP hS (lv_sub hl [2, 3, 4, 5, 6, 0] rfl)
  · rw [if_neg q] at h
    refine lv_iload_n hx hb dX5_ring_87 rfl (lv_at hl 4 rfl) ?_
    refine lv_bipush (v := (-4 : Int32)) hx hb dX5_ring_88 (by decide) ?_
    refine lv_icmp_eq (tgt := 101) hx hb dX5_ring_90 (by decide) (fun q => ?_) (fun q => ?_)
    · rw [if_pos q] at h
      refine lv_iload hx hb dX5_ring_101 (lv_at hl 0 rfl) ?_
      refine lv_iconst (v := (1 : Int32)) hx hb dX5_ring_103 (by decide) ?_
      refine lv_iadd hx hb dX5_ring_104 ?_
      refine lv_topi (fun x3_105 ev => ?_)
      replace h := s_let_inv h x3_105 ev
      refine lv_istore_n (lv' := [(3, .int x3_105), (6, .int y0), (0, .ref (ad t)), (1, .int x1), (2, .int x2), (4, .int x4), (5, .int x5)]) hx hb dX5_ring_105 rfl hl (by decide) rfl (fun ls hl => ?_)
      refine lv_iload hx hb dX5_ring_106 (lv_at hl 6 rfl) ?_
      refine lv_istore (lv' := [(4, .int x5), (3, .int x3_105), (6, .int y0), (0, .ref (ad t)), (1, .int x1), (2, .int x2), (5, .int x5)]) hx hb dX5_ring_108 hl (by decide) rfl (fun ls hl => ?_)
      refine lv_iinc (k := 6) (v := (x5 + (1 : Int32))) (lv' := [(5, .int (x5 + (1 : Int32))), (4, .int x5), (3, .int x3_105), (6, .int y0), (0, .ref (ad t)), (1, .int x1), (2, .int x2)]) hx hb dX5_ring_110 hl rfl rfl (by decide) rfl (fun ls hl => ?_)
      refine lv_goto (tgt := 38) hx hb dX5_ring_113 (by decide) ?_
      exact hk38 x3_105 x5 (x5 + (1 : Int32)) M h H locs ls hP hS (lv_sub hl [4, 5, 6, 2, 1, 0] rfl)
    · rw [if_neg q] at h
      refine lv_iload hx hb dX5_ring_93 (lv_at hl 0 rfl) ?_
      refine lv_iconst (v := (1 : Int32)) hx hb dX5_ring_95 (by decide) ?_
      refine lv_iadd hx hb dX5_ring_96 ?_
      refine lv_iload_n hx hb dX5_ring_97 rfl (lv_at hl 4 rfl) ?_
      refine lv_icmp_ge (tgt := 110) hx hb dX5_ring_98 (by decide) (fun q => ?_) (fun q => ?_)
      · rw [if_pos q] at h
        refine lv_iinc (k := 6) (v := (x5 + (1 : Int32))) (lv' := [(5, .int (x5 + (1 : Int32))), (6, .int y0), (0, .ref (ad t)), (1, .int x1), (2, .int x2), (3, .int x3), (4, .int x4)]) hx hb dX5_ring_110 hl rfl rfl (by decide) rfl (fun ls hl => ?_)
        refine lv_goto (tgt := 38) hx hb dX5_ring_113 (by decide) ?_
        exact hk38 x3 x4 (x5 + (1 : Int32)) M h H locs ls hP hS (lv_sub hl [2, 3, 4, 5, 6, 0] rfl)
      · rw [if_neg q] at h
        refine lv_iload hx hb dX5_ring_101 (lv_at hl 0 rfl) ?_
        refine lv_iconst (v := (1 : Int32)) hx hb dX5_ring_103 (by decide) ?_
        refine lv_iadd hx hb dX5_ring_104 ?_
        refine lv_topi (fun x3_105 ev => ?_)
        replace h := s_let_inv h x3_105 ev
        refine lv_istore_n (lv' := [(3, .int x3_105), (6, .int y0), (0, .ref (ad t)), (1, .int x1), (2, .int x2), (4, .int x4), (5, .int x5)]) hx hb dX5_ring_105 rfl hl (by decide) rfl (fun ls hl => ?_)
        refine lv_iload hx hb dX5_ring_106 (lv_at hl 6 rfl) ?_
        refine lv_istore (lv' := [(4, .int x5), (3, .int x3_105), (6, .int y0), (0, .ref (ad t)), (1, .int x1), (2, .int x2), (5, .int x5)]) hx hb dX5_ring_108 hl (by decide) rfl (fun ls hl => ?_)
        refine lv_iinc (k := 6) (v := (x5 + (1 : Int32))) (lv' := [(5, .int (x5 + (1 : Int32))), (4, .int x5), (3, .int x3_105), (6, .int y0), (0, .ref (ad t)), (1, .int x1), (2, .int x2)]) hx hb dX5_ring_110 hl rfl rfl (by decide) rfl (fun ls hl => ?_)
        refine lv_goto (tgt := 38) hx hb dX5_ring_113 (by decide) ?_
        exact hk38 x3_105 x5 (x5 + (1 : Int32)) M h H locs ls hP hS (lv_sub hl [4, 5, 6, 2, 1, 0] rfl)
set_option maxRecDepth 100000 in
set_option maxHeartbeats 4000000 in
theorem w_X5_ring_38 {p : Program} {l : Launch} {e : Env} {s : State} {m : MethodId} {args : Array Value} {below : List Frame} {meth : Method} {c : Code} {D : va_G} {cI : ClassId} {ad : Nat → Nat} {L : List CDs} {r : Int32} {M' : Mem} (C0 : me_X p s m args meth c cX5_ring 7 (some .int) wsX5_ring RX5 D cI ad L) (t : Nat) (hT : is_X5 L t) (x1 : Int32) (x2 : Int32) : ∀ (n : Nat) (x3 : Int32) (x4 : Int32) (x5 : Int32) (M : Mem), X5_ring_38 t x1 x2 n x3 x4 x5 M = some (r, M') → me_W p l e rmX5_ring s m args below meth c D cI ad L (some (.int r)) M' 7 38 [(0, .ref (ad t)), (1, .int x1), (2, .int x2), (3, .int x3), (4, .int x4), (5, .int x5)] [] M := by
  obtain ⟨hx, hb, hr, hml, hown, hts, hlk, hK, hI⟩ := id C0
  intro n
  induction n with
  | zero =>
    intro x3 x4 x5 M h
    rw [X5_ring_38] at h
    cases h
  | succ n ih =>
    intro x3 x4 x5 M h
    rw [X5_ring_38] at h
    intro H locs ls hP hS hl
    refine lv_iload hx hb dX5_ring_38 (lv_at hl 5 rfl) ?_
    refine lv_aload_n hx hb dX5_ring_40 rfl (lv_at hl 0 rfl) ?_
    refine me_getr (ci := 5) (C := RX5) (T := TX5) (N := 13) hx hb hts in_X5_ring_X5 hown hK hP hT.1 rfl 3 (by decide) (hts _ kX5_ring_f31) rfl dX5_ring_41 ?_
    obtain ⟨v44, M44, h1, h⟩ := s_call_inv h
    refine me_callVi (As := []) (rest := [.int x5]) ⟨hx, hb, hml, hown, hts⟩ (c_X4_persons hT.2.2.2.2.1 h1) (cwV 0 hts gX5_ring_X4_persons rfl rfl rfl hd_X4_persons ⟨(Nat.le_of_ble_eq_true rfl), (Nat.le_of_ble_eq_true rfl)⟩) hK hI hP hS hT.2.2.2.2.1.1 rfl rfl hl.1 rfl (Nat.le_of_ble_eq_true rfl) dX5_ring_44 ⟨Nat.zero_le _, Nat.zero_le _⟩ (fun H locs hP hS => ?_)
    refine lv_icmp_ge (tgt := 116) hx hb dX5_ring_47 (by decide) (fun q => ?_) (fun q => ?_)
    · rw [if_pos q] at h
      refine lv_iload_n hx hb dX5_ring_116 rfl (lv_at hl 2 rfl) ?_
      refine lv_if_ne (tgt := 124) hx hb dX5_ring_117 (by decide) (fun q => ?_) (fun q => ?_)
      · rw [if_pos q] at h
        refine lv_iload hx hb dX5_ring_124 (lv_at hl 4 rfl) ?_
        exact me_iret hx hb hr hlk hP hS h dX5_ring_126
      · rw [if_neg (not_not_intro q)] at h
        refine lv_iload_n hx hb dX5_ring_120 rfl (lv_at hl 3 rfl) ?_
        refine lv_goto (tgt := 126) hx hb dX5_ring_121 (by decide) ?_
        exact me_iret hx hb hr hlk hP hS h dX5_ring_126
    · rw [if_neg q] at h
      refine lv_aload_n hx hb dX5_ring_50 rfl (lv_at hl 0 rfl) ?_
      refine me_getr (ci := 5) (C := RX5) (T := TX5) (N := 13) hx hb hts in_X5_ring_X5 hown hK hP hT.1 rfl 11 (by decide) (hts _ kX5_ring_f56) rfl dX5_ring_51 ?_
      refine lv_iload_n hx hb dX5_ring_54 rfl (lv_at hl 1 rfl) ?_
      refine lv_iload hx hb dX5_ring_55 (lv_at hl 5 rfl) ?_
      obtain ⟨v57, M57, h1, h⟩ := s_call_inv h
      refine me_callVi (As := [.int x1, .int x5]) (rest := []) ⟨hx, hb, hml, hown, hts⟩ (c_X2_areLinked hT.2.2.2.2.2.2.2.2.2.1 h1) (cwV 2 hts gX5_ring_X2_areLinked rfl rfl rfl hd_X2_areLinked ⟨(Nat.le_of_ble_eq_true rfl), (Nat.le_of_ble_eq_true rfl)⟩) hK hI hP hS hT.2.2.2.2.2.2.2.2.2.1.1 rfl rfl hl.1 rfl (Nat.le_of_ble_eq_true rfl) dX5_ring_57 ⟨Nat.zero_le _, Nat.zero_le _⟩ (fun H locs hP hS => ?_)
      refine lv_if_eq (tgt := 76) hx hb dX5_ring_60 (by decide) (fun q => ?_) (fun q => ?_)
      · rw [if_pos q] at h
        refine lv_bipush (v := (-4 : Int32)) hx hb dX5_ring_76 (by decide) ?_
        exact w_X5_ring_78 C0 t hT x1 x2 x3 x4 x5 (X5_ring_38 t x1 x2 n) (fun x3 x4 x5 M h => ih x3 x4 x5 M h) (-4 : Int32) M57 h H locs ls hP hS (lv_sub hl [0, 1, 2, 3, 4, 5] rfl)
      · rw [if_neg q] at h
        refine lv_aload_n hx hb dX5_ring_63 rfl (lv_at hl 0 rfl) ?_
        refine me_getr (ci := 5) (C := RX5) (T := TX5) (N := 13) hx hb hts in_X5_ring_X5 hown hK hP hT.1 rfl 11 (by decide) (hts _ kX5_ring_f56) rfl dX5_ring_64 ?_
        refine lv_iload hx hb dX5_ring_67 (lv_at hl 5 rfl) ?_
        refine lv_iload_n hx hb dX5_ring_69 rfl (lv_at hl 1 rfl) ?_
        obtain ⟨v70, M70, h1, h⟩ := s_call_inv h
        refine me_callVi (As := [.int x5, .int x1]) (rest := []) ⟨hx, hb, hml, hown, hts⟩ (c_X2_steps hT.2.2.2.2.2.2.2.2.2.1 h1) (cwV 2 hts gX5_ring_X2_steps rfl rfl rfl hd_X2_steps ⟨(Nat.le_of_ble_eq_true rfl), (Nat.le_of_ble_eq_true rfl)⟩) hK hI hP hS hT.2.2.2.2.2.2.2.2.2.1.1 rfl rfl hl.1 rfl (Nat.le_of_ble_eq_true rfl) dX5_ring_70 ⟨Nat.zero_le _, Nat.zero_le _⟩ (fun H locs hP hS => ?_)
        refine lv_goto (tgt := 78) hx hb dX5_ring_73 (by decide) ?_
        exact w_X5_ring_78 C0 t hT x1 x2 x3 x4 x5 (X5_ring_38 t x1 x2 n) (fun x3 x4 x5 M h => ih x3 x4 x5 M h) v70 M70 h H locs ls hP hS (lv_sub hl [0, 1, 2, 3, 4, 5] rfl)
set_option maxRecDepth 100000 in
set_option maxHeartbeats 4000000 in
theorem w_X5_ring {p : Program} {l : Launch} {e : Env} {s : State} {m : MethodId} {args : Array Value} {below : List Frame} {meth : Method} {c : Code} {D : va_G} {cI : ClassId} {ad : Nat → Nat} {L : List CDs} {r : Int32} {M' : Mem} (C0 : me_X p s m args meth c cX5_ring 7 (some .int) wsX5_ring RX5 D cI ad L) (t : Nat) (hT : is_X5 L t) (x1 : Int32) (x2 : Int32) : ∀  (M : Mem), X5_ring t x1 x2 M = some (r, M') → me_W p l e rmX5_ring s m args below meth c D cI ad L (some (.int r)) M' 7 0 [(0, .ref (ad t)), (1, .int x1), (2, .int x2)] [] M := by
  obtain ⟨hx, hb, hr, hml, hown, hts, hlk, hK, hI⟩ := id C0
  intro M h
  unfold X5_ring at h
  intro H locs ls hP hS hl
  refine lv_aload_n hx hb dX5_ring_0 rfl (lv_at hl 0 rfl) ?_
  refine lv_iload_n hx hb dX5_ring_1 rfl (lv_at hl 1 rfl) ?_
  obtain ⟨v2, M2, h1, h⟩ := s_call_inv h
  refine me_callVi (As := [.int x1]) (rest := []) ⟨hx, hb, hml, hown, hts⟩ (c_X5_isPerson hT h1) (cwV 1 hts gX5_ring_X5_isPerson rfl rfl rfl hd_X5_isPerson ⟨(Nat.le_of_ble_eq_true rfl), (Nat.le_of_ble_eq_true rfl)⟩) hK hI hP hS hT.1 rfl rfl hl.1 rfl (Nat.le_of_ble_eq_true rfl) dX5_ring_2 ⟨Nat.zero_le _, Nat.zero_le _⟩ (fun H locs hP hS => ?_)
  refine lv_if_eq (tgt := 15) hx hb dX5_ring_5 (by decide) (fun q => ?_) (fun q => ?_)
  · rw [if_pos q] at h
    refine lv_iconst (v := (-1 : Int32)) hx hb dX5_ring_15 (by decide) ?_
    exact me_iret hx hb hr hlk hP hS h dX5_ring_16
  · rw [if_neg q] at h
    refine lv_iload_n hx hb dX5_ring_8 rfl (lv_at hl 2 rfl) ?_
    obtain ⟨v9, M9, h1, h⟩ := s_call_inv h
    refine me_callSi (As := [.int x2]) (rest := []) ⟨hx, hb, hml, hown, hts⟩ (c_X5_isZeroOrOne h1) (va_cwS 1 hts gX5_ring_X5_isZeroOrOne rfl rfl rfl hd_X5_isZeroOrOne.2 ⟨(Nat.le_of_ble_eq_true rfl), (Nat.le_of_ble_eq_true rfl)⟩) hK hI hP hS rfl hl.1 rfl (Nat.le_of_ble_eq_true rfl) dX5_ring_9 ⟨Nat.zero_le _, Nat.zero_le _⟩ (fun H locs hP hS => ?_)
    refine lv_if_ne (tgt := 17) hx hb dX5_ring_12 (by decide) (fun q => ?_) (fun q => ?_)
    · rw [if_pos q] at h
      refine lv_aload_n hx hb dX5_ring_17 rfl (lv_at hl 0 rfl) ?_
      refine me_getr (ci := 5) (C := RX5) (T := TX5) (N := 13) hx hb hts in_X5_ring_X5 hown hK hP hT.1 rfl 3 (by decide) (hts _ kX5_ring_f31) rfl dX5_ring_18 ?_
      refine lv_aload_n hx hb dX5_ring_21 rfl (lv_at hl 0 rfl) ?_
      refine me_getr (ci := 5) (C := RX5) (T := TX5) (N := 13) hx hb hts in_X5_ring_X5 hown hK hP hT.1 rfl 11 (by decide) (hts _ kX5_ring_f56) rfl dX5_ring_22 ?_
      obtain ⟨u25, M25, h1, h⟩ := s_call_inv h
      refine me_callVv (As := [.ref (ad (t + 40))]) (rest := []) ⟨hx, hb, hml, hown, hts⟩ (c_X4_linkDebts hT.2.2.2.2.1 hT.2.2.2.2.2.2.2.2.2.1 h1) (cwV 1 hts gX5_ring_X4_linkDebts rfl rfl rfl hd_X4_linkDebts ⟨(Nat.le_of_ble_eq_true rfl), (Nat.le_of_ble_eq_true rfl)⟩) hK hI hP hS hT.2.2.2.2.1.1 rfl rfl hl.1 rfl (Nat.le_of_ble_eq_true rfl) dX5_ring_25 ⟨Nat.zero_le _, Nat.zero_le _⟩ (fun H locs hP hS => ?_)
      refine lv_bipush (v := (-4 : Int32)) hx hb dX5_ring_28 (by decide) ?_
      refine lv_istore_n (lv' := [(3, .int (-4 : Int32)), (0, .ref (ad t)), (1, .int x1), (2, .int x2)]) hx hb dX5_ring_30 rfl hl (by decide) rfl (fun ls hl => ?_)
      refine lv_bipush (v := (-4 : Int32)) hx hb dX5_ring_31 (by decide) ?_
      refine lv_istore (lv' := [(4, .int (-4 : Int32)), (3, .int (-4 : Int32)), (0, .ref (ad t)), (1, .int x1), (2, .int x2)]) hx hb dX5_ring_33 hl (by decide) rfl (fun ls hl => ?_)
      refine lv_iconst (v := (0 : Int32)) hx hb dX5_ring_35 (by decide) ?_
      refine lv_istore (lv' := [(5, .int (0 : Int32)), (4, .int (-4 : Int32)), (3, .int (-4 : Int32)), (0, .ref (ad t)), (1, .int x1), (2, .int x2)]) hx hb dX5_ring_36 hl (by decide) rfl (fun ls hl => ?_)
      exact w_X5_ring_38 C0 t hT x1 x2 FU (-4 : Int32) (-4 : Int32) (0 : Int32) M25 h H locs ls hP hS (lv_sub hl [3, 4, 5, 2, 1, 0] rfl)
    · rw [if_neg (not_not_intro q)] at h
      refine lv_iconst (v := (-1 : Int32)) hx hb dX5_ring_15 (by decide) ?_
      exact me_iret hx hb hr hlk hP hS h dX5_ring_16
theorem c_X5_ring {l : Launch} {D : va_G} {cI : ClassId} {ad : Nat → Nat} {L : List CDs} {t : Nat} (hT : is_X5 L t) {x1 : Int32} {x2 : Int32} {M M' : Mem} {r : Int32} (h : X5_ring t x1 x2 M = some (r, M')) : me_Met l yX5_ring wsX5_ring rmX5_ring D cI ad L [.ref (ad t), .int x1, .int x2] (some (.int r)) M M' :=
  me_ofW (by decide) rfl (Nat.le_of_ble_eq_true rfl) (fun p e s m below meth c C0 => w_X5_ring C0 t hT x1 x2 M h)
abbrev rmX5_twoAsNumber : Room := { frames := 0, cells := 0, slots := 0, locals := 0 }
theorem hd_X5_twoAsNumber : yX5_twoAsNumber.cls = RX5 ∧ yX5_twoAsNumber.cls ≠ "java/lang/invoke/MethodHandle" ∧ yX5_twoAsNumber.cls ≠ "java/lang/invoke/VarHandle" ∧ (parseMethodDescriptor yX5_twoAsNumber.desc).map (fun d => d.parameters.length) = some 2 := by decide +kernel
set_option maxRecDepth 100000 in
set_option maxHeartbeats 4000000 in
theorem w_X5_twoAsNumber {p : Program} {l : Launch} {e : Env} {s : State} {m : MethodId} {args : Array Value} {below : List Frame} {meth : Method} {c : Code} {D : va_G} {cI : ClassId} {ad : Nat → Nat} {L : List CDs} {r : Int32} {M' : Mem} (C0 : me_X p s m args meth c cX5_twoAsNumber 2 (some .int) wsX5_twoAsNumber RX5 D cI ad L)  (x0 : Int32) (x1 : Int32) : ∀  (M : Mem), X5_twoAsNumber x0 x1 M = some (r, M') → me_W p l e rmX5_twoAsNumber s m args below meth c D cI ad L (some (.int r)) M' 2 0 [(0, .int x0), (1, .int x1)] [] M := by
  obtain ⟨hx, hb, hr, hml, hown, hts, hlk, hK, hI⟩ := id C0
  intro M h
  unfold X5_twoAsNumber at h
  intro H locs ls hP hS hl
  refine lv_bipush (v := (8 : Int32)) hx hb dX5_twoAsNumber_0 (by decide) ?_
  refine lv_iload_n hx hb dX5_twoAsNumber_2 rfl (lv_at hl 0 rfl) ?_
  refine lv_imul hx hb dX5_twoAsNumber_3 ?_
  refine lv_iload_n hx hb dX5_twoAsNumber_4 rfl (lv_at hl 1 rfl) ?_
  refine lv_iadd hx hb dX5_twoAsNumber_5 ?_
  exact me_iret hx hb hr hlk hP hS h dX5_twoAsNumber_6
theorem c_X5_twoAsNumber {l : Launch} {D : va_G} {cI : ClassId} {ad : Nat → Nat} {L : List CDs}  {x0 : Int32} {x1 : Int32} {M M' : Mem} {r : Int32} (h : X5_twoAsNumber x0 x1 M = some (r, M')) : me_Met l yX5_twoAsNumber wsX5_twoAsNumber rmX5_twoAsNumber D cI ad L [.int x0, .int x1] (some (.int r)) M M' :=
  me_ofW (by decide) rfl (Nat.le_of_ble_eq_true rfl) (fun p e s m below meth c C0 => w_X5_twoAsNumber C0 x0 x1 M h)
abbrev rmX5_listDebts : Room := { frames := 1, cells := 0, slots := 0, locals := 22 }
theorem kX5_listDebts_f31 : (Cond.fieldLink RX5 31 "LadderOfBows" "now" "LLadderOfBows$Town;") ∈ wsX5_listDebts := List.mem_of_getElem? (i := 1) rfl
theorem kX5_listDebts_f60 : (Cond.fieldLink RX5 60 "LadderOfBows" "debtPlaces" "[I") ∈ wsX5_listDebts := List.mem_of_getElem? (i := 2) rfl
theorem in_X5_listDebts_X5 : ∀ w ∈ wsX50, w ∈ wsX5_listDebts := by decide +kernel
theorem hd_X5_listDebts : yX5_listDebts.cls = RX5 ∧ yX5_listDebts.cls ≠ "java/lang/invoke/MethodHandle" ∧ yX5_listDebts.cls ≠ "java/lang/invoke/VarHandle" ∧ (parseMethodDescriptor yX5_listDebts.desc).map (fun d => d.parameters.length) = some 0 := by decide +kernel
set_option maxRecDepth 100000 in
set_option maxHeartbeats 4000000 in
theorem w_X5_listDebts_17 {p : Program} {l : Launch} {e : Env} {s : State} {m : MethodId} {args : Array Value} {below : List Frame} {meth : Method} {c : Code} {D : va_G} {cI : ClassId} {ad : Nat → Nat} {L : List CDs} {r : Int32} {M' : Mem} (C0 : me_X p s m args meth c cX5_listDebts 4 (some .int) wsX5_listDebts RX5 D cI ad L) (t : Nat) (hT : is_X5 L t) (x2 : Int32) (k4 : Int32 → Int32 → Mem → Option (Int32 × Mem)) (hk4 : ∀ (x1 : Int32) (x2 : Int32) (M : Mem), k4 x1 x2 M = some (r, M') → me_W p l e rmX5_listDebts s m args below meth c D cI ad L (some (.int r)) M' 4 4 [(0, .ref (ad t)), (1, .int x1), (2, .int x2)] [] M) : ∀ (n : Nat) (x1 : Int32) (x3 : Int32) (M : Mem), X5_listDebts_17 t x2 k4 n x1 x3 M = some (r, M') → me_W p l e rmX5_listDebts s m args below meth c D cI ad L (some (.int r)) M' 4 17 [(0, .ref (ad t)), (1, .int x1), (2, .int x2), (3, .int x3)] [] M := by
  obtain ⟨hx, hb, hr, hml, hown, hts, hlk, hK, hI⟩ := id C0
  intro n
  induction n with
  | zero =>
    intro x1 x3 M h
    rw [X5_listDebts_17] at h
    cases h
  | succ n ih =>
    intro x1 x3 M h
    rw [X5_listDebts_17] at h
    intro H locs ls hP hS hl
    refine lv_iload_n hx hb dX5_listDebts_17 rfl (lv_at hl 3 rfl) ?_
    refine lv_aload_n hx hb dX5_listDebts_18 rfl (lv_at hl 0 rfl) ?_
    refine me_getr (ci := 5) (C := RX5) (T := TX5) (N := 13) hx hb hts in_X5_listDebts_X5 hown hK hP hT.1 rfl 3 (by decide) (hts _ kX5_listDebts_f31) rfl dX5_listDebts_19 ?_
    obtain ⟨v22, M22, h1, h⟩ := s_call_inv h
    refine me_callVi (As := []) (rest := [.int x3]) ⟨hx, hb, hml, hown, hts⟩ (c_X4_persons hT.2.2.2.2.1 h1) (cwV 0 hts gX5_listDebts_X4_persons rfl rfl rfl hd_X4_persons ⟨(Nat.le_of_ble_eq_true rfl), (Nat.le_of_ble_eq_true rfl)⟩) hK hI hP hS hT.2.2.2.2.1.1 rfl rfl hl.1 rfl (Nat.le_of_ble_eq_true rfl) dX5_listDebts_22 ⟨Nat.zero_le _, Nat.zero_le _⟩ (fun H locs hP hS => ?_)
    refine lv_icmp_ge (tgt := 60) hx hb dX5_listDebts_25 (by decide) (fun q => ?_) (fun q => ?_)
    · rw [if_pos q] at h
      refine lv_iinc (k := 2) (v := (x2 + (1 : Int32))) (lv' := [(2, .int (x2 + (1 : Int32))), (0, .ref (ad t)), (1, .int x1), (3, .int x3)]) hx hb dX5_listDebts_60 hl rfl rfl (by decide) rfl (fun ls hl => ?_)
      refine lv_goto (tgt := 4) hx hb dX5_listDebts_63 (by decide) ?_
      exact hk4 x1 (x2 + (1 : Int32)) M22 h H locs ls hP hS (lv_sub hl [1, 2, 0] rfl)
    · rw [if_neg q] at h
      refine lv_aload_n hx hb dX5_listDebts_28 rfl (lv_at hl 0 rfl) ?_
      refine me_getr (ci := 5) (C := RX5) (T := TX5) (N := 13) hx hb hts in_X5_listDebts_X5 hown hK hP hT.1 rfl 3 (by decide) (hts _ kX5_listDebts_f31) rfl dX5_listDebts_29 ?_
      refine lv_iload_n hx hb dX5_listDebts_32 rfl (lv_at hl 2 rfl) ?_
      refine lv_iload_n hx hb dX5_listDebts_33 rfl (lv_at hl 3 rfl) ?_
      obtain ⟨v34, M34, h1, h⟩ := s_call_inv h
      refine me_callVi (As := [.int x2, .int x3]) (rest := []) ⟨hx, hb, hml, hown, hts⟩ (c_X4_debt hT.2.2.2.2.1 h1) (cwV 2 hts gX5_listDebts_X4_debt rfl rfl rfl hd_X4_debt ⟨(Nat.le_of_ble_eq_true rfl), (Nat.le_of_ble_eq_true rfl)⟩) hK hI hP hS hT.2.2.2.2.1.1 rfl rfl hl.1 rfl (Nat.le_of_ble_eq_true rfl) dX5_listDebts_34 ⟨Nat.zero_le _, Nat.zero_le _⟩ (fun H locs hP hS => ?_)
      refine lv_if_le (tgt := 54) hx hb dX5_listDebts_37 (by decide) (fun q => ?_) (fun q => ?_)
      · rw [if_pos q] at h
        refine lv_iinc (k := 3) (v := (x3 + (1 : Int32))) (lv' := [(3, .int (x3 + (1 : Int32))), (0, .ref (ad t)), (1, .int x1), (2, .int x2)]) hx hb dX5_listDebts_54 hl rfl rfl (by decide) rfl (fun ls hl => ?_)
        refine lv_goto (tgt := 17) hx hb dX5_listDebts_57 (by decide) ?_
        exact ih x1 (x3 + (1 : Int32)) M34 h H locs ls hP hS (lv_sub hl [1, 2, 3, 0] rfl)
      · rw [if_neg q] at h
        refine lv_aload_n hx hb dX5_listDebts_40 rfl (lv_at hl 0 rfl) ?_
        refine me_getr (ci := 5) (C := RX5) (T := TX5) (N := 13) hx hb hts in_X5_listDebts_X5 hown hK hP hT.1 rfl 12 (by decide) (hts _ kX5_listDebts_f60) rfl dX5_listDebts_41 ?_
        refine lv_iload_n hx hb dX5_listDebts_44 rfl (lv_at hl 1 rfl) ?_
        refine lv_iload_n hx hb dX5_listDebts_45 rfl (lv_at hl 2 rfl) ?_
        refine lv_iload_n hx hb dX5_listDebts_46 rfl (lv_at hl 3 rfl) ?_
        obtain ⟨v47, M47, h1, h⟩ := s_call_inv h
        refine me_callSi (As := [.int x2, .int x3]) (rest := [.int x1, .ref (ad (t + 43))]) ⟨hx, hb, hml, hown, hts⟩ (c_X5_twoAsNumber h1) (va_cwS 2 hts gX5_listDebts_X5_twoAsNumber rfl rfl rfl hd_X5_twoAsNumber.2 ⟨(Nat.le_of_ble_eq_true rfl), (Nat.le_of_ble_eq_true rfl)⟩) hK hI hP hS rfl hl.1 rfl (Nat.le_of_ble_eq_true rfl) dX5_listDebts_47 ⟨Nat.zero_le _, Nat.zero_le _⟩ (fun H locs hP hS => ?_)
        obtain ⟨hi, h⟩ := s_ast_inv h
        refine me_ast hx hb hK hI hP hS hT.2.2.2.2.2.2.2.2.2.2 hi dX5_listDebts_50 (fun H locs M50 eM hP hS => ?_)
        replace h := h M50 eM
        refine lv_iinc (k := 1) (v := (x1 + (1 : Int32))) (lv' := [(1, .int (x1 + (1 : Int32))), (0, .ref (ad t)), (2, .int x2), (3, .int x3)]) hx hb dX5_listDebts_51 hl rfl rfl (by decide) rfl (fun ls hl => ?_)
        refine lv_iinc (k := 3) (v := (x3 + (1 : Int32))) (lv' := [(3, .int (x3 + (1 : Int32))), (1, .int (x1 + (1 : Int32))), (0, .ref (ad t)), (2, .int x2)]) hx hb dX5_listDebts_54 hl rfl rfl (by decide) rfl (fun ls hl => ?_)
        refine lv_goto (tgt := 17) hx hb dX5_listDebts_57 (by decide) ?_
        exact ih (x1 + (1 : Int32)) (x3 + (1 : Int32)) M50 h H locs ls hP hS (lv_sub hl [2, 1, 3, 0] rfl)
set_option maxRecDepth 100000 in
set_option maxHeartbeats 4000000 in
theorem w_X5_listDebts_4 {p : Program} {l : Launch} {e : Env} {s : State} {m : MethodId} {args : Array Value} {below : List Frame} {meth : Method} {c : Code} {D : va_G} {cI : ClassId} {ad : Nat → Nat} {L : List CDs} {r : Int32} {M' : Mem} (C0 : me_X p s m args meth c cX5_listDebts 4 (some .int) wsX5_listDebts RX5 D cI ad L) (t : Nat) (hT : is_X5 L t) : ∀ (n : Nat) (x1 : Int32) (x2 : Int32) (M : Mem), X5_listDebts_4 t n x1 x2 M = some (r, M') → me_W p l e rmX5_listDebts s m args below meth c D cI ad L (some (.int r)) M' 4 4 [(0, .ref (ad t)), (1, .int x1), (2, .int x2)] [] M := by
  obtain ⟨hx, hb, hr, hml, hown, hts, hlk, hK, hI⟩ := id C0
  intro n
  induction n with
  | zero =>
    intro x1 x2 M h
    rw [X5_listDebts_4] at h
    cases h
  | succ n ih =>
    intro x1 x2 M h
    rw [X5_listDebts_4] at h
    intro H locs ls hP hS hl
    refine lv_iload_n hx hb dX5_listDebts_4 rfl (lv_at hl 2 rfl) ?_
    refine lv_aload_n hx hb dX5_listDebts_5 rfl (lv_at hl 0 rfl) ?_
    refine me_getr (ci := 5) (C := RX5) (T := TX5) (N := 13) hx hb hts in_X5_listDebts_X5 hown hK hP hT.1 rfl 3 (by decide) (hts _ kX5_listDebts_f31) rfl dX5_listDebts_6 ?_
    obtain ⟨v9, M9, h1, h⟩ := s_call_inv h
    refine me_callVi (As := []) (rest := [.int x2]) ⟨hx, hb, hml, hown, hts⟩ (c_X4_persons hT.2.2.2.2.1 h1) (cwV 0 hts gX5_listDebts_X4_persons rfl rfl rfl hd_X4_persons ⟨(Nat.le_of_ble_eq_true rfl), (Nat.le_of_ble_eq_true rfl)⟩) hK hI hP hS hT.2.2.2.2.1.1 rfl rfl hl.1 rfl (Nat.le_of_ble_eq_true rfl) dX5_listDebts_9 ⟨Nat.zero_le _, Nat.zero_le _⟩ (fun H locs hP hS => ?_)
    refine lv_icmp_ge (tgt := 66) hx hb dX5_listDebts_12 (by decide) (fun q => ?_) (fun q => ?_)
    · rw [if_pos q] at h
      refine lv_iload_n hx hb dX5_listDebts_66 rfl (lv_at hl 1 rfl) ?_
      exact me_iret hx hb hr hlk hP hS h dX5_listDebts_67
    · rw [if_neg q] at h
      refine lv_iconst (v := (0 : Int32)) hx hb dX5_listDebts_15 (by decide) ?_
      refine lv_istore_n (lv' := [(3, .int (0 : Int32)), (0, .ref (ad t)), (1, .int x1), (2, .int x2)]) hx hb dX5_listDebts_16 rfl hl (by decide) rfl (fun ls hl => ?_)
      exact w_X5_listDebts_17 C0 t hT x2 (X5_listDebts_4 t n) (fun x1 x2 M h => ih x1 x2 M h) FU x1 (0 : Int32) M9 h H locs ls hP hS (lv_sub hl [1, 2, 3, 0] rfl)
set_option maxRecDepth 100000 in
set_option maxHeartbeats 4000000 in
theorem w_X5_listDebts {p : Program} {l : Launch} {e : Env} {s : State} {m : MethodId} {args : Array Value} {below : List Frame} {meth : Method} {c : Code} {D : va_G} {cI : ClassId} {ad : Nat → Nat} {L : List CDs} {r : Int32} {M' : Mem} (C0 : me_X p s m args meth c cX5_listDebts 4 (some .int) wsX5_listDebts RX5 D cI ad L) (t : Nat) (hT : is_X5 L t) : ∀  (M : Mem), X5_listDebts t M = some (r, M') → me_W p l e rmX5_listDebts s m args below meth c D cI ad L (some (.int r)) M' 4 0 [(0, .ref (ad t))] [] M := by
  obtain ⟨hx, hb, hr, hml, hown, hts, hlk, hK, hI⟩ := id C0
  intro M h
  unfold X5_listDebts at h
  intro H locs ls hP hS hl
  refine lv_iconst (v := (0 : Int32)) hx hb dX5_listDebts_0 (by decide) ?_
  refine lv_istore_n (lv' := [(1, .int (0 : Int32)), (0, .ref (ad t))]) hx hb dX5_listDebts_1 rfl hl (by decide) rfl (fun ls hl => ?_)
  refine lv_iconst (v := (0 : Int32)) hx hb dX5_listDebts_2 (by decide) ?_
  refine lv_istore_n (lv' := [(2, .int (0 : Int32)), (1, .int (0 : Int32)), (0, .ref (ad t))]) hx hb dX5_listDebts_3 rfl hl (by decide) rfl (fun ls hl => ?_)
  exact w_X5_listDebts_4 C0 t hT FU (0 : Int32) (0 : Int32) M h H locs ls hP hS (lv_sub hl [2, 1, 0] rfl)
theorem c_X5_listDebts {l : Launch} {D : va_G} {cI : ClassId} {ad : Nat → Nat} {L : List CDs} {t : Nat} (hT : is_X5 L t)  {M M' : Mem} {r : Int32} (h : X5_listDebts t M = some (r, M')) : me_Met l yX5_listDebts wsX5_listDebts rmX5_listDebts D cI ad L [.ref (ad t)] (some (.int r)) M M' :=
  me_ofW (by decide) rfl (Nat.le_of_ble_eq_true rfl) (fun p e s m below meth c C0 => w_X5_listDebts C0 t hT M h)
abbrev rmX5_forgiveInTrial : Room := { frames := 1, cells := 0, slots := 0, locals := 24 }
theorem kX5_forgiveInTrial_f60 : (Cond.fieldLink RX5 60 "LadderOfBows" "debtPlaces" "[I") ∈ wsX5_forgiveInTrial := List.mem_of_getElem? (i := 1) rfl
theorem kX5_forgiveInTrial_f37 : (Cond.fieldLink RX5 37 "LadderOfBows" "trial" "LLadderOfBows$Town;") ∈ wsX5_forgiveInTrial := List.mem_of_getElem? (i := 2) rfl
theorem in_X5_forgiveInTrial_X5 : ∀ w ∈ wsX50, w ∈ wsX5_forgiveInTrial := by decide +kernel
theorem hd_X5_forgiveInTrial : yX5_forgiveInTrial.cls = RX5 ∧ yX5_forgiveInTrial.cls ≠ "java/lang/invoke/MethodHandle" ∧ yX5_forgiveInTrial.cls ≠ "java/lang/invoke/VarHandle" ∧ (parseMethodDescriptor yX5_forgiveInTrial.desc).map (fun d => d.parameters.length) = some 1 := by decide +kernel
set_option maxRecDepth 100000 in
set_option maxHeartbeats 4000000 in
theorem w_X5_forgiveInTrial {p : Program} {l : Launch} {e : Env} {s : State} {m : MethodId} {args : Array Value} {below : List Frame} {meth : Method} {c : Code} {D : va_G} {cI : ClassId} {ad : Nat → Nat} {L : List CDs} {r : Unit} {M' : Mem} (C0 : me_X p s m args meth c cX5_forgiveInTrial 3 none wsX5_forgiveInTrial RX5 D cI ad L) (t : Nat) (hT : is_X5 L t) (x1 : Int32) : ∀  (M : Mem), X5_forgiveInTrial t x1 M = some (r, M') → me_W p l e rmX5_forgiveInTrial s m args below meth c D cI ad L none M' 3 0 [(0, .ref (ad t)), (1, .int x1)] [] M := by
  obtain ⟨hx, hb, hr, hml, hown, hts, hlk, hK, hI⟩ := id C0
  intro M h
  unfold X5_forgiveInTrial at h
  intro H locs ls hP hS hl
  refine lv_iload_n hx hb dX5_forgiveInTrial_0 rfl (lv_at hl 1 rfl) ?_
  refine lv_iconst (v := (-1 : Int32)) hx hb dX5_forgiveInTrial_1 (by decide) ?_
  refine lv_icmp_eq (tgt := 28) hx hb dX5_forgiveInTrial_2 (by decide) (fun q => ?_) (fun q => ?_)
  · rw [if_pos q] at h
    exact me_vret hx hb hr hlk hP hS h dX5_forgiveInTrial_28
  · rw [if_neg q] at h
    refine lv_aload_n hx hb dX5_forgiveInTrial_5 rfl (lv_at hl 0 rfl) ?_
    refine me_getr (ci := 5) (C := RX5) (T := TX5) (N := 13) hx hb hts in_X5_forgiveInTrial_X5 hown hK hP hT.1 rfl 12 (by decide) (hts _ kX5_forgiveInTrial_f60) rfl dX5_forgiveInTrial_6 ?_
    refine lv_iload_n hx hb dX5_forgiveInTrial_9 rfl (lv_at hl 1 rfl) ?_
    obtain ⟨hi, h⟩ := s_ald_inv h
    refine me_ald hx hb hK hP hT.2.2.2.2.2.2.2.2.2.2 hi dX5_forgiveInTrial_10 (fun v10 ev => ?_)
    replace h := h v10 ev
    refine lv_istore_n (lv' := [(2, .int v10), (0, .ref (ad t)), (1, .int x1)]) hx hb dX5_forgiveInTrial_11 rfl hl (by decide) rfl (fun ls hl => ?_)
    refine lv_aload_n hx hb dX5_forgiveInTrial_12 rfl (lv_at hl 1 rfl) ?_
    refine me_getr (ci := 5) (C := RX5) (T := TX5) (N := 13) hx hb hts in_X5_forgiveInTrial_X5 hown hK hP hT.1 rfl 4 (by decide) (hts _ kX5_forgiveInTrial_f37) rfl dX5_forgiveInTrial_13 ?_
    refine lv_iload_n hx hb dX5_forgiveInTrial_16 rfl (lv_at hl 0 rfl) ?_
    refine lv_bipush (v := (8 : Int32)) hx hb dX5_forgiveInTrial_17 (by decide) ?_
    obtain ⟨hi, h⟩ := s_div_inv h
    refine lv_idiv hx hb dX5_forgiveInTrial_19 hi ?_
    refine lv_topi (fun v19 ev => ?_)
    replace h := h v19 ev
    refine lv_iload_n hx hb dX5_forgiveInTrial_20 rfl (lv_at hl 0 rfl) ?_
    refine lv_bipush (v := (8 : Int32)) hx hb dX5_forgiveInTrial_21 (by decide) ?_
    obtain ⟨hi, h⟩ := s_rem_inv h
    refine lv_irem hx hb dX5_forgiveInTrial_23 hi ?_
    refine lv_topi (fun v23 ev => ?_)
    replace h := h v23 ev
    refine lv_iconst (v := (0 : Int32)) hx hb dX5_forgiveInTrial_24 (by decide) ?_
    obtain ⟨u25, M25, h1, h⟩ := s_call_inv h
    refine me_callVv (As := [.int v19, .int v23, .int (0 : Int32)]) (rest := []) ⟨hx, hb, hml, hown, hts⟩ (c_X4_setDebt hT.2.2.2.2.2.1 h1) (cwV 3 hts gX5_forgiveInTrial_X4_setDebt rfl rfl rfl hd_X4_setDebt ⟨(Nat.le_of_ble_eq_true rfl), (Nat.le_of_ble_eq_true rfl)⟩) hK hI hP hS hT.2.2.2.2.2.1.1 rfl rfl hl.1 rfl (Nat.le_of_ble_eq_true rfl) dX5_forgiveInTrial_25 ⟨Nat.zero_le _, Nat.zero_le _⟩ (fun H locs hP hS => ?_)
    exact me_vret hx hb hr hlk hP hS h dX5_forgiveInTrial_28
theorem c_X5_forgiveInTrial {l : Launch} {D : va_G} {cI : ClassId} {ad : Nat → Nat} {L : List CDs} {t : Nat} (hT : is_X5 L t) {x1 : Int32} {M M' : Mem} {r : Unit} (h : X5_forgiveInTrial t x1 M = some (r, M')) : me_Met l yX5_forgiveInTrial wsX5_forgiveInTrial rmX5_forgiveInTrial D cI ad L [.ref (ad t), .int x1] none M M' :=
  me_ofW (by decide) rfl (Nat.le_of_ble_eq_true rfl) (fun p e s m below meth c C0 => w_X5_forgiveInTrial C0 t hT x1 M h)
abbrev rmX5_owedWithout : Room := { frames := 4, cells := 0, slots := 0, locals := 91 }
theorem kX5_owedWithout_f37 : (Cond.fieldLink RX5 37 "LadderOfBows" "trial" "LLadderOfBows$Town;") ∈ wsX5_owedWithout := List.mem_of_getElem? (i := 1) rfl
theorem kX5_owedWithout_f31 : (Cond.fieldLink RX5 31 "LadderOfBows" "now" "LLadderOfBows$Town;") ∈ wsX5_owedWithout := List.mem_of_getElem? (i := 2) rfl
theorem in_X5_owedWithout_X5 : ∀ w ∈ wsX50, w ∈ wsX5_owedWithout := by decide +kernel
theorem hd_X5_owedWithout : yX5_owedWithout.cls = RX5 ∧ yX5_owedWithout.cls ≠ "java/lang/invoke/MethodHandle" ∧ yX5_owedWithout.cls ≠ "java/lang/invoke/VarHandle" ∧ (parseMethodDescriptor yX5_owedWithout.desc).map (fun d => d.parameters.length) = some 2 := by decide +kernel
set_option maxRecDepth 100000 in
set_option maxHeartbeats 4000000 in
theorem w_X5_owedWithout {p : Program} {l : Launch} {e : Env} {s : State} {m : MethodId} {args : Array Value} {below : List Frame} {meth : Method} {c : Code} {D : va_G} {cI : ClassId} {ad : Nat → Nat} {L : List CDs} {r : Int32} {M' : Mem} (C0 : me_X p s m args meth c cX5_owedWithout 3 (some .int) wsX5_owedWithout RX5 D cI ad L) (t : Nat) (hT : is_X5 L t) (x1 : Int32) (x2 : Int32) : ∀  (M : Mem), X5_owedWithout t x1 x2 M = some (r, M') → me_W p l e rmX5_owedWithout s m args below meth c D cI ad L (some (.int r)) M' 3 0 [(0, .ref (ad t)), (1, .int x1), (2, .int x2)] [] M := by
  obtain ⟨hx, hb, hr, hml, hown, hts, hlk, hK, hI⟩ := id C0
  intro M h
  unfold X5_owedWithout at h
  intro H locs ls hP hS hl
  refine lv_aload_n hx hb dX5_owedWithout_0 rfl (lv_at hl 0 rfl) ?_
  refine me_getr (ci := 5) (C := RX5) (T := TX5) (N := 13) hx hb hts in_X5_owedWithout_X5 hown hK hP hT.1 rfl 4 (by decide) (hts _ kX5_owedWithout_f37) rfl dX5_owedWithout_1 ?_
  refine lv_aload_n hx hb dX5_owedWithout_4 rfl (lv_at hl 0 rfl) ?_
  refine me_getr (ci := 5) (C := RX5) (T := TX5) (N := 13) hx hb hts in_X5_owedWithout_X5 hown hK hP hT.1 rfl 3 (by decide) (hts _ kX5_owedWithout_f31) rfl dX5_owedWithout_5 ?_
  obtain ⟨u8, M8, h1, h⟩ := s_call_inv h
  refine me_callVv (As := [.ref (ad (t + 16))]) (rest := []) ⟨hx, hb, hml, hown, hts⟩ (c_X4_copyFrom hT.2.2.2.2.2.1 hT.2.2.2.2.1 h1) (cwV 1 hts gX5_owedWithout_X4_copyFrom rfl rfl rfl hd_X4_copyFrom ⟨(Nat.le_of_ble_eq_true rfl), (Nat.le_of_ble_eq_true rfl)⟩) hK hI hP hS hT.2.2.2.2.2.1.1 rfl rfl hl.1 rfl (Nat.le_of_ble_eq_true rfl) dX5_owedWithout_8 ⟨Nat.zero_le _, Nat.zero_le _⟩ (fun H locs hP hS => ?_)
  refine lv_aload_n hx hb dX5_owedWithout_11 rfl (lv_at hl 0 rfl) ?_
  refine lv_iload_n hx hb dX5_owedWithout_12 rfl (lv_at hl 1 rfl) ?_
  obtain ⟨u13, M13, h1, h⟩ := s_call_inv h
  refine me_callVv (As := [.int x1]) (rest := []) ⟨hx, hb, hml, hown, hts⟩ (c_X5_forgiveInTrial hT h1) (cwV 1 hts gX5_owedWithout_X5_forgiveInTrial rfl rfl rfl hd_X5_forgiveInTrial ⟨(Nat.le_of_ble_eq_true rfl), (Nat.le_of_ble_eq_true rfl)⟩) hK hI hP hS hT.1 rfl rfl hl.1 rfl (Nat.le_of_ble_eq_true rfl) dX5_owedWithout_13 ⟨Nat.zero_le _, Nat.zero_le _⟩ (fun H locs hP hS => ?_)
  refine lv_aload_n hx hb dX5_owedWithout_16 rfl (lv_at hl 0 rfl) ?_
  refine lv_iload_n hx hb dX5_owedWithout_17 rfl (lv_at hl 2 rfl) ?_
  obtain ⟨u18, M18, h1, h⟩ := s_call_inv h
  refine me_callVv (As := [.int x2]) (rest := []) ⟨hx, hb, hml, hown, hts⟩ (c_X5_forgiveInTrial hT h1) (cwV 1 hts gX5_owedWithout_X5_forgiveInTrial rfl rfl rfl hd_X5_forgiveInTrial ⟨(Nat.le_of_ble_eq_true rfl), (Nat.le_of_ble_eq_true rfl)⟩) hK hI hP hS hT.1 rfl rfl hl.1 rfl (Nat.le_of_ble_eq_true rfl) dX5_owedWithout_18 ⟨Nat.zero_le _, Nat.zero_le _⟩ (fun H locs hP hS => ?_)
  refine lv_aload_n hx hb dX5_owedWithout_21 rfl (lv_at hl 0 rfl) ?_
  refine me_getr (ci := 5) (C := RX5) (T := TX5) (N := 13) hx hb hts in_X5_owedWithout_X5 hown hK hP hT.1 rfl 4 (by decide) (hts _ kX5_owedWithout_f37) rfl dX5_owedWithout_22 ?_
  obtain ⟨v25, M25, h1, h⟩ := s_call_inv h
  refine me_callVi (As := []) (rest := []) ⟨hx, hb, hml, hown, hts⟩ (c_X4_makePeace hT.2.2.2.2.2.1 h1) (cwV 0 hts gX5_owedWithout_X4_makePeace rfl rfl rfl hd_X4_makePeace ⟨(Nat.le_of_ble_eq_true rfl), (Nat.le_of_ble_eq_true rfl)⟩) hK hI hP hS hT.2.2.2.2.2.1.1 rfl rfl hl.1 rfl (Nat.le_of_ble_eq_true rfl) dX5_owedWithout_25 ⟨Nat.zero_le _, Nat.zero_le _⟩ (fun H locs hP hS => ?_)
  refine lv_pop hx hb dX5_owedWithout_28 rfl ?_
  refine lv_aload_n hx hb dX5_owedWithout_29 rfl (lv_at hl 0 rfl) ?_
  refine me_getr (ci := 5) (C := RX5) (T := TX5) (N := 13) hx hb hts in_X5_owedWithout_X5 hown hK hP hT.1 rfl 4 (by decide) (hts _ kX5_owedWithout_f37) rfl dX5_owedWithout_30 ?_
  obtain ⟨v33, M33, h1, h⟩ := s_call_inv h
  refine me_callVi (As := []) (rest := []) ⟨hx, hb, hml, hown, hts⟩ (c_X4_allOwed hT.2.2.2.2.2.1 h1) (cwV 0 hts gX5_owedWithout_X4_allOwed rfl rfl rfl hd_X4_allOwed ⟨(Nat.le_of_ble_eq_true rfl), (Nat.le_of_ble_eq_true rfl)⟩) hK hI hP hS hT.2.2.2.2.2.1.1 rfl rfl hl.1 rfl (Nat.le_of_ble_eq_true rfl) dX5_owedWithout_33 ⟨Nat.zero_le _, Nat.zero_le _⟩ (fun H locs hP hS => ?_)
  exact me_iret hx hb hr hlk hP hS h dX5_owedWithout_36
theorem c_X5_owedWithout {l : Launch} {D : va_G} {cI : ClassId} {ad : Nat → Nat} {L : List CDs} {t : Nat} (hT : is_X5 L t) {x1 : Int32} {x2 : Int32} {M M' : Mem} {r : Int32} (h : X5_owedWithout t x1 x2 M = some (r, M')) : me_Met l yX5_owedWithout wsX5_owedWithout rmX5_owedWithout D cI ad L [.ref (ad t), .int x1, .int x2] (some (.int r)) M M' :=
  me_ofW (by decide) rfl (Nat.le_of_ble_eq_true rfl) (fun p e s m below meth c C0 => w_X5_owedWithout C0 t hT x1 x2 M h)
abbrev rmX5_forgiven : Room := { frames := 5, cells := 0, slots := 0, locals := 113 }
theorem kX5_forgiven_f60 : (Cond.fieldLink RX5 60 "LadderOfBows" "debtPlaces" "[I") ∈ wsX5_forgiven := List.mem_of_getElem? (i := 1) rfl
theorem in_X5_forgiven_X5 : ∀ w ∈ wsX50, w ∈ wsX5_forgiven := by decide +kernel
theorem hd_X5_forgiven : yX5_forgiven.cls = RX5 ∧ yX5_forgiven.cls ≠ "java/lang/invoke/MethodHandle" ∧ yX5_forgiven.cls ≠ "java/lang/invoke/VarHandle" ∧ (parseMethodDescriptor yX5_forgiven.desc).map (fun d => d.parameters.length) = some 1 := by decide +kernel
set_option maxRecDepth 100000 in
set_option maxHeartbeats 4000000 in
theorem w_X5_forgiven_24 {p : Program} {l : Launch} {e : Env} {s : State} {m : MethodId} {args : Array Value} {below : List Frame} {meth : Method} {c : Code} {D : va_G} {cI : ClassId} {ad : Nat → Nat} {L : List CDs} {r : Int32} {M' : Mem} (C0 : me_X p s m args meth c cX5_forgiven 7 (some .int) wsX5_forgiven RX5 D cI ad L) (t : Nat) (hT : is_X5 L t) (x1 : Int32) (x2 : Int32) : ∀ (n : Nat) (x3 : Int32) (x4 : Int32) (x5 : Int32) (M : Mem), X5_forgiven_24 t x1 x2 n x3 x4 x5 M = some (r, M') → me_W p l e rmX5_forgiven s m args below meth c D cI ad L (some (.int r)) M' 7 24 [(0, .ref (ad t)), (1, .int x1), (2, .int x2), (3, .int x3), (4, .int x4), (5, .int x5)] [] M := by
  obtain ⟨hx, hb, hr, hml, hown, hts, hlk, hK, hI⟩ := id C0
  intro n
  induction n with
  | zero =>
    intro x3 x4 x5 M h
    rw [X5_forgiven_24] at h
    cases h
  | succ n ih =>
    intro x3 x4 x5 M h
    rw [X5_forgiven_24] at h
    intro H locs ls hP hS hl
    refine lv_iload hx hb dX5_forgiven_24 (lv_at hl 5 rfl) ?_
    refine lv_iload_n hx hb dX5_forgiven_26 rfl (lv_at hl 2 rfl) ?_
    refine lv_icmp_ge (tgt := 70) hx hb dX5_forgiven_27 (by decide) (fun q => ?_) (fun q => ?_)
    · rw [if_pos q] at h
      refine lv_iload_n hx hb dX5_forgiven_70 rfl (lv_at hl 1 rfl) ?_
      refine lv_if_ne (tgt := 78) hx hb dX5_forgiven_71 (by decide) (fun q => ?_) (fun q => ?_)
      · rw [if_pos q] at h
        refine lv_iload hx hb dX5_forgiven_78 (lv_at hl 4 rfl) ?_
        exact me_iret hx hb hr hlk hP hS h dX5_forgiven_80
      · rw [if_neg (not_not_intro q)] at h
        refine lv_iload_n hx hb dX5_forgiven_74 rfl (lv_at hl 3 rfl) ?_
        refine lv_goto (tgt := 80) hx hb dX5_forgiven_75 (by decide) ?_
        exact me_iret hx hb hr hlk hP hS h dX5_forgiven_80
    · rw [if_neg q] at h
      refine lv_aload_n hx hb dX5_forgiven_30 rfl (lv_at hl 0 rfl) ?_
      refine lv_iload hx hb dX5_forgiven_31 (lv_at hl 5 rfl) ?_
      refine lv_iconst (v := (-1 : Int32)) hx hb dX5_forgiven_33 (by decide) ?_
      obtain ⟨v34, M34, h1, h⟩ := s_call_inv h
      refine me_callVi (As := [.int x5, .int (-1 : Int32)]) (rest := []) ⟨hx, hb, hml, hown, hts⟩ (c_X5_owedWithout hT h1) (cwV 2 hts gX5_forgiven_X5_owedWithout rfl rfl rfl hd_X5_owedWithout ⟨(Nat.le_of_ble_eq_true rfl), (Nat.le_of_ble_eq_true rfl)⟩) hK hI hP hS hT.1 rfl rfl hl.1 rfl (Nat.le_of_ble_eq_true rfl) dX5_forgiven_34 ⟨Nat.zero_le _, Nat.zero_le _⟩ (fun H locs hP hS => ?_)
      refine lv_istore (lv' := [(6, .int v34), (0, .ref (ad t)), (1, .int x1), (2, .int x2), (3, .int x3), (4, .int x4), (5, .int x5)]) hx hb dX5_forgiven_37 hl (by decide) rfl (fun ls hl => ?_)
      refine lv_iload_n hx hb dX5_forgiven_39 rfl (lv_at hl 4 rfl) ?_
      refine lv_bipush (v := (-4 : Int32)) hx hb dX5_forgiven_40 (by decide) ?_
      refine lv_icmp_eq (tgt := 52) hx hb dX5_forgiven_42 (by decide) (fun q => ?_) (fun q => ?_)
      · rw [if_pos q] at h
        refine lv_aload_n hx hb dX5_forgiven_52 rfl (lv_at hl 1 rfl) ?_
        refine me_getr (ci := 5) (C := RX5) (T := TX5) (N := 13) hx hb hts in_X5_forgiven_X5 hown hK hP hT.1 rfl 12 (by decide) (hts _ kX5_forgiven_f60) rfl dX5_forgiven_53 ?_
        refine lv_iload hx hb dX5_forgiven_56 (lv_at hl 6 rfl) ?_
        obtain ⟨hi, h⟩ := s_ald_inv h
        refine me_ald hx hb hK hP hT.2.2.2.2.2.2.2.2.2.2 hi dX5_forgiven_58 (fun v58 ev => ?_)
        replace h := h v58 ev
        refine lv_istore_n (lv' := [(3, .int v58), (6, .int v34), (0, .ref (ad t)), (1, .int x1), (2, .int x2), (4, .int x4), (5, .int x5)]) hx hb dX5_forgiven_59 rfl hl (by decide) rfl (fun ls hl => ?_)
        refine lv_iload hx hb dX5_forgiven_60 (lv_at hl 1 rfl) ?_
        refine lv_istore (lv' := [(4, .int v34), (3, .int v58), (6, .int v34), (0, .ref (ad t)), (1, .int x1), (2, .int x2), (5, .int x5)]) hx hb dX5_forgiven_62 hl (by decide) rfl (fun ls hl => ?_)
        refine lv_iinc (k := 6) (v := (x5 + (1 : Int32))) (lv' := [(5, .int (x5 + (1 : Int32))), (4, .int v34), (3, .int v58), (6, .int v34), (0, .ref (ad t)), (1, .int x1), (2, .int x2)]) hx hb dX5_forgiven_64 hl rfl rfl (by decide) rfl (fun ls hl => ?_)
        refine lv_goto (tgt := 24) hx hb dX5_forgiven_67 (by decide) ?_
        exact ih v58 v34 (x5 + (1 : Int32)) M34 h H locs ls hP hS (lv_sub hl [4, 5, 6, 2, 1, 0] rfl)
      · rw [if_neg q] at h
        refine lv_iload hx hb dX5_forgiven_45 (lv_at hl 0 rfl) ?_
        refine lv_iload hx hb dX5_forgiven_47 (lv_at hl 5 rfl) ?_
        refine lv_icmp_ge (tgt := 64) hx hb dX5_forgiven_49 (by decide) (fun q => ?_) (fun q => ?_)
        · rw [if_pos q] at h
          refine lv_iinc (k := 6) (v := (x5 + (1 : Int32))) (lv' := [(5, .int (x5 + (1 : Int32))), (6, .int v34), (0, .ref (ad t)), (1, .int x1), (2, .int x2), (3, .int x3), (4, .int x4)]) hx hb dX5_forgiven_64 hl rfl rfl (by decide) rfl (fun ls hl => ?_)
          refine lv_goto (tgt := 24) hx hb dX5_forgiven_67 (by decide) ?_
          exact ih x3 x4 (x5 + (1 : Int32)) M34 h H locs ls hP hS (lv_sub hl [2, 3, 4, 5, 6, 0] rfl)
        · rw [if_neg q] at h
          refine lv_aload_n hx hb dX5_forgiven_52 rfl (lv_at hl 1 rfl) ?_
          refine me_getr (ci := 5) (C := RX5) (T := TX5) (N := 13) hx hb hts in_X5_forgiven_X5 hown hK hP hT.1 rfl 12 (by decide) (hts _ kX5_forgiven_f60) rfl dX5_forgiven_53 ?_
          refine lv_iload hx hb dX5_forgiven_56 (lv_at hl 6 rfl) ?_
          obtain ⟨hi, h⟩ := s_ald_inv h
          refine me_ald hx hb hK hP hT.2.2.2.2.2.2.2.2.2.2 hi dX5_forgiven_58 (fun v58 ev => ?_)
          replace h := h v58 ev
          refine lv_istore_n (lv' := [(3, .int v58), (6, .int v34), (0, .ref (ad t)), (1, .int x1), (2, .int x2), (4, .int x4), (5, .int x5)]) hx hb dX5_forgiven_59 rfl hl (by decide) rfl (fun ls hl => ?_)
          refine lv_iload hx hb dX5_forgiven_60 (lv_at hl 1 rfl) ?_
          refine lv_istore (lv' := [(4, .int v34), (3, .int v58), (6, .int v34), (0, .ref (ad t)), (1, .int x1), (2, .int x2), (5, .int x5)]) hx hb dX5_forgiven_62 hl (by decide) rfl (fun ls hl => ?_)
          refine lv_iinc (k := 6) (v := (x5 + (1 : Int32))) (lv' := [(5, .int (x5 + (1 : Int32))), (4, .int v34), (3, .int v58), (6, .int v34), (0, .ref (ad t)), (1, .int x1), (2, .int x2)]) hx hb dX5_forgiven_64 hl rfl rfl (by decide) rfl (fun ls hl => ?_)
          refine lv_goto (tgt := 24) hx hb dX5_forgiven_67 (by decide) ?_
          exact ih v58 v34 (x5 + (1 : Int32)) M34 h H locs ls hP hS (lv_sub hl [4, 5, 6, 2, 1, 0] rfl)
set_option maxRecDepth 100000 in
set_option maxHeartbeats 4000000 in
theorem w_X5_forgiven {p : Program} {l : Launch} {e : Env} {s : State} {m : MethodId} {args : Array Value} {below : List Frame} {meth : Method} {c : Code} {D : va_G} {cI : ClassId} {ad : Nat → Nat} {L : List CDs} {r : Int32} {M' : Mem} (C0 : me_X p s m args meth c cX5_forgiven 7 (some .int) wsX5_forgiven RX5 D cI ad L) (t : Nat) (hT : is_X5 L t) (x1 : Int32) : ∀  (M : Mem), X5_forgiven t x1 M = some (r, M') → me_W p l e rmX5_forgiven s m args below meth c D cI ad L (some (.int r)) M' 7 0 [(0, .ref (ad t)), (1, .int x1)] [] M := by
  obtain ⟨hx, hb, hr, hml, hown, hts, hlk, hK, hI⟩ := id C0
  intro M h
  unfold X5_forgiven at h
  intro H locs ls hP hS hl
  refine lv_iload_n hx hb dX5_forgiven_0 rfl (lv_at hl 1 rfl) ?_
  obtain ⟨v1, M1, h1, h⟩ := s_call_inv h
  refine me_callSi (As := [.int x1]) (rest := []) ⟨hx, hb, hml, hown, hts⟩ (c_X5_isZeroOrOne h1) (va_cwS 1 hts gX5_forgiven_X5_isZeroOrOne rfl rfl rfl hd_X5_isZeroOrOne.2 ⟨(Nat.le_of_ble_eq_true rfl), (Nat.le_of_ble_eq_true rfl)⟩) hK hI hP hS rfl hl.1 rfl (Nat.le_of_ble_eq_true rfl) dX5_forgiven_1 ⟨Nat.zero_le _, Nat.zero_le _⟩ (fun H locs hP hS => ?_)
  refine lv_if_ne (tgt := 9) hx hb dX5_forgiven_4 (by decide) (fun q => ?_) (fun q => ?_)
  · rw [if_pos q] at h
    refine lv_aload_n hx hb dX5_forgiven_9 rfl (lv_at hl 0 rfl) ?_
    obtain ⟨v10, M10, h1, h⟩ := s_call_inv h
    refine me_callVi (As := []) (rest := []) ⟨hx, hb, hml, hown, hts⟩ (c_X5_listDebts hT h1) (cwV 0 hts gX5_forgiven_X5_listDebts rfl rfl rfl hd_X5_listDebts ⟨(Nat.le_of_ble_eq_true rfl), (Nat.le_of_ble_eq_true rfl)⟩) hK hI hP hS hT.1 rfl rfl hl.1 rfl (Nat.le_of_ble_eq_true rfl) dX5_forgiven_10 ⟨Nat.zero_le _, Nat.zero_le _⟩ (fun H locs hP hS => ?_)
    refine lv_istore_n (lv' := [(2, .int v10), (0, .ref (ad t)), (1, .int x1)]) hx hb dX5_forgiven_13 rfl hl (by decide) rfl (fun ls hl => ?_)
    refine lv_bipush (v := (-4 : Int32)) hx hb dX5_forgiven_14 (by decide) ?_
    refine lv_istore_n (lv' := [(3, .int (-4 : Int32)), (2, .int v10), (0, .ref (ad t)), (1, .int x1)]) hx hb dX5_forgiven_16 rfl hl (by decide) rfl (fun ls hl => ?_)
    refine lv_bipush (v := (-4 : Int32)) hx hb dX5_forgiven_17 (by decide) ?_
    refine lv_istore (lv' := [(4, .int (-4 : Int32)), (3, .int (-4 : Int32)), (2, .int v10), (0, .ref (ad t)), (1, .int x1)]) hx hb dX5_forgiven_19 hl (by decide) rfl (fun ls hl => ?_)
    refine lv_iconst (v := (0 : Int32)) hx hb dX5_forgiven_21 (by decide) ?_
    refine lv_istore (lv' := [(5, .int (0 : Int32)), (4, .int (-4 : Int32)), (3, .int (-4 : Int32)), (2, .int v10), (0, .ref (ad t)), (1, .int x1)]) hx hb dX5_forgiven_22 hl (by decide) rfl (fun ls hl => ?_)
    exact w_X5_forgiven_24 C0 t hT x1 v10 FU (-4 : Int32) (-4 : Int32) (0 : Int32) M10 h H locs ls hP hS (lv_sub hl [4, 5, 3, 2, 1, 0] rfl)
  · rw [if_neg (not_not_intro q)] at h
    refine lv_iconst (v := (-1 : Int32)) hx hb dX5_forgiven_7 (by decide) ?_
    exact me_iret hx hb hr hlk hP hS h dX5_forgiven_8
theorem c_X5_forgiven {l : Launch} {D : va_G} {cI : ClassId} {ad : Nat → Nat} {L : List CDs} {t : Nat} (hT : is_X5 L t) {x1 : Int32} {M M' : Mem} {r : Int32} (h : X5_forgiven t x1 M = some (r, M')) : me_Met l yX5_forgiven wsX5_forgiven rmX5_forgiven D cI ad L [.ref (ad t), .int x1] (some (.int r)) M M' :=
  me_ofW (by decide) rfl (Nat.le_of_ble_eq_true rfl) (fun p e s m below meth c C0 => w_X5_forgiven C0 t hT x1 M h)
abbrev rmX5_owedBehindWrong : Room := { frames := 5, cells := 0, slots := 0, locals := 113 }
theorem kX5_owedBehindWrong_f37 : (Cond.fieldLink RX5 37 "LadderOfBows" "trial" "LLadderOfBows$Town;") ∈ wsX5_owedBehindWrong := List.mem_of_getElem? (i := 1) rfl
theorem kX5_owedBehindWrong_f31 : (Cond.fieldLink RX5 31 "LadderOfBows" "now" "LLadderOfBows$Town;") ∈ wsX5_owedBehindWrong := List.mem_of_getElem? (i := 2) rfl
theorem in_X5_owedBehindWrong_X5 : ∀ w ∈ wsX50, w ∈ wsX5_owedBehindWrong := by decide +kernel
theorem hd_X5_owedBehindWrong : yX5_owedBehindWrong.cls = RX5 ∧ yX5_owedBehindWrong.cls ≠ "java/lang/invoke/MethodHandle" ∧ yX5_owedBehindWrong.cls ≠ "java/lang/invoke/VarHandle" ∧ (parseMethodDescriptor yX5_owedBehindWrong.desc).map (fun d => d.parameters.length) = some 2 := by decide +kernel
set_option maxRecDepth 100000 in
set_option maxHeartbeats 4000000 in
theorem w_X5_owedBehindWrong {p : Program} {l : Launch} {e : Env} {s : State} {m : MethodId} {args : Array Value} {below : List Frame} {meth : Method} {c : Code} {D : va_G} {cI : ClassId} {ad : Nat → Nat} {L : List CDs} {r : Int32} {M' : Mem} (C0 : me_X p s m args meth c cX5_owedBehindWrong 3 (some .int) wsX5_owedBehindWrong RX5 D cI ad L) (t : Nat) (hT : is_X5 L t) (x1 : Int32) (x2 : Int32) : ∀  (M : Mem), X5_owedBehindWrong t x1 x2 M = some (r, M') → me_W p l e rmX5_owedBehindWrong s m args below meth c D cI ad L (some (.int r)) M' 3 0 [(0, .ref (ad t)), (1, .int x1), (2, .int x2)] [] M := by
  obtain ⟨hx, hb, hr, hml, hown, hts, hlk, hK, hI⟩ := id C0
  intro M h
  unfold X5_owedBehindWrong at h
  intro H locs ls hP hS hl
  refine lv_aload_n hx hb dX5_owedBehindWrong_0 rfl (lv_at hl 0 rfl) ?_
  refine me_getr (ci := 5) (C := RX5) (T := TX5) (N := 13) hx hb hts in_X5_owedBehindWrong_X5 hown hK hP hT.1 rfl 4 (by decide) (hts _ kX5_owedBehindWrong_f37) rfl dX5_owedBehindWrong_1 ?_
  refine lv_aload_n hx hb dX5_owedBehindWrong_4 rfl (lv_at hl 0 rfl) ?_
  refine me_getr (ci := 5) (C := RX5) (T := TX5) (N := 13) hx hb hts in_X5_owedBehindWrong_X5 hown hK hP hT.1 rfl 3 (by decide) (hts _ kX5_owedBehindWrong_f31) rfl dX5_owedBehindWrong_5 ?_
  obtain ⟨u8, M8, h1, h⟩ := s_call_inv h
  refine me_callVv (As := [.ref (ad (t + 16))]) (rest := []) ⟨hx, hb, hml, hown, hts⟩ (c_X4_copyFrom hT.2.2.2.2.2.1 hT.2.2.2.2.1 h1) (cwV 1 hts gX5_owedBehindWrong_X4_copyFrom rfl rfl rfl hd_X4_copyFrom ⟨(Nat.le_of_ble_eq_true rfl), (Nat.le_of_ble_eq_true rfl)⟩) hK hI hP hS hT.2.2.2.2.2.1.1 rfl rfl hl.1 rfl (Nat.le_of_ble_eq_true rfl) dX5_owedBehindWrong_8 ⟨Nat.zero_le _, Nat.zero_le _⟩ (fun H locs hP hS => ?_)
  refine lv_aload_n hx hb dX5_owedBehindWrong_11 rfl (lv_at hl 0 rfl) ?_
  refine me_getr (ci := 5) (C := RX5) (T := TX5) (N := 13) hx hb hts in_X5_owedBehindWrong_X5 hown hK hP hT.1 rfl 4 (by decide) (hts _ kX5_owedBehindWrong_f37) rfl dX5_owedBehindWrong_12 ?_
  refine lv_iconst (v := (0 : Int32)) hx hb dX5_owedBehindWrong_15 (by decide) ?_
  refine lv_iload_n hx hb dX5_owedBehindWrong_16 rfl (lv_at hl 1 rfl) ?_
  refine lv_iload_n hx hb dX5_owedBehindWrong_17 rfl (lv_at hl 2 rfl) ?_
  obtain ⟨u18, M18, h1, h⟩ := s_call_inv h
  refine me_callVv (As := [.int (0 : Int32), .int x1, .int x2]) (rest := []) ⟨hx, hb, hml, hown, hts⟩ (c_X4_perform hT.2.2.2.2.2.1 h1) (cwV 3 hts gX5_owedBehindWrong_X4_perform rfl rfl rfl hd_X4_perform ⟨(Nat.le_of_ble_eq_true rfl), (Nat.le_of_ble_eq_true rfl)⟩) hK hI hP hS hT.2.2.2.2.2.1.1 rfl rfl hl.1 rfl (Nat.le_of_ble_eq_true rfl) dX5_owedBehindWrong_18 ⟨Nat.zero_le _, Nat.zero_le _⟩ (fun H locs hP hS => ?_)
  refine lv_aload_n hx hb dX5_owedBehindWrong_21 rfl (lv_at hl 0 rfl) ?_
  refine me_getr (ci := 5) (C := RX5) (T := TX5) (N := 13) hx hb hts in_X5_owedBehindWrong_X5 hown hK hP hT.1 rfl 4 (by decide) (hts _ kX5_owedBehindWrong_f37) rfl dX5_owedBehindWrong_22 ?_
  obtain ⟨v25, M25, h1, h⟩ := s_call_inv h
  refine me_callVi (As := []) (rest := []) ⟨hx, hb, hml, hown, hts⟩ (c_X4_makePeace hT.2.2.2.2.2.1 h1) (cwV 0 hts gX5_owedBehindWrong_X4_makePeace rfl rfl rfl hd_X4_makePeace ⟨(Nat.le_of_ble_eq_true rfl), (Nat.le_of_ble_eq_true rfl)⟩) hK hI hP hS hT.2.2.2.2.2.1.1 rfl rfl hl.1 rfl (Nat.le_of_ble_eq_true rfl) dX5_owedBehindWrong_25 ⟨Nat.zero_le _, Nat.zero_le _⟩ (fun H locs hP hS => ?_)
  refine lv_pop hx hb dX5_owedBehindWrong_28 rfl ?_
  refine lv_aload_n hx hb dX5_owedBehindWrong_29 rfl (lv_at hl 0 rfl) ?_
  refine me_getr (ci := 5) (C := RX5) (T := TX5) (N := 13) hx hb hts in_X5_owedBehindWrong_X5 hown hK hP hT.1 rfl 4 (by decide) (hts _ kX5_owedBehindWrong_f37) rfl dX5_owedBehindWrong_30 ?_
  obtain ⟨v33, M33, h1, h⟩ := s_call_inv h
  refine me_callVi (As := []) (rest := []) ⟨hx, hb, hml, hown, hts⟩ (c_X4_allOwed hT.2.2.2.2.2.1 h1) (cwV 0 hts gX5_owedBehindWrong_X4_allOwed rfl rfl rfl hd_X4_allOwed ⟨(Nat.le_of_ble_eq_true rfl), (Nat.le_of_ble_eq_true rfl)⟩) hK hI hP hS hT.2.2.2.2.2.1.1 rfl rfl hl.1 rfl (Nat.le_of_ble_eq_true rfl) dX5_owedBehindWrong_33 ⟨Nat.zero_le _, Nat.zero_le _⟩ (fun H locs hP hS => ?_)
  exact me_iret hx hb hr hlk hP hS h dX5_owedBehindWrong_36
theorem c_X5_owedBehindWrong {l : Launch} {D : va_G} {cI : ClassId} {ad : Nat → Nat} {L : List CDs} {t : Nat} (hT : is_X5 L t) {x1 : Int32} {x2 : Int32} {M M' : Mem} {r : Int32} (h : X5_owedBehindWrong t x1 x2 M = some (r, M')) : me_Met l yX5_owedBehindWrong wsX5_owedBehindWrong rmX5_owedBehindWrong D cI ad L [.ref (ad t), .int x1, .int x2] (some (.int r)) M M' :=
  me_ofW (by decide) rfl (Nat.le_of_ble_eq_true rfl) (fun p e s m below meth c C0 => w_X5_owedBehindWrong C0 t hT x1 x2 M h)
abbrev rmX5_mustNot : Room := { frames := 6, cells := 0, slots := 0, locals := 135 }
theorem kX5_mustNot_f31 : (Cond.fieldLink RX5 31 "LadderOfBows" "now" "LLadderOfBows$Town;") ∈ wsX5_mustNot := List.mem_of_getElem? (i := 1) rfl
theorem in_X5_mustNot_X5 : ∀ w ∈ wsX50, w ∈ wsX5_mustNot := by decide +kernel
theorem hd_X5_mustNot : yX5_mustNot.cls = RX5 ∧ yX5_mustNot.cls ≠ "java/lang/invoke/MethodHandle" ∧ yX5_mustNot.cls ≠ "java/lang/invoke/VarHandle" ∧ (parseMethodDescriptor yX5_mustNot.desc).map (fun d => d.parameters.length) = some 1 := by decide +kernel
set_option maxRecDepth 100000 in
set_option maxHeartbeats 4000000 in
theorem w_X5_mustNot_36 {p : Program} {l : Launch} {e : Env} {s : State} {m : MethodId} {args : Array Value} {below : List Frame} {meth : Method} {c : Code} {D : va_G} {cI : ClassId} {ad : Nat → Nat} {L : List CDs} {r : Int32} {M' : Mem} (C0 : me_X p s m args meth c cX5_mustNot 5 (some .int) wsX5_mustNot RX5 D cI ad L) (t : Nat) (hT : is_X5 L t) (x1 : Int32) (x2 : Int32) : ∀ (n : Nat) (x3 : Int32) (x4 : Int32) (M : Mem), X5_mustNot_36 t x1 x2 n x3 x4 M = some (r, M') → me_W p l e rmX5_mustNot s m args below meth c D cI ad L (some (.int r)) M' 5 36 [(0, .ref (ad t)), (1, .int x1), (2, .int x2), (3, .int x3), (4, .int x4)] [] M := by
  obtain ⟨hx, hb, hr, hml, hown, hts, hlk, hK, hI⟩ := id C0
  intro n
  induction n with
  | zero =>
    intro x3 x4 M h
    rw [X5_mustNot_36] at h
    cases h
  | succ n ih =>
    intro x3 x4 M h
    rw [X5_mustNot_36] at h
    intro H locs ls hP hS hl
    refine lv_iload hx hb dX5_mustNot_36 (lv_at hl 4 rfl) ?_
    refine lv_aload_n hx hb dX5_mustNot_38 rfl (lv_at hl 0 rfl) ?_
    refine me_getr (ci := 5) (C := RX5) (T := TX5) (N := 13) hx hb hts in_X5_mustNot_X5 hown hK hP hT.1 rfl 3 (by decide) (hts _ kX5_mustNot_f31) rfl dX5_mustNot_39 ?_
    obtain ⟨v42, M42, h1, h⟩ := s_call_inv h
    refine me_callVi (As := []) (rest := [.int x4]) ⟨hx, hb, hml, hown, hts⟩ (c_X4_persons hT.2.2.2.2.1 h1) (cwV 0 hts gX5_mustNot_X4_persons rfl rfl rfl hd_X4_persons ⟨(Nat.le_of_ble_eq_true rfl), (Nat.le_of_ble_eq_true rfl)⟩) hK hI hP hS hT.2.2.2.2.1.1 rfl rfl hl.1 rfl (Nat.le_of_ble_eq_true rfl) dX5_mustNot_42 ⟨Nat.zero_le _, Nat.zero_le _⟩ (fun H locs hP hS => ?_)
    refine lv_icmp_ge (tgt := 86) hx hb dX5_mustNot_45 (by decide) (fun q => ?_) (fun q => ?_)
    · rw [if_pos q] at h
      refine lv_iload_n hx hb dX5_mustNot_86 rfl (lv_at hl 3 rfl) ?_
      exact me_iret hx hb hr hlk hP hS h dX5_mustNot_87
    · rw [if_neg q] at h
      refine lv_aload_n hx hb dX5_mustNot_48 rfl (lv_at hl 0 rfl) ?_
      refine me_getr (ci := 5) (C := RX5) (T := TX5) (N := 13) hx hb hts in_X5_mustNot_X5 hown hK hP hT.1 rfl 3 (by decide) (hts _ kX5_mustNot_f31) rfl dX5_mustNot_49 ?_
      refine lv_iconst (v := (0 : Int32)) hx hb dX5_mustNot_52 (by decide) ?_
      refine lv_iload_n hx hb dX5_mustNot_53 rfl (lv_at hl 1 rfl) ?_
      refine lv_iload hx hb dX5_mustNot_54 (lv_at hl 4 rfl) ?_
      obtain ⟨v56, M56, h1, h⟩ := s_call_inv h
      refine me_callVi (As := [.int (0 : Int32), .int x1, .int x4]) (rest := []) ⟨hx, hb, hml, hown, hts⟩ (c_X4_canBeDone hT.2.2.2.2.1 h1) (cwV 3 hts gX5_mustNot_X4_canBeDone rfl rfl rfl hd_X4_canBeDone ⟨(Nat.le_of_ble_eq_true rfl), (Nat.le_of_ble_eq_true rfl)⟩) hK hI hP hS hT.2.2.2.2.1.1 rfl rfl hl.1 rfl (Nat.le_of_ble_eq_true rfl) dX5_mustNot_56 ⟨Nat.zero_le _, Nat.zero_le _⟩ (fun H locs hP hS => ?_)
      refine lv_if_eq (tgt := 80) hx hb dX5_mustNot_59 (by decide) (fun q => ?_) (fun q => ?_)
      · rw [if_pos q] at h
        refine lv_iinc (k := 4) (v := (x4 + (1 : Int32))) (lv' := [(4, .int (x4 + (1 : Int32))), (0, .ref (ad t)), (1, .int x1), (2, .int x2), (3, .int x3)]) hx hb dX5_mustNot_80 hl rfl rfl (by decide) rfl (fun ls hl => ?_)
        refine lv_goto (tgt := 36) hx hb dX5_mustNot_83 (by decide) ?_
        exact ih x3 (x4 + (1 : Int32)) M56 h H locs ls hP hS (lv_sub hl [1, 2, 3, 4, 0] rfl)
      · rw [if_neg q] at h
        refine lv_aload_n hx hb dX5_mustNot_62 rfl (lv_at hl 0 rfl) ?_
        refine lv_iload_n hx hb dX5_mustNot_63 rfl (lv_at hl 1 rfl) ?_
        refine lv_iload hx hb dX5_mustNot_64 (lv_at hl 4 rfl) ?_
        obtain ⟨v66, M66, h1, h⟩ := s_call_inv h
        refine me_callVi (As := [.int x1, .int x4]) (rest := []) ⟨hx, hb, hml, hown, hts⟩ (c_X5_owedBehindWrong hT h1) (cwV 2 hts gX5_mustNot_X5_owedBehindWrong rfl rfl rfl hd_X5_owedBehindWrong ⟨(Nat.le_of_ble_eq_true rfl), (Nat.le_of_ble_eq_true rfl)⟩) hK hI hP hS hT.1 rfl rfl hl.1 rfl (Nat.le_of_ble_eq_true rfl) dX5_mustNot_66 ⟨Nat.zero_le _, Nat.zero_le _⟩ (fun H locs hP hS => ?_)
        refine lv_iload_n hx hb dX5_mustNot_69 rfl (lv_at hl 2 rfl) ?_
        refine lv_icmp_le (tgt := 80) hx hb dX5_mustNot_70 (by decide) (fun q => ?_) (fun q => ?_)
        · rw [if_pos q] at h
          refine lv_iinc (k := 4) (v := (x4 + (1 : Int32))) (lv' := [(4, .int (x4 + (1 : Int32))), (0, .ref (ad t)), (1, .int x1), (2, .int x2), (3, .int x3)]) hx hb dX5_mustNot_80 hl rfl rfl (by decide) rfl (fun ls hl => ?_)
          refine lv_goto (tgt := 36) hx hb dX5_mustNot_83 (by decide) ?_
          exact ih x3 (x4 + (1 : Int32)) M66 h H locs ls hP hS (lv_sub hl [1, 2, 3, 4, 0] rfl)
        · rw [if_neg q] at h
          refine lv_iload_n hx hb dX5_mustNot_73 rfl (lv_at hl 3 rfl) ?_
          refine lv_iconst (v := (1 : Int32)) hx hb dX5_mustNot_74 (by decide) ?_
          refine lv_iload hx hb dX5_mustNot_75 (lv_at hl 4 rfl) ?_
          refine lv_ishl hx hb dX5_mustNot_77 ?_
          refine lv_ior hx hb dX5_mustNot_78 ?_
          refine lv_topi (fun x3_79 ev => ?_)
          replace h := s_let_inv h x3_79 ev
          refine lv_istore_n (lv' := [(3, .int x3_79), (0, .ref (ad t)), (1, .int x1), (2, .int x2), (4, .int x4)]) hx hb dX5_mustNot_79 rfl hl (by decide) rfl (fun ls hl => ?_)
          refine lv_iinc (k := 4) (v := (x4 + (1 : Int32))) (lv' := [(4, .int (x4 + (1 : Int32))), (3, .int x3_79), (0, .ref (ad t)), (1, .int x1), (2, .int x2)]) hx hb dX5_mustNot_80 hl rfl rfl (by decide) rfl (fun ls hl => ?_)
          refine lv_goto (tgt := 36) hx hb dX5_mustNot_83 (by decide) ?_
          exact ih x3_79 (x4 + (1 : Int32)) M66 h H locs ls hP hS (lv_sub hl [2, 3, 4, 1, 0] rfl)
set_option maxRecDepth 100000 in
set_option maxHeartbeats 4000000 in
theorem w_X5_mustNot {p : Program} {l : Launch} {e : Env} {s : State} {m : MethodId} {args : Array Value} {below : List Frame} {meth : Method} {c : Code} {D : va_G} {cI : ClassId} {ad : Nat → Nat} {L : List CDs} {r : Int32} {M' : Mem} (C0 : me_X p s m args meth c cX5_mustNot 5 (some .int) wsX5_mustNot RX5 D cI ad L) (t : Nat) (hT : is_X5 L t) (x1 : Int32) : ∀  (M : Mem), X5_mustNot t x1 M = some (r, M') → me_W p l e rmX5_mustNot s m args below meth c D cI ad L (some (.int r)) M' 5 0 [(0, .ref (ad t)), (1, .int x1)] [] M := by
  obtain ⟨hx, hb, hr, hml, hown, hts, hlk, hK, hI⟩ := id C0
  intro M h
  unfold X5_mustNot at h
  intro H locs ls hP hS hl
  refine lv_aload_n hx hb dX5_mustNot_0 rfl (lv_at hl 0 rfl) ?_
  refine lv_iload_n hx hb dX5_mustNot_1 rfl (lv_at hl 1 rfl) ?_
  obtain ⟨v2, M2, h1, h⟩ := s_call_inv h
  refine me_callVi (As := [.int x1]) (rest := []) ⟨hx, hb, hml, hown, hts⟩ (c_X5_isPerson hT h1) (cwV 1 hts gX5_mustNot_X5_isPerson rfl rfl rfl hd_X5_isPerson ⟨(Nat.le_of_ble_eq_true rfl), (Nat.le_of_ble_eq_true rfl)⟩) hK hI hP hS hT.1 rfl rfl hl.1 rfl (Nat.le_of_ble_eq_true rfl) dX5_mustNot_2 ⟨Nat.zero_le _, Nat.zero_le _⟩ (fun H locs hP hS => ?_)
  refine lv_if_ne (tgt := 10) hx hb dX5_mustNot_5 (by decide) (fun q => ?_) (fun q => ?_)
  · rw [if_pos q] at h
    refine lv_aload_n hx hb dX5_mustNot_10 rfl (lv_at hl 0 rfl) ?_
    refine me_getr (ci := 5) (C := RX5) (T := TX5) (N := 13) hx hb hts in_X5_mustNot_X5 hown hK hP hT.1 rfl 3 (by decide) (hts _ kX5_mustNot_f31) rfl dX5_mustNot_11 ?_
    refine lv_iload_n hx hb dX5_mustNot_14 rfl (lv_at hl 1 rfl) ?_
    obtain ⟨v15, M15, h1, h⟩ := s_call_inv h
    refine me_callVi (As := [.int x1]) (rest := []) ⟨hx, hb, hml, hown, hts⟩ (c_X4_isAlive hT.2.2.2.2.1 h1) (cwV 1 hts gX5_mustNot_X4_isAlive rfl rfl rfl hd_X4_isAlive ⟨(Nat.le_of_ble_eq_true rfl), (Nat.le_of_ble_eq_true rfl)⟩) hK hI hP hS hT.2.2.2.2.1.1 rfl rfl hl.1 rfl (Nat.le_of_ble_eq_true rfl) dX5_mustNot_15 ⟨Nat.zero_le _, Nat.zero_le _⟩ (fun H locs hP hS => ?_)
    refine lv_if_ne (tgt := 24) hx hb dX5_mustNot_18 (by decide) (fun q => ?_) (fun q => ?_)
    · rw [if_pos q] at h
      refine lv_aload_n hx hb dX5_mustNot_24 rfl (lv_at hl 0 rfl) ?_
      refine lv_iconst (v := (-1 : Int32)) hx hb dX5_mustNot_25 (by decide) ?_
      refine lv_iconst (v := (-1 : Int32)) hx hb dX5_mustNot_26 (by decide) ?_
      obtain ⟨v27, M27, h1, h⟩ := s_call_inv h
      refine me_callVi (As := [.int (-1 : Int32), .int (-1 : Int32)]) (rest := []) ⟨hx, hb, hml, hown, hts⟩ (c_X5_owedWithout hT h1) (cwV 2 hts gX5_mustNot_X5_owedWithout rfl rfl rfl hd_X5_owedWithout ⟨(Nat.le_of_ble_eq_true rfl), (Nat.le_of_ble_eq_true rfl)⟩) hK hI hP hS hT.1 rfl rfl hl.1 rfl (Nat.le_of_ble_eq_true rfl) dX5_mustNot_27 ⟨Nat.zero_le _, Nat.zero_le _⟩ (fun H locs hP hS => ?_)
      refine lv_istore_n (lv' := [(2, .int v27), (0, .ref (ad t)), (1, .int x1)]) hx hb dX5_mustNot_30 rfl hl (by decide) rfl (fun ls hl => ?_)
      refine lv_iconst (v := (0 : Int32)) hx hb dX5_mustNot_31 (by decide) ?_
      refine lv_istore_n (lv' := [(3, .int (0 : Int32)), (2, .int v27), (0, .ref (ad t)), (1, .int x1)]) hx hb dX5_mustNot_32 rfl hl (by decide) rfl (fun ls hl => ?_)
      refine lv_iconst (v := (0 : Int32)) hx hb dX5_mustNot_33 (by decide) ?_
      refine lv_istore (lv' := [(4, .int (0 : Int32)), (3, .int (0 : Int32)), (2, .int v27), (0, .ref (ad t)), (1, .int x1)]) hx hb dX5_mustNot_34 hl (by decide) rfl (fun ls hl => ?_)
      exact w_X5_mustNot_36 C0 t hT x1 v27 FU (0 : Int32) (0 : Int32) M27 h H locs ls hP hS (lv_sub hl [3, 4, 2, 1, 0] rfl)
    · rw [if_neg (not_not_intro q)] at h
      refine lv_bipush (v := (-2 : Int32)) hx hb dX5_mustNot_21 (by decide) ?_
      exact me_iret hx hb hr hlk hP hS h dX5_mustNot_23
  · rw [if_neg (not_not_intro q)] at h
    refine lv_iconst (v := (-1 : Int32)) hx hb dX5_mustNot_8 (by decide) ?_
    exact me_iret hx hb hr hlk hP hS h dX5_mustNot_9
theorem c_X5_mustNot {l : Launch} {D : va_G} {cI : ClassId} {ad : Nat → Nat} {L : List CDs} {t : Nat} (hT : is_X5 L t) {x1 : Int32} {M M' : Mem} {r : Int32} (h : X5_mustNot t x1 M = some (r, M')) : me_Met l yX5_mustNot wsX5_mustNot rmX5_mustNot D cI ad L [.ref (ad t), .int x1] (some (.int r)) M M' :=
  me_ofW (by decide) rfl (Nat.le_of_ble_eq_true rfl) (fun p e s m below meth c C0 => w_X5_mustNot C0 t hT x1 M h)
abbrev rmX5_began : Room := { frames := 6, cells := 0, slots := 0, locals := 139 }
theorem kX5_began_f43 : (Cond.fieldLink RX5 43 "LadderOfBows" "acts" "LLadderOfBows$Acts;") ∈ wsX5_began := List.mem_of_getElem? (i := 1) rfl
theorem kX5_began_f37 : (Cond.fieldLink RX5 37 "LadderOfBows" "trial" "LLadderOfBows$Town;") ∈ wsX5_began := List.mem_of_getElem? (i := 2) rfl
theorem in_X5_began_X5 : ∀ w ∈ wsX50, w ∈ wsX5_began := by decide +kernel
theorem hd_X5_began : yX5_began.cls = RX5 ∧ yX5_began.cls ≠ "java/lang/invoke/MethodHandle" ∧ yX5_began.cls ≠ "java/lang/invoke/VarHandle" ∧ (parseMethodDescriptor yX5_began.desc).map (fun d => d.parameters.length) = some 0 := by decide +kernel
set_option maxRecDepth 100000 in
set_option maxHeartbeats 4000000 in
theorem w_X5_began_9 {p : Program} {l : Launch} {e : Env} {s : State} {m : MethodId} {args : Array Value} {below : List Frame} {meth : Method} {c : Code} {D : va_G} {cI : ClassId} {ad : Nat → Nat} {L : List CDs} {r : Int32} {M' : Mem} (C0 : me_X p s m args meth c cX5_began 3 (some .int) wsX5_began RX5 D cI ad L) (t : Nat) (hT : is_X5 L t) (x1 : Int32) : ∀ (n : Nat) (x2 : Int32) (M : Mem), X5_began_9 t x1 n x2 M = some (r, M') → me_W p l e rmX5_began s m args below meth c D cI ad L (some (.int r)) M' 3 9 [(0, .ref (ad t)), (1, .int x1), (2, .int x2)] [] M := by
  obtain ⟨hx, hb, hr, hml, hown, hts, hlk, hK, hI⟩ := id C0
  intro n
  induction n with
  | zero =>
    intro x2 M h
    rw [X5_began_9] at h
    cases h
  | succ n ih =>
    intro x2 M h
    rw [X5_began_9] at h
    intro H locs ls hP hS hl
    refine lv_iload_n hx hb dX5_began_9 rfl (lv_at hl 2 rfl) ?_
    refine lv_aload_n hx hb dX5_began_10 rfl (lv_at hl 0 rfl) ?_
    refine me_getr (ci := 5) (C := RX5) (T := TX5) (N := 13) hx hb hts in_X5_began_X5 hown hK hP hT.1 rfl 5 (by decide) (hts _ kX5_began_f43) rfl dX5_began_11 ?_
    obtain ⟨v14, M14, h1, h⟩ := s_call_inv h
    refine me_callVi (As := []) (rest := [.int x2]) ⟨hx, hb, hml, hown, hts⟩ (c_X0_size hT.2.2.2.2.2.2.1 h1) (cwV 0 hts gX5_began_X0_size rfl rfl rfl hd_X0_size ⟨(Nat.le_of_ble_eq_true rfl), (Nat.le_of_ble_eq_true rfl)⟩) hK hI hP hS hT.2.2.2.2.2.2.1.1 rfl rfl hl.1 rfl (Nat.le_of_ble_eq_true rfl) dX5_began_14 ⟨Nat.zero_le _, Nat.zero_le _⟩ (fun H locs hP hS => ?_)
    refine lv_icmp_ge (tgt := 56) hx hb dX5_began_17 (by decide) (fun q => ?_) (fun q => ?_)
    · rw [if_pos q] at h
      refine lv_bipush (v := (-4 : Int32)) hx hb dX5_began_56 (by decide) ?_
      exact me_iret hx hb hr hlk hP hS h dX5_began_58
    · rw [if_neg q] at h
      refine lv_aload_n hx hb dX5_began_20 rfl (lv_at hl 0 rfl) ?_
      refine lv_aload_n hx hb dX5_began_21 rfl (lv_at hl 0 rfl) ?_
      refine me_getr (ci := 5) (C := RX5) (T := TX5) (N := 13) hx hb hts in_X5_began_X5 hown hK hP hT.1 rfl 4 (by decide) (hts _ kX5_began_f37) rfl dX5_began_22 ?_
      refine lv_iload_n hx hb dX5_began_25 rfl (lv_at hl 2 rfl) ?_
      obtain ⟨u26, M26, h1, h⟩ := s_call_inv h
      refine me_callVv (As := [.ref (ad (t + 23)), .int x2]) (rest := []) ⟨hx, hb, hml, hown, hts⟩ (c_X5_doAgain hT hT.2.2.2.2.2.1 h1) (cwV 2 hts gX5_began_X5_doAgain rfl rfl rfl hd_X5_doAgain ⟨(Nat.le_of_ble_eq_true rfl), (Nat.le_of_ble_eq_true rfl)⟩) hK hI hP hS hT.1 rfl rfl hl.1 rfl (Nat.le_of_ble_eq_true rfl) dX5_began_26 ⟨Nat.zero_le _, Nat.zero_le _⟩ (fun H locs hP hS => ?_)
      refine lv_aload_n hx hb dX5_began_29 rfl (lv_at hl 0 rfl) ?_
      refine me_getr (ci := 5) (C := RX5) (T := TX5) (N := 13) hx hb hts in_X5_began_X5 hown hK hP hT.1 rfl 4 (by decide) (hts _ kX5_began_f37) rfl dX5_began_30 ?_
      obtain ⟨v33, M33, h1, h⟩ := s_call_inv h
      refine me_callVi (As := []) (rest := []) ⟨hx, hb, hml, hown, hts⟩ (c_X4_makePeace hT.2.2.2.2.2.1 h1) (cwV 0 hts gX5_began_X4_makePeace rfl rfl rfl hd_X4_makePeace ⟨(Nat.le_of_ble_eq_true rfl), (Nat.le_of_ble_eq_true rfl)⟩) hK hI hP hS hT.2.2.2.2.2.1.1 rfl rfl hl.1 rfl (Nat.le_of_ble_eq_true rfl) dX5_began_33 ⟨Nat.zero_le _, Nat.zero_le _⟩ (fun H locs hP hS => ?_)
      refine lv_pop hx hb dX5_began_36 rfl ?_
      refine lv_aload_n hx hb dX5_began_37 rfl (lv_at hl 0 rfl) ?_
      refine me_getr (ci := 5) (C := RX5) (T := TX5) (N := 13) hx hb hts in_X5_began_X5 hown hK hP hT.1 rfl 4 (by decide) (hts _ kX5_began_f37) rfl dX5_began_38 ?_
      obtain ⟨v41, M41, h1, h⟩ := s_call_inv h
      refine me_callVi (As := []) (rest := []) ⟨hx, hb, hml, hown, hts⟩ (c_X4_allOwed hT.2.2.2.2.2.1 h1) (cwV 0 hts gX5_began_X4_allOwed rfl rfl rfl hd_X4_allOwed ⟨(Nat.le_of_ble_eq_true rfl), (Nat.le_of_ble_eq_true rfl)⟩) hK hI hP hS hT.2.2.2.2.2.1.1 rfl rfl hl.1 rfl (Nat.le_of_ble_eq_true rfl) dX5_began_41 ⟨Nat.zero_le _, Nat.zero_le _⟩ (fun H locs hP hS => ?_)
      refine lv_iload_n hx hb dX5_began_44 rfl (lv_at hl 1 rfl) ?_
      refine lv_icmp_ge (tgt := 50) hx hb dX5_began_45 (by decide) (fun q => ?_) (fun q => ?_)
      · rw [if_pos q] at h
        refine lv_iinc (k := 2) (v := (x2 + (1 : Int32))) (lv' := [(2, .int (x2 + (1 : Int32))), (0, .ref (ad t)), (1, .int x1)]) hx hb dX5_began_50 hl rfl rfl (by decide) rfl (fun ls hl => ?_)
        refine lv_goto (tgt := 9) hx hb dX5_began_53 (by decide) ?_
        exact ih (x2 + (1 : Int32)) M41 h H locs ls hP hS (lv_sub hl [1, 2, 0] rfl)
      · rw [if_neg q] at h
        refine lv_iload_n hx hb dX5_began_48 rfl (lv_at hl 2 rfl) ?_
        exact me_iret hx hb hr hlk hP hS h dX5_began_49
set_option maxRecDepth 100000 in
set_option maxHeartbeats 4000000 in
theorem w_X5_began {p : Program} {l : Launch} {e : Env} {s : State} {m : MethodId} {args : Array Value} {below : List Frame} {meth : Method} {c : Code} {D : va_G} {cI : ClassId} {ad : Nat → Nat} {L : List CDs} {r : Int32} {M' : Mem} (C0 : me_X p s m args meth c cX5_began 3 (some .int) wsX5_began RX5 D cI ad L) (t : Nat) (hT : is_X5 L t) : ∀  (M : Mem), X5_began t M = some (r, M') → me_W p l e rmX5_began s m args below meth c D cI ad L (some (.int r)) M' 3 0 [(0, .ref (ad t))] [] M := by
  obtain ⟨hx, hb, hr, hml, hown, hts, hlk, hK, hI⟩ := id C0
  intro M h
  unfold X5_began at h
  intro H locs ls hP hS hl
  refine lv_aload_n hx hb dX5_began_0 rfl (lv_at hl 0 rfl) ?_
  refine lv_iconst (v := (-1 : Int32)) hx hb dX5_began_1 (by decide) ?_
  refine lv_iconst (v := (-1 : Int32)) hx hb dX5_began_2 (by decide) ?_
  obtain ⟨v3, M3, h1, h⟩ := s_call_inv h
  refine me_callVi (As := [.int (-1 : Int32), .int (-1 : Int32)]) (rest := []) ⟨hx, hb, hml, hown, hts⟩ (c_X5_owedWithout hT h1) (cwV 2 hts gX5_began_X5_owedWithout rfl rfl rfl hd_X5_owedWithout ⟨(Nat.le_of_ble_eq_true rfl), (Nat.le_of_ble_eq_true rfl)⟩) hK hI hP hS hT.1 rfl rfl hl.1 rfl (Nat.le_of_ble_eq_true rfl) dX5_began_3 ⟨Nat.zero_le _, Nat.zero_le _⟩ (fun H locs hP hS => ?_)
  refine lv_istore_n (lv' := [(1, .int v3), (0, .ref (ad t))]) hx hb dX5_began_6 rfl hl (by decide) rfl (fun ls hl => ?_)
  refine lv_iconst (v := (0 : Int32)) hx hb dX5_began_7 (by decide) ?_
  refine lv_istore_n (lv' := [(2, .int (0 : Int32)), (1, .int v3), (0, .ref (ad t))]) hx hb dX5_began_8 rfl hl (by decide) rfl (fun ls hl => ?_)
  exact w_X5_began_9 C0 t hT v3 FU (0 : Int32) M3 h H locs ls hP hS (lv_sub hl [2, 1, 0] rfl)
theorem c_X5_began {l : Launch} {D : va_G} {cI : ClassId} {ad : Nat → Nat} {L : List CDs} {t : Nat} (hT : is_X5 L t)  {M M' : Mem} {r : Int32} (h : X5_began t M = some (r, M')) : me_Met l yX5_began wsX5_began rmX5_began D cI ad L [.ref (ad t)] (some (.int r)) M M' :=
  me_ofW (by decide) rfl (Nat.le_of_ble_eq_true rfl) (fun p e s m below meth c C0 => w_X5_began C0 t hT M h)
abbrev rmX5_word : Room := { frames := 3, cells := 0, slots := 0, locals := 67 }
theorem kX5_word_f31 : (Cond.fieldLink RX5 31 "LadderOfBows" "now" "LLadderOfBows$Town;") ∈ wsX5_word := List.mem_of_getElem? (i := 1) rfl
theorem kX5_word_f56 : (Cond.fieldLink RX5 56 "LadderOfBows" "links" "LLadderOfBows$Links;") ∈ wsX5_word := List.mem_of_getElem? (i := 2) rfl
theorem in_X5_word_X5 : ∀ w ∈ wsX50, w ∈ wsX5_word := by decide +kernel
theorem hd_X5_word : yX5_word.cls = RX5 ∧ yX5_word.cls ≠ "java/lang/invoke/MethodHandle" ∧ yX5_word.cls ≠ "java/lang/invoke/VarHandle" ∧ (parseMethodDescriptor yX5_word.desc).map (fun d => d.parameters.length) = some 2 := by decide +kernel
set_option maxRecDepth 100000 in
set_option maxHeartbeats 4000000 in
theorem w_X5_word {p : Program} {l : Launch} {e : Env} {s : State} {m : MethodId} {args : Array Value} {below : List Frame} {meth : Method} {c : Code} {D : va_G} {cI : ClassId} {ad : Nat → Nat} {L : List CDs} {r : Int32} {M' : Mem} (C0 : me_X p s m args meth c cX5_word 3 (some .int) wsX5_word RX5 D cI ad L) (t : Nat) (hT : is_X5 L t) (x1 : Int32) (x2 : Int32) : ∀  (M : Mem), X5_word t x1 x2 M = some (r, M') → me_W p l e rmX5_word s m args below meth c D cI ad L (some (.int r)) M' 3 0 [(0, .ref (ad t)), (1, .int x1), (2, .int x2)] [] M := by
  obtain ⟨hx, hb, hr, hml, hown, hts, hlk, hK, hI⟩ := id C0
  intro M h
  unfold X5_word at h
  intro H locs ls hP hS hl
  refine lv_aload_n hx hb dX5_word_0 rfl (lv_at hl 0 rfl) ?_
  refine lv_iload_n hx hb dX5_word_1 rfl (lv_at hl 1 rfl) ?_
  obtain ⟨v2, M2, h1, h⟩ := s_call_inv h
  refine me_callVi (As := [.int x1]) (rest := []) ⟨hx, hb, hml, hown, hts⟩ (c_X5_isPerson hT h1) (cwV 1 hts gX5_word_X5_isPerson rfl rfl rfl hd_X5_isPerson ⟨(Nat.le_of_ble_eq_true rfl), (Nat.le_of_ble_eq_true rfl)⟩) hK hI hP hS hT.1 rfl rfl hl.1 rfl (Nat.le_of_ble_eq_true rfl) dX5_word_2 ⟨Nat.zero_le _, Nat.zero_le _⟩ (fun H locs hP hS => ?_)
  refine lv_if_eq (tgt := 16) hx hb dX5_word_5 (by decide) (fun q => ?_) (fun q => ?_)
  · rw [if_pos q] at h
    refine lv_iconst (v := (-1 : Int32)) hx hb dX5_word_16 (by decide) ?_
    exact me_iret hx hb hr hlk hP hS h dX5_word_17
  · rw [if_neg q] at h
    refine lv_aload_n hx hb dX5_word_8 rfl (lv_at hl 0 rfl) ?_
    refine lv_iload_n hx hb dX5_word_9 rfl (lv_at hl 2 rfl) ?_
    obtain ⟨v10, M10, h1, h⟩ := s_call_inv h
    refine me_callVi (As := [.int x2]) (rest := []) ⟨hx, hb, hml, hown, hts⟩ (c_X5_isPerson hT h1) (cwV 1 hts gX5_word_X5_isPerson rfl rfl rfl hd_X5_isPerson ⟨(Nat.le_of_ble_eq_true rfl), (Nat.le_of_ble_eq_true rfl)⟩) hK hI hP hS hT.1 rfl rfl hl.1 rfl (Nat.le_of_ble_eq_true rfl) dX5_word_10 ⟨Nat.zero_le _, Nat.zero_le _⟩ (fun H locs hP hS => ?_)
    refine lv_if_ne (tgt := 18) hx hb dX5_word_13 (by decide) (fun q => ?_) (fun q => ?_)
    · rw [if_pos q] at h
      refine lv_aload_n hx hb dX5_word_18 rfl (lv_at hl 0 rfl) ?_
      refine me_getr (ci := 5) (C := RX5) (T := TX5) (N := 13) hx hb hts in_X5_word_X5 hown hK hP hT.1 rfl 3 (by decide) (hts _ kX5_word_f31) rfl dX5_word_19 ?_
      refine lv_iload_n hx hb dX5_word_22 rfl (lv_at hl 1 rfl) ?_
      obtain ⟨v23, M23, h1, h⟩ := s_call_inv h
      refine me_callVi (As := [.int x1]) (rest := []) ⟨hx, hb, hml, hown, hts⟩ (c_X4_isAlive hT.2.2.2.2.1 h1) (cwV 1 hts gX5_word_X4_isAlive rfl rfl rfl hd_X4_isAlive ⟨(Nat.le_of_ble_eq_true rfl), (Nat.le_of_ble_eq_true rfl)⟩) hK hI hP hS hT.2.2.2.2.1.1 rfl rfl hl.1 rfl (Nat.le_of_ble_eq_true rfl) dX5_word_23 ⟨Nat.zero_le _, Nat.zero_le _⟩ (fun H locs hP hS => ?_)
      refine lv_if_eq (tgt := 40) hx hb dX5_word_26 (by decide) (fun q => ?_) (fun q => ?_)
      · rw [if_pos q] at h
        refine lv_bipush (v := (-4 : Int32)) hx hb dX5_word_40 (by decide) ?_
        exact me_iret hx hb hr hlk hP hS h dX5_word_42
      · rw [if_neg q] at h
        refine lv_aload_n hx hb dX5_word_29 rfl (lv_at hl 0 rfl) ?_
        refine me_getr (ci := 5) (C := RX5) (T := TX5) (N := 13) hx hb hts in_X5_word_X5 hown hK hP hT.1 rfl 3 (by decide) (hts _ kX5_word_f31) rfl dX5_word_30 ?_
        refine lv_iload_n hx hb dX5_word_33 rfl (lv_at hl 2 rfl) ?_
        obtain ⟨v34, M34, h1, h⟩ := s_call_inv h
        refine me_callVi (As := [.int x2]) (rest := []) ⟨hx, hb, hml, hown, hts⟩ (c_X4_isAlive hT.2.2.2.2.1 h1) (cwV 1 hts gX5_word_X4_isAlive rfl rfl rfl hd_X4_isAlive ⟨(Nat.le_of_ble_eq_true rfl), (Nat.le_of_ble_eq_true rfl)⟩) hK hI hP hS hT.2.2.2.2.1.1 rfl rfl hl.1 rfl (Nat.le_of_ble_eq_true rfl) dX5_word_34 ⟨Nat.zero_le _, Nat.zero_le _⟩ (fun H locs hP hS => ?_)
        refine lv_if_ne (tgt := 43) hx hb dX5_word_37 (by decide) (fun q => ?_) (fun q => ?_)
        · rw [if_pos q] at h
          refine lv_aload_n hx hb dX5_word_43 rfl (lv_at hl 0 rfl) ?_
          refine me_getr (ci := 5) (C := RX5) (T := TX5) (N := 13) hx hb hts in_X5_word_X5 hown hK hP hT.1 rfl 3 (by decide) (hts _ kX5_word_f31) rfl dX5_word_44 ?_
          refine lv_aload_n hx hb dX5_word_47 rfl (lv_at hl 0 rfl) ?_
          refine me_getr (ci := 5) (C := RX5) (T := TX5) (N := 13) hx hb hts in_X5_word_X5 hown hK hP hT.1 rfl 11 (by decide) (hts _ kX5_word_f56) rfl dX5_word_48 ?_
          obtain ⟨u51, M51, h1, h⟩ := s_call_inv h
          refine me_callVv (As := [.ref (ad (t + 40))]) (rest := []) ⟨hx, hb, hml, hown, hts⟩ (c_X4_linkSpeakers hT.2.2.2.2.1 hT.2.2.2.2.2.2.2.2.2.1 h1) (cwV 1 hts gX5_word_X4_linkSpeakers rfl rfl rfl hd_X4_linkSpeakers ⟨(Nat.le_of_ble_eq_true rfl), (Nat.le_of_ble_eq_true rfl)⟩) hK hI hP hS hT.2.2.2.2.1.1 rfl rfl hl.1 rfl (Nat.le_of_ble_eq_true rfl) dX5_word_51 ⟨Nat.zero_le _, Nat.zero_le _⟩ (fun H locs hP hS => ?_)
          refine lv_aload_n hx hb dX5_word_54 rfl (lv_at hl 0 rfl) ?_
          refine me_getr (ci := 5) (C := RX5) (T := TX5) (N := 13) hx hb hts in_X5_word_X5 hown hK hP hT.1 rfl 11 (by decide) (hts _ kX5_word_f56) rfl dX5_word_55 ?_
          refine lv_iload_n hx hb dX5_word_58 rfl (lv_at hl 1 rfl) ?_
          refine lv_iload_n hx hb dX5_word_59 rfl (lv_at hl 2 rfl) ?_
          obtain ⟨v60, M60, h1, h⟩ := s_call_inv h
          refine me_callVi (As := [.int x1, .int x2]) (rest := []) ⟨hx, hb, hml, hown, hts⟩ (c_X2_steps hT.2.2.2.2.2.2.2.2.2.1 h1) (cwV 2 hts gX5_word_X2_steps rfl rfl rfl hd_X2_steps ⟨(Nat.le_of_ble_eq_true rfl), (Nat.le_of_ble_eq_true rfl)⟩) hK hI hP hS hT.2.2.2.2.2.2.2.2.2.1.1 rfl rfl hl.1 rfl (Nat.le_of_ble_eq_true rfl) dX5_word_60 ⟨Nat.zero_le _, Nat.zero_le _⟩ (fun H locs hP hS => ?_)
          exact me_iret hx hb hr hlk hP hS h dX5_word_63
        · rw [if_neg (not_not_intro q)] at h
          refine lv_bipush (v := (-4 : Int32)) hx hb dX5_word_40 (by decide) ?_
          exact me_iret hx hb hr hlk hP hS h dX5_word_42
    · rw [if_neg (not_not_intro q)] at h
      refine lv_iconst (v := (-1 : Int32)) hx hb dX5_word_16 (by decide) ?_
      exact me_iret hx hb hr hlk hP hS h dX5_word_17
theorem c_X5_word {l : Launch} {D : va_G} {cI : ClassId} {ad : Nat → Nat} {L : List CDs} {t : Nat} (hT : is_X5 L t) {x1 : Int32} {x2 : Int32} {M M' : Mem} {r : Int32} (h : X5_word t x1 x2 M = some (r, M')) : me_Met l yX5_word wsX5_word rmX5_word D cI ad L [.ref (ad t), .int x1, .int x2] (some (.int r)) M M' :=
  me_ofW (by decide) rfl (Nat.le_of_ble_eq_true rfl) (fun p e s m below meth c C0 => w_X5_word C0 t hT x1 x2 M h)
abbrev rmX5_vote : Room := { frames := 3, cells := 0, slots := 0, locals := 67 }
theorem kX5_vote_f31 : (Cond.fieldLink RX5 31 "LadderOfBows" "now" "LLadderOfBows$Town;") ∈ wsX5_vote := List.mem_of_getElem? (i := 1) rfl
theorem kX5_vote_f56 : (Cond.fieldLink RX5 56 "LadderOfBows" "links" "LLadderOfBows$Links;") ∈ wsX5_vote := List.mem_of_getElem? (i := 2) rfl
theorem in_X5_vote_X5 : ∀ w ∈ wsX50, w ∈ wsX5_vote := by decide +kernel
theorem hd_X5_vote : yX5_vote.cls = RX5 ∧ yX5_vote.cls ≠ "java/lang/invoke/MethodHandle" ∧ yX5_vote.cls ≠ "java/lang/invoke/VarHandle" ∧ (parseMethodDescriptor yX5_vote.desc).map (fun d => d.parameters.length) = some 0 := by decide +kernel
set_option maxRecDepth 100000 in
set_option maxHeartbeats 4000000 in
theorem w_X5_vote {p : Program} {l : Launch} {e : Env} {s : State} {m : MethodId} {args : Array Value} {below : List Frame} {meth : Method} {c : Code} {D : va_G} {cI : ClassId} {ad : Nat → Nat} {L : List CDs} {r : Int32} {M' : Mem} (C0 : me_X p s m args meth c cX5_vote 1 (some .int) wsX5_vote RX5 D cI ad L) (t : Nat) (hT : is_X5 L t) : ∀  (M : Mem), X5_vote t M = some (r, M') → me_W p l e rmX5_vote s m args below meth c D cI ad L (some (.int r)) M' 1 0 [(0, .ref (ad t))] [] M := by
  obtain ⟨hx, hb, hr, hml, hown, hts, hlk, hK, hI⟩ := id C0
  intro M h
  unfold X5_vote at h
  intro H locs ls hP hS hl
  refine lv_aload_n hx hb dX5_vote_0 rfl (lv_at hl 0 rfl) ?_
  refine me_getr (ci := 5) (C := RX5) (T := TX5) (N := 13) hx hb hts in_X5_vote_X5 hown hK hP hT.1 rfl 3 (by decide) (hts _ kX5_vote_f31) rfl dX5_vote_1 ?_
  refine lv_aload_n hx hb dX5_vote_4 rfl (lv_at hl 0 rfl) ?_
  refine me_getr (ci := 5) (C := RX5) (T := TX5) (N := 13) hx hb hts in_X5_vote_X5 hown hK hP hT.1 rfl 11 (by decide) (hts _ kX5_vote_f56) rfl dX5_vote_5 ?_
  obtain ⟨u8, M8, h1, h⟩ := s_call_inv h
  refine me_callVv (As := [.ref (ad (t + 40))]) (rest := []) ⟨hx, hb, hml, hown, hts⟩ (c_X4_linkSpeakers hT.2.2.2.2.1 hT.2.2.2.2.2.2.2.2.2.1 h1) (cwV 1 hts gX5_vote_X4_linkSpeakers rfl rfl rfl hd_X4_linkSpeakers ⟨(Nat.le_of_ble_eq_true rfl), (Nat.le_of_ble_eq_true rfl)⟩) hK hI hP hS hT.2.2.2.2.1.1 rfl rfl hl.1 rfl (Nat.le_of_ble_eq_true rfl) dX5_vote_8 ⟨Nat.zero_le _, Nat.zero_le _⟩ (fun H locs hP hS => ?_)
  refine lv_aload_n hx hb dX5_vote_11 rfl (lv_at hl 0 rfl) ?_
  refine me_getr (ci := 5) (C := RX5) (T := TX5) (N := 13) hx hb hts in_X5_vote_X5 hown hK hP hT.1 rfl 11 (by decide) (hts _ kX5_vote_f56) rfl dX5_vote_12 ?_
  refine lv_aload_n hx hb dX5_vote_15 rfl (lv_at hl 0 rfl) ?_
  refine me_getr (ci := 5) (C := RX5) (T := TX5) (N := 13) hx hb hts in_X5_vote_X5 hown hK hP hT.1 rfl 3 (by decide) (hts _ kX5_vote_f31) rfl dX5_vote_16 ?_
  obtain ⟨v19, M19, h1, h⟩ := s_call_inv h
  refine me_callVi (As := []) (rest := [.ref (ad (t + 40))]) ⟨hx, hb, hml, hown, hts⟩ (c_X4_aliveBits hT.2.2.2.2.1 h1) (cwV 0 hts gX5_vote_X4_aliveBits rfl rfl rfl hd_X4_aliveBits ⟨(Nat.le_of_ble_eq_true rfl), (Nat.le_of_ble_eq_true rfl)⟩) hK hI hP hS hT.2.2.2.2.1.1 rfl rfl hl.1 rfl (Nat.le_of_ble_eq_true rfl) dX5_vote_19 ⟨Nat.zero_le _, Nat.zero_le _⟩ (fun H locs hP hS => ?_)
  obtain ⟨v22, M22, h1, h⟩ := s_call_inv h
  refine me_callVi (As := [.int v19]) (rest := []) ⟨hx, hb, hml, hown, hts⟩ (c_X2_largestSet hT.2.2.2.2.2.2.2.2.2.1 h1) (cwV 1 hts gX5_vote_X2_largestSet rfl rfl rfl hd_X2_largestSet ⟨(Nat.le_of_ble_eq_true rfl), (Nat.le_of_ble_eq_true rfl)⟩) hK hI hP hS hT.2.2.2.2.2.2.2.2.2.1.1 rfl rfl hl.1 rfl (Nat.le_of_ble_eq_true rfl) dX5_vote_22 ⟨Nat.zero_le _, Nat.zero_le _⟩ (fun H locs hP hS => ?_)
  exact me_iret hx hb hr hlk hP hS h dX5_vote_25
theorem c_X5_vote {l : Launch} {D : va_G} {cI : ClassId} {ad : Nat → Nat} {L : List CDs} {t : Nat} (hT : is_X5 L t)  {M M' : Mem} {r : Int32} (h : X5_vote t M = some (r, M')) : me_Met l yX5_vote wsX5_vote rmX5_vote D cI ad L [.ref (ad t)] (some (.int r)) M M' :=
  me_ofW (by decide) rfl (Nat.le_of_ble_eq_true rfl) (fun p e s m below meth c C0 => w_X5_vote C0 t hT M h)
abbrev rmX5_deals : Room := { frames := 3, cells := 0, slots := 0, locals := 68 }
theorem kX5_deals_f31 : (Cond.fieldLink RX5 31 "LadderOfBows" "now" "LLadderOfBows$Town;") ∈ wsX5_deals := List.mem_of_getElem? (i := 1) rfl
theorem kX5_deals_f56 : (Cond.fieldLink RX5 56 "LadderOfBows" "links" "LLadderOfBows$Links;") ∈ wsX5_deals := List.mem_of_getElem? (i := 2) rfl
theorem in_X5_deals_X5 : ∀ w ∈ wsX50, w ∈ wsX5_deals := by decide +kernel
theorem hd_X5_deals : yX5_deals.cls = RX5 ∧ yX5_deals.cls ≠ "java/lang/invoke/MethodHandle" ∧ yX5_deals.cls ≠ "java/lang/invoke/VarHandle" ∧ (parseMethodDescriptor yX5_deals.desc).map (fun d => d.parameters.length) = some 0 := by decide +kernel
set_option maxRecDepth 100000 in
set_option maxHeartbeats 4000000 in
theorem w_X5_deals {p : Program} {l : Launch} {e : Env} {s : State} {m : MethodId} {args : Array Value} {below : List Frame} {meth : Method} {c : Code} {D : va_G} {cI : ClassId} {ad : Nat → Nat} {L : List CDs} {r : Int32} {M' : Mem} (C0 : me_X p s m args meth c cX5_deals 1 (some .int) wsX5_deals RX5 D cI ad L) (t : Nat) (hT : is_X5 L t) : ∀  (M : Mem), X5_deals t M = some (r, M') → me_W p l e rmX5_deals s m args below meth c D cI ad L (some (.int r)) M' 1 0 [(0, .ref (ad t))] [] M := by
  obtain ⟨hx, hb, hr, hml, hown, hts, hlk, hK, hI⟩ := id C0
  intro M h
  unfold X5_deals at h
  intro H locs ls hP hS hl
  refine lv_aload_n hx hb dX5_deals_0 rfl (lv_at hl 0 rfl) ?_
  refine me_getr (ci := 5) (C := RX5) (T := TX5) (N := 13) hx hb hts in_X5_deals_X5 hown hK hP hT.1 rfl 3 (by decide) (hts _ kX5_deals_f31) rfl dX5_deals_1 ?_
  refine lv_aload_n hx hb dX5_deals_4 rfl (lv_at hl 0 rfl) ?_
  refine me_getr (ci := 5) (C := RX5) (T := TX5) (N := 13) hx hb hts in_X5_deals_X5 hown hK hP hT.1 rfl 11 (by decide) (hts _ kX5_deals_f56) rfl dX5_deals_5 ?_
  obtain ⟨u8, M8, h1, h⟩ := s_call_inv h
  refine me_callVv (As := [.ref (ad (t + 40))]) (rest := []) ⟨hx, hb, hml, hown, hts⟩ (c_X4_linkSpeakers hT.2.2.2.2.1 hT.2.2.2.2.2.2.2.2.2.1 h1) (cwV 1 hts gX5_deals_X4_linkSpeakers rfl rfl rfl hd_X4_linkSpeakers ⟨(Nat.le_of_ble_eq_true rfl), (Nat.le_of_ble_eq_true rfl)⟩) hK hI hP hS hT.2.2.2.2.1.1 rfl rfl hl.1 rfl (Nat.le_of_ble_eq_true rfl) dX5_deals_8 ⟨Nat.zero_le _, Nat.zero_le _⟩ (fun H locs hP hS => ?_)
  refine lv_aload_n hx hb dX5_deals_11 rfl (lv_at hl 0 rfl) ?_
  refine me_getr (ci := 5) (C := RX5) (T := TX5) (N := 13) hx hb hts in_X5_deals_X5 hown hK hP hT.1 rfl 11 (by decide) (hts _ kX5_deals_f56) rfl dX5_deals_12 ?_
  obtain ⟨v15, M15, h1, h⟩ := s_call_inv h
  refine me_callVi (As := []) (rest := []) ⟨hx, hb, hml, hown, hts⟩ (c_X2_mostTwos hT.2.2.2.2.2.2.2.2.2.1 h1) (cwV 0 hts gX5_deals_X2_mostTwos rfl rfl rfl hd_X2_mostTwos ⟨(Nat.le_of_ble_eq_true rfl), (Nat.le_of_ble_eq_true rfl)⟩) hK hI hP hS hT.2.2.2.2.2.2.2.2.2.1.1 rfl rfl hl.1 rfl (Nat.le_of_ble_eq_true rfl) dX5_deals_15 ⟨Nat.zero_le _, Nat.zero_le _⟩ (fun H locs hP hS => ?_)
  exact me_iret hx hb hr hlk hP hS h dX5_deals_18
theorem c_X5_deals {l : Launch} {D : va_G} {cI : ClassId} {ad : Nat → Nat} {L : List CDs} {t : Nat} (hT : is_X5 L t)  {M M' : Mem} {r : Int32} (h : X5_deals t M = some (r, M')) : me_Met l yX5_deals wsX5_deals rmX5_deals D cI ad L [.ref (ad t)] (some (.int r)) M M' :=
  me_ofW (by decide) rfl (Nat.le_of_ble_eq_true rfl) (fun p e s m below meth c C0 => w_X5_deals C0 t hT M h)
abbrev rmX5_guests : Room := { frames := 3, cells := 0, slots := 0, locals := 67 }
theorem kX5_guests_f31 : (Cond.fieldLink RX5 31 "LadderOfBows" "now" "LLadderOfBows$Town;") ∈ wsX5_guests := List.mem_of_getElem? (i := 1) rfl
theorem kX5_guests_f56 : (Cond.fieldLink RX5 56 "LadderOfBows" "links" "LLadderOfBows$Links;") ∈ wsX5_guests := List.mem_of_getElem? (i := 2) rfl
theorem in_X5_guests_X5 : ∀ w ∈ wsX50, w ∈ wsX5_guests := by decide +kernel
theorem hd_X5_guests : yX5_guests.cls = RX5 ∧ yX5_guests.cls ≠ "java/lang/invoke/MethodHandle" ∧ yX5_guests.cls ≠ "java/lang/invoke/VarHandle" ∧ (parseMethodDescriptor yX5_guests.desc).map (fun d => d.parameters.length) = some 2 := by decide +kernel
set_option maxRecDepth 100000 in
set_option maxHeartbeats 4000000 in
theorem w_X5_guests {p : Program} {l : Launch} {e : Env} {s : State} {m : MethodId} {args : Array Value} {below : List Frame} {meth : Method} {c : Code} {D : va_G} {cI : ClassId} {ad : Nat → Nat} {L : List CDs} {r : Int32} {M' : Mem} (C0 : me_X p s m args meth c cX5_guests 3 (some .int) wsX5_guests RX5 D cI ad L) (t : Nat) (hT : is_X5 L t) (x1 : Int32) (x2 : Int32) : ∀  (M : Mem), X5_guests t x1 x2 M = some (r, M') → me_W p l e rmX5_guests s m args below meth c D cI ad L (some (.int r)) M' 3 0 [(0, .ref (ad t)), (1, .int x1), (2, .int x2)] [] M := by
  obtain ⟨hx, hb, hr, hml, hown, hts, hlk, hK, hI⟩ := id C0
  intro M h
  unfold X5_guests at h
  intro H locs ls hP hS hl
  refine lv_aload_n hx hb dX5_guests_0 rfl (lv_at hl 0 rfl) ?_
  refine lv_iload_n hx hb dX5_guests_1 rfl (lv_at hl 1 rfl) ?_
  refine lv_iload_n hx hb dX5_guests_2 rfl (lv_at hl 2 rfl) ?_
  obtain ⟨v3, M3, h1, h⟩ := s_call_inv h
  refine me_callVi (As := [.int x1, .int x2]) (rest := []) ⟨hx, hb, hml, hown, hts⟩ (c_X5_areTwo hT h1) (cwV 2 hts gX5_guests_X5_areTwo rfl rfl rfl hd_X5_areTwo ⟨(Nat.le_of_ble_eq_true rfl), (Nat.le_of_ble_eq_true rfl)⟩) hK hI hP hS hT.1 rfl rfl hl.1 rfl (Nat.le_of_ble_eq_true rfl) dX5_guests_3 ⟨Nat.zero_le _, Nat.zero_le _⟩ (fun H locs hP hS => ?_)
  refine lv_if_ne (tgt := 11) hx hb dX5_guests_6 (by decide) (fun q => ?_) (fun q => ?_)
  · rw [if_pos q] at h
    refine lv_aload_n hx hb dX5_guests_11 rfl (lv_at hl 0 rfl) ?_
    refine me_getr (ci := 5) (C := RX5) (T := TX5) (N := 13) hx hb hts in_X5_guests_X5 hown hK hP hT.1 rfl 3 (by decide) (hts _ kX5_guests_f31) rfl dX5_guests_12 ?_
    refine lv_iload_n hx hb dX5_guests_15 rfl (lv_at hl 1 rfl) ?_
    obtain ⟨v16, M16, h1, h⟩ := s_call_inv h
    refine me_callVi (As := [.int x1]) (rest := []) ⟨hx, hb, hml, hown, hts⟩ (c_X4_isAlive hT.2.2.2.2.1 h1) (cwV 1 hts gX5_guests_X4_isAlive rfl rfl rfl hd_X4_isAlive ⟨(Nat.le_of_ble_eq_true rfl), (Nat.le_of_ble_eq_true rfl)⟩) hK hI hP hS hT.2.2.2.2.1.1 rfl rfl hl.1 rfl (Nat.le_of_ble_eq_true rfl) dX5_guests_16 ⟨Nat.zero_le _, Nat.zero_le _⟩ (fun H locs hP hS => ?_)
    refine lv_if_eq (tgt := 33) hx hb dX5_guests_19 (by decide) (fun q => ?_) (fun q => ?_)
    · rw [if_pos q] at h
      refine lv_bipush (v := (-2 : Int32)) hx hb dX5_guests_33 (by decide) ?_
      exact me_iret hx hb hr hlk hP hS h dX5_guests_35
    · rw [if_neg q] at h
      refine lv_aload_n hx hb dX5_guests_22 rfl (lv_at hl 0 rfl) ?_
      refine me_getr (ci := 5) (C := RX5) (T := TX5) (N := 13) hx hb hts in_X5_guests_X5 hown hK hP hT.1 rfl 3 (by decide) (hts _ kX5_guests_f31) rfl dX5_guests_23 ?_
      refine lv_iload_n hx hb dX5_guests_26 rfl (lv_at hl 2 rfl) ?_
      obtain ⟨v27, M27, h1, h⟩ := s_call_inv h
      refine me_callVi (As := [.int x2]) (rest := []) ⟨hx, hb, hml, hown, hts⟩ (c_X4_isAlive hT.2.2.2.2.1 h1) (cwV 1 hts gX5_guests_X4_isAlive rfl rfl rfl hd_X4_isAlive ⟨(Nat.le_of_ble_eq_true rfl), (Nat.le_of_ble_eq_true rfl)⟩) hK hI hP hS hT.2.2.2.2.1.1 rfl rfl hl.1 rfl (Nat.le_of_ble_eq_true rfl) dX5_guests_27 ⟨Nat.zero_le _, Nat.zero_le _⟩ (fun H locs hP hS => ?_)
      refine lv_if_ne (tgt := 36) hx hb dX5_guests_30 (by decide) (fun q => ?_) (fun q => ?_)
      · rw [if_pos q] at h
        refine lv_aload_n hx hb dX5_guests_36 rfl (lv_at hl 0 rfl) ?_
        refine me_getr (ci := 5) (C := RX5) (T := TX5) (N := 13) hx hb hts in_X5_guests_X5 hown hK hP hT.1 rfl 3 (by decide) (hts _ kX5_guests_f31) rfl dX5_guests_37 ?_
        refine lv_aload_n hx hb dX5_guests_40 rfl (lv_at hl 0 rfl) ?_
        refine me_getr (ci := 5) (C := RX5) (T := TX5) (N := 13) hx hb hts in_X5_guests_X5 hown hK hP hT.1 rfl 11 (by decide) (hts _ kX5_guests_f56) rfl dX5_guests_41 ?_
        obtain ⟨u44, M44, h1, h⟩ := s_call_inv h
        refine me_callVv (As := [.ref (ad (t + 40))]) (rest := []) ⟨hx, hb, hml, hown, hts⟩ (c_X4_linkSpeakers hT.2.2.2.2.1 hT.2.2.2.2.2.2.2.2.2.1 h1) (cwV 1 hts gX5_guests_X4_linkSpeakers rfl rfl rfl hd_X4_linkSpeakers ⟨(Nat.le_of_ble_eq_true rfl), (Nat.le_of_ble_eq_true rfl)⟩) hK hI hP hS hT.2.2.2.2.1.1 rfl rfl hl.1 rfl (Nat.le_of_ble_eq_true rfl) dX5_guests_44 ⟨Nat.zero_le _, Nat.zero_le _⟩ (fun H locs hP hS => ?_)
        refine lv_aload_n hx hb dX5_guests_47 rfl (lv_at hl 0 rfl) ?_
        refine me_getr (ci := 5) (C := RX5) (T := TX5) (N := 13) hx hb hts in_X5_guests_X5 hown hK hP hT.1 rfl 11 (by decide) (hts _ kX5_guests_f56) rfl dX5_guests_48 ?_
        refine lv_iload_n hx hb dX5_guests_51 rfl (lv_at hl 1 rfl) ?_
        obtain ⟨v52, M52, h1, h⟩ := s_call_inv h
        refine me_callVi (As := [.int x1]) (rest := []) ⟨hx, hb, hml, hown, hts⟩ (c_X2_linkedTo hT.2.2.2.2.2.2.2.2.2.1 h1) (cwV 1 hts gX5_guests_X2_linkedTo rfl rfl rfl hd_X2_linkedTo ⟨(Nat.le_of_ble_eq_true rfl), (Nat.le_of_ble_eq_true rfl)⟩) hK hI hP hS hT.2.2.2.2.2.2.2.2.2.1.1 rfl rfl hl.1 rfl (Nat.le_of_ble_eq_true rfl) dX5_guests_52 ⟨Nat.zero_le _, Nat.zero_le _⟩ (fun H locs hP hS => ?_)
        refine lv_aload_n hx hb dX5_guests_55 rfl (lv_at hl 0 rfl) ?_
        refine me_getr (ci := 5) (C := RX5) (T := TX5) (N := 13) hx hb hts in_X5_guests_X5 hown hK hP hT.1 rfl 11 (by decide) (hts _ kX5_guests_f56) rfl dX5_guests_56 ?_
        refine lv_iload_n hx hb dX5_guests_59 rfl (lv_at hl 2 rfl) ?_
        obtain ⟨v60, M60, h1, h⟩ := s_call_inv h
        refine me_callVi (As := [.int x2]) (rest := [.int v52]) ⟨hx, hb, hml, hown, hts⟩ (c_X2_linkedTo hT.2.2.2.2.2.2.2.2.2.1 h1) (cwV 1 hts gX5_guests_X2_linkedTo rfl rfl rfl hd_X2_linkedTo ⟨(Nat.le_of_ble_eq_true rfl), (Nat.le_of_ble_eq_true rfl)⟩) hK hI hP hS hT.2.2.2.2.2.2.2.2.2.1.1 rfl rfl hl.1 rfl (Nat.le_of_ble_eq_true rfl) dX5_guests_60 ⟨Nat.zero_le _, Nat.zero_le _⟩ (fun H locs hP hS => ?_)
        refine lv_iand hx hb dX5_guests_63 ?_
        exact me_iret hx hb hr hlk hP hS h dX5_guests_64
      · rw [if_neg (not_not_intro q)] at h
        refine lv_bipush (v := (-2 : Int32)) hx hb dX5_guests_33 (by decide) ?_
        exact me_iret hx hb hr hlk hP hS h dX5_guests_35
  · rw [if_neg (not_not_intro q)] at h
    refine lv_iconst (v := (-1 : Int32)) hx hb dX5_guests_9 (by decide) ?_
    exact me_iret hx hb hr hlk hP hS h dX5_guests_10
theorem c_X5_guests {l : Launch} {D : va_G} {cI : ClassId} {ad : Nat → Nat} {L : List CDs} {t : Nat} (hT : is_X5 L t) {x1 : Int32} {x2 : Int32} {M M' : Mem} {r : Int32} (h : X5_guests t x1 x2 M = some (r, M')) : me_Met l yX5_guests wsX5_guests rmX5_guests D cI ad L [.ref (ad t), .int x1, .int x2] (some (.int r)) M M' :=
  me_ofW (by decide) rfl (Nat.le_of_ble_eq_true rfl) (fun p e s m below meth c C0 => w_X5_guests C0 t hT x1 x2 M h)
abbrev rmX5_lotsThatFree : Room := { frames := 5, cells := 0, slots := 0, locals := 113 }
theorem hd_X5_lotsThatFree : yX5_lotsThatFree.cls = RX5 ∧ yX5_lotsThatFree.cls ≠ "java/lang/invoke/MethodHandle" ∧ yX5_lotsThatFree.cls ≠ "java/lang/invoke/VarHandle" ∧ (parseMethodDescriptor yX5_lotsThatFree.desc).map (fun d => d.parameters.length) = some 2 := by decide +kernel
set_option maxRecDepth 100000 in
set_option maxHeartbeats 4000000 in
theorem w_X5_lotsThatFree_65 {p : Program} {l : Launch} {e : Env} {s : State} {m : MethodId} {args : Array Value} {below : List Frame} {meth : Method} {c : Code} {D : va_G} {cI : ClassId} {ad : Nat → Nat} {L : List CDs} {r : Int32} {M' : Mem} (C0 : me_X p s m args meth c cX5_lotsThatFree 6 (some .int) wsX5_lotsThatFree RX5 D cI ad L) (t : Nat) (hT : is_X5 L t) (x1 : Int32) (x2 : Int32) (x4 : Int32) (k27 : Int32 → Int32 → Mem → Option (Int32 × Mem)) (hk27 : ∀ (x3 : Int32) (x4 : Int32) (M : Mem), k27 x3 x4 M = some (r, M') → me_W p l e rmX5_lotsThatFree s m args below meth c D cI ad L (some (.int r)) M' 6 27 [(0, .ref (ad t)), (1, .int x1), (2, .int x2), (3, .int x3), (4, .int x4)] [] M) : ∀ (n : Nat) (x3 : Int32) (x5 : Int32) (M : Mem), X5_lotsThatFree_65 t x1 x2 x4 k27 n x3 x5 M = some (r, M') → me_W p l e rmX5_lotsThatFree s m args below meth c D cI ad L (some (.int r)) M' 6 65 [(0, .ref (ad t)), (1, .int x1), (2, .int x2), (3, .int x3), (4, .int x4), (5, .int x5)] [] M := by
  obtain ⟨hx, hb, hr, hml, hown, hts, hlk, hK, hI⟩ := id C0
  intro n
  induction n with
  | zero =>
    intro x3 x5 M h
    rw [X5_lotsThatFree_65] at h
    cases h
  | succ n ih =>
    intro x3 x5 M h
    rw [X5_lotsThatFree_65] at h
    intro H locs ls hP hS hl
    refine lv_iload hx hb dX5_lotsThatFree_65 (lv_at hl 5 rfl) ?_
    refine lv_iload_n hx hb dX5_lotsThatFree_67 rfl (lv_at hl 2 rfl) ?_
    refine lv_icmp_ge (tgt := 104) hx hb dX5_lotsThatFree_68 (by decide) (fun q => ?_) (fun q => ?_)
    · rw [if_pos q] at h
      refine lv_iinc (k := 4) (v := (x4 + (1 : Int32))) (lv' := [(4, .int (x4 + (1 : Int32))), (0, .ref (ad t)), (1, .int x1), (2, .int x2), (3, .int x3), (5, .int x5)]) hx hb dX5_lotsThatFree_104 hl rfl rfl (by decide) rfl (fun ls hl => ?_)
      refine lv_goto (tgt := 27) hx hb dX5_lotsThatFree_107 (by decide) ?_
      exact hk27 x3 (x4 + (1 : Int32)) M h H locs ls hP hS (lv_sub hl [1, 2, 3, 4, 0] rfl)
    · rw [if_neg q] at h
      refine lv_iload_n hx hb dX5_lotsThatFree_71 rfl (lv_at hl 1 rfl) ?_
      refine lv_iconst (v := (2 : Int32)) hx hb dX5_lotsThatFree_72 (by decide) ?_
      refine lv_icmp_ne (tgt := 104) hx hb dX5_lotsThatFree_73 (by decide) (fun q => ?_) (fun q => ?_)
      · rw [if_pos q] at h
        refine lv_iinc (k := 4) (v := (x4 + (1 : Int32))) (lv' := [(4, .int (x4 + (1 : Int32))), (0, .ref (ad t)), (1, .int x1), (2, .int x2), (3, .int x3), (5, .int x5)]) hx hb dX5_lotsThatFree_104 hl rfl rfl (by decide) rfl (fun ls hl => ?_)
        refine lv_goto (tgt := 27) hx hb dX5_lotsThatFree_107 (by decide) ?_
        exact hk27 x3 (x4 + (1 : Int32)) M h H locs ls hP hS (lv_sub hl [1, 2, 3, 4, 0] rfl)
      · rw [if_neg (not_not_intro q)] at h
        refine lv_iload_n hx hb dX5_lotsThatFree_76 rfl (lv_at hl 3 rfl) ?_
        refine lv_aload_n hx hb dX5_lotsThatFree_77 rfl (lv_at hl 0 rfl) ?_
        refine lv_iload hx hb dX5_lotsThatFree_78 (lv_at hl 4 rfl) ?_
        refine lv_iload hx hb dX5_lotsThatFree_80 (lv_at hl 5 rfl) ?_
        obtain ⟨v82, M82, h1, h⟩ := s_call_inv h
        refine me_callVi (As := [.int x4, .int x5]) (rest := [.int x3]) ⟨hx, hb, hml, hown, hts⟩ (c_X5_owedWithout hT h1) (cwV 2 hts gX5_lotsThatFree_X5_owedWithout rfl rfl rfl hd_X5_owedWithout ⟨(Nat.le_of_ble_eq_true rfl), (Nat.le_of_ble_eq_true rfl)⟩) hK hI hP hS hT.1 rfl rfl hl.1 rfl (Nat.le_of_ble_eq_true rfl) dX5_lotsThatFree_82 ⟨Nat.zero_le _, Nat.zero_le _⟩ (fun H locs hP hS => ?_)
        refine lv_if_ne (tgt := 92) hx hb dX5_lotsThatFree_85 (by decide) (fun q => ?_) (fun q => ?_)
        · rw [if_pos q] at h
          refine lv_iconst (v := (0 : Int32)) hx hb dX5_lotsThatFree_92 (by decide) ?_
          obtain ⟨v93, M93, h1, h⟩ := s_call_inv h
          refine me_callSi (As := [.int (0 : Int32)]) (rest := [.int x3]) ⟨hx, hb, hml, hown, hts⟩ (c_X5_asNumber h1) (va_cwS 1 hts gX5_lotsThatFree_X5_asNumber rfl rfl rfl hd_X5_asNumber.2 ⟨(Nat.le_of_ble_eq_true rfl), (Nat.le_of_ble_eq_true rfl)⟩) hK hI hP hS rfl hl.1 rfl (Nat.le_of_ble_eq_true rfl) dX5_lotsThatFree_93 ⟨Nat.zero_le _, Nat.zero_le _⟩ (fun H locs hP hS => ?_)
          refine lv_iadd hx hb dX5_lotsThatFree_96 ?_
          refine lv_topi (fun x3_97 ev => ?_)
          replace h := s_let_inv h x3_97 ev
          refine lv_istore_n (lv' := [(3, .int x3_97), (0, .ref (ad t)), (1, .int x1), (2, .int x2), (4, .int x4), (5, .int x5)]) hx hb dX5_lotsThatFree_97 rfl hl (by decide) rfl (fun ls hl => ?_)
          refine lv_iinc (k := 5) (v := (x5 + (1 : Int32))) (lv' := [(5, .int (x5 + (1 : Int32))), (3, .int x3_97), (0, .ref (ad t)), (1, .int x1), (2, .int x2), (4, .int x4)]) hx hb dX5_lotsThatFree_98 hl rfl rfl (by decide) rfl (fun ls hl => ?_)
          refine lv_goto (tgt := 65) hx hb dX5_lotsThatFree_101 (by decide) ?_
          exact ih x3_97 (x5 + (1 : Int32)) M93 h H locs ls hP hS (lv_sub hl [2, 3, 4, 1, 5, 0] rfl)
        · rw [if_neg (not_not_intro q)] at h
          refine lv_iconst (v := (1 : Int32)) hx hb dX5_lotsThatFree_88 (by decide) ?_
          refine lv_goto (tgt := 93) hx hb dX5_lotsThatFree_89 (by decide) ?_
          obtain ⟨v93, M93, h1, h⟩ := s_call_inv h
          refine me_callSi (As := [.int (1 : Int32)]) (rest := [.int x3]) ⟨hx, hb, hml, hown, hts⟩ (c_X5_asNumber h1) (va_cwS 1 hts gX5_lotsThatFree_X5_asNumber rfl rfl rfl hd_X5_asNumber.2 ⟨(Nat.le_of_ble_eq_true rfl), (Nat.le_of_ble_eq_true rfl)⟩) hK hI hP hS rfl hl.1 rfl (Nat.le_of_ble_eq_true rfl) dX5_lotsThatFree_93 ⟨Nat.zero_le _, Nat.zero_le _⟩ (fun H locs hP hS => ?_)
          refine lv_iadd hx hb dX5_lotsThatFree_96 ?_
          refine lv_topi (fun x3_97 ev => ?_)
          replace h := s_let_inv h x3_97 ev
          refine lv_istore_n (lv' := [(3, .int x3_97), (0, .ref (ad t)), (1, .int x1), (2, .int x2), (4, .int x4), (5, .int x5)]) hx hb dX5_lotsThatFree_97 rfl hl (by decide) rfl (fun ls hl => ?_)
          refine lv_iinc (k := 5) (v := (x5 + (1 : Int32))) (lv' := [(5, .int (x5 + (1 : Int32))), (3, .int x3_97), (0, .ref (ad t)), (1, .int x1), (2, .int x2), (4, .int x4)]) hx hb dX5_lotsThatFree_98 hl rfl rfl (by decide) rfl (fun ls hl => ?_)
          refine lv_goto (tgt := 65) hx hb dX5_lotsThatFree_101 (by decide) ?_
          exact ih x3_97 (x5 + (1 : Int32)) M93 h H locs ls hP hS (lv_sub hl [2, 3, 4, 1, 5, 0] rfl)
set_option maxRecDepth 100000 in
set_option maxHeartbeats 4000000 in
theorem w_X5_lotsThatFree_27 {p : Program} {l : Launch} {e : Env} {s : State} {m : MethodId} {args : Array Value} {below : List Frame} {meth : Method} {c : Code} {D : va_G} {cI : ClassId} {ad : Nat → Nat} {L : List CDs} {r : Int32} {M' : Mem} (C0 : me_X p s m args meth c cX5_lotsThatFree 6 (some .int) wsX5_lotsThatFree RX5 D cI ad L) (t : Nat) (hT : is_X5 L t) (x1 : Int32) (x2 : Int32) : ∀ (n : Nat) (x3 : Int32) (x4 : Int32) (M : Mem), X5_lotsThatFree_27 t x1 x2 n x3 x4 M = some (r, M') → me_W p l e rmX5_lotsThatFree s m args below meth c D cI ad L (some (.int r)) M' 6 27 [(0, .ref (ad t)), (1, .int x1), (2, .int x2), (3, .int x3), (4, .int x4)] [] M := by
  obtain ⟨hx, hb, hr, hml, hown, hts, hlk, hK, hI⟩ := id C0
  intro n
  induction n with
  | zero =>
    intro x3 x4 M h
    rw [X5_lotsThatFree_27] at h
    cases h
  | succ n ih =>
    intro x3 x4 M h
    rw [X5_lotsThatFree_27] at h
    intro H locs ls hP hS hl
    refine lv_iload hx hb dX5_lotsThatFree_27 (lv_at hl 4 rfl) ?_
    refine lv_iload_n hx hb dX5_lotsThatFree_29 rfl (lv_at hl 2 rfl) ?_
    refine lv_icmp_ge (tgt := 110) hx hb dX5_lotsThatFree_30 (by decide) (fun q => ?_) (fun q => ?_)
    · rw [if_pos q] at h
      refine lv_iload_n hx hb dX5_lotsThatFree_110 rfl (lv_at hl 3 rfl) ?_
      exact me_iret hx hb hr hlk hP hS h dX5_lotsThatFree_111
    · rw [if_neg q] at h
      refine lv_iload_n hx hb dX5_lotsThatFree_33 rfl (lv_at hl 1 rfl) ?_
      refine lv_iconst (v := (1 : Int32)) hx hb dX5_lotsThatFree_34 (by decide) ?_
      refine lv_icmp_ne (tgt := 59) hx hb dX5_lotsThatFree_35 (by decide) (fun q => ?_) (fun q => ?_)
      · rw [if_pos q] at h
        refine lv_iload hx hb dX5_lotsThatFree_59 (lv_at hl 4 rfl) ?_
        refine lv_iconst (v := (1 : Int32)) hx hb dX5_lotsThatFree_61 (by decide) ?_
        refine lv_iadd hx hb dX5_lotsThatFree_62 ?_
        refine lv_topi (fun x5_63 ev => ?_)
        replace h := s_let_inv h x5_63 ev
        refine lv_istore (lv' := [(5, .int x5_63), (0, .ref (ad t)), (1, .int x1), (2, .int x2), (3, .int x3), (4, .int x4)]) hx hb dX5_lotsThatFree_63 hl (by decide) rfl (fun ls hl => ?_)
        exact w_X5_lotsThatFree_65 C0 t hT x1 x2 x4 (X5_lotsThatFree_27 t x1 x2 n) (fun x3 x4 M h => ih x3 x4 M h) FU x3 x5_63 M h H locs ls hP hS (lv_sub hl [1, 2, 3, 4, 5, 0] rfl)
      · rw [if_neg (not_not_intro q)] at h
        refine lv_iload_n hx hb dX5_lotsThatFree_38 rfl (lv_at hl 3 rfl) ?_
        refine lv_aload_n hx hb dX5_lotsThatFree_39 rfl (lv_at hl 0 rfl) ?_
        refine lv_iload hx hb dX5_lotsThatFree_40 (lv_at hl 4 rfl) ?_
        refine lv_iconst (v := (-1 : Int32)) hx hb dX5_lotsThatFree_42 (by decide) ?_
        obtain ⟨v43, M43, h1, h⟩ := s_call_inv h
        refine me_callVi (As := [.int x4, .int (-1 : Int32)]) (rest := [.int x3]) ⟨hx, hb, hml, hown, hts⟩ (c_X5_owedWithout hT h1) (cwV 2 hts gX5_lotsThatFree_X5_owedWithout rfl rfl rfl hd_X5_owedWithout ⟨(Nat.le_of_ble_eq_true rfl), (Nat.le_of_ble_eq_true rfl)⟩) hK hI hP hS hT.1 rfl rfl hl.1 rfl (Nat.le_of_ble_eq_true rfl) dX5_lotsThatFree_43 ⟨Nat.zero_le _, Nat.zero_le _⟩ (fun H locs hP hS => ?_)
        refine lv_if_ne (tgt := 53) hx hb dX5_lotsThatFree_46 (by decide) (fun q => ?_) (fun q => ?_)
        · rw [if_pos q] at h
          refine lv_iconst (v := (0 : Int32)) hx hb dX5_lotsThatFree_53 (by decide) ?_
          obtain ⟨v54, M54, h1, h⟩ := s_call_inv h
          refine me_callSi (As := [.int (0 : Int32)]) (rest := [.int x3]) ⟨hx, hb, hml, hown, hts⟩ (c_X5_asNumber h1) (va_cwS 1 hts gX5_lotsThatFree_X5_asNumber rfl rfl rfl hd_X5_asNumber.2 ⟨(Nat.le_of_ble_eq_true rfl), (Nat.le_of_ble_eq_true rfl)⟩) hK hI hP hS rfl hl.1 rfl (Nat.le_of_ble_eq_true rfl) dX5_lotsThatFree_54 ⟨Nat.zero_le _, Nat.zero_le _⟩ (fun H locs hP hS => ?_)
          refine lv_iadd hx hb dX5_lotsThatFree_57 ?_
          refine lv_topi (fun x3_58 ev => ?_)
          replace h := s_let_inv h x3_58 ev
          refine lv_istore_n (lv' := [(3, .int x3_58), (0, .ref (ad t)), (1, .int x1), (2, .int x2), (4, .int x4)]) hx hb dX5_lotsThatFree_58 rfl hl (by decide) rfl (fun ls hl => ?_)
          refine lv_iload hx hb dX5_lotsThatFree_59 (lv_at hl 4 rfl) ?_
          refine lv_iconst (v := (1 : Int32)) hx hb dX5_lotsThatFree_61 (by decide) ?_
          refine lv_iadd hx hb dX5_lotsThatFree_62 ?_
          refine lv_topi (fun x5_63 ev => ?_)
          replace h := s_let_inv h x5_63 ev
          refine lv_istore (lv' := [(5, .int x5_63), (3, .int x3_58), (0, .ref (ad t)), (1, .int x1), (2, .int x2), (4, .int x4)]) hx hb dX5_lotsThatFree_63 hl (by decide) rfl (fun ls hl => ?_)
          exact w_X5_lotsThatFree_65 C0 t hT x1 x2 x4 (X5_lotsThatFree_27 t x1 x2 n) (fun x3 x4 M h => ih x3 x4 M h) FU x3_58 x5_63 M54 h H locs ls hP hS (lv_sub hl [2, 3, 4, 1, 5, 0] rfl)
        · rw [if_neg (not_not_intro q)] at h
          refine lv_iconst (v := (1 : Int32)) hx hb dX5_lotsThatFree_49 (by decide) ?_
          refine lv_goto (tgt := 54) hx hb dX5_lotsThatFree_50 (by decide) ?_
          obtain ⟨v54, M54, h1, h⟩ := s_call_inv h
          refine me_callSi (As := [.int (1 : Int32)]) (rest := [.int x3]) ⟨hx, hb, hml, hown, hts⟩ (c_X5_asNumber h1) (va_cwS 1 hts gX5_lotsThatFree_X5_asNumber rfl rfl rfl hd_X5_asNumber.2 ⟨(Nat.le_of_ble_eq_true rfl), (Nat.le_of_ble_eq_true rfl)⟩) hK hI hP hS rfl hl.1 rfl (Nat.le_of_ble_eq_true rfl) dX5_lotsThatFree_54 ⟨Nat.zero_le _, Nat.zero_le _⟩ (fun H locs hP hS => ?_)
          refine lv_iadd hx hb dX5_lotsThatFree_57 ?_
          refine lv_topi (fun x3_58 ev => ?_)
          replace h := s_let_inv h x3_58 ev
          refine lv_istore_n (lv' := [(3, .int x3_58), (0, .ref (ad t)), (1, .int x1), (2, .int x2), (4, .int x4)]) hx hb dX5_lotsThatFree_58 rfl hl (by decide) rfl (fun ls hl => ?_)
          refine lv_iload hx hb dX5_lotsThatFree_59 (lv_at hl 4 rfl) ?_
          refine lv_iconst (v := (1 : Int32)) hx hb dX5_lotsThatFree_61 (by decide) ?_
          refine lv_iadd hx hb dX5_lotsThatFree_62 ?_
          refine lv_topi (fun x5_63 ev => ?_)
          replace h := s_let_inv h x5_63 ev
          refine lv_istore (lv' := [(5, .int x5_63), (3, .int x3_58), (0, .ref (ad t)), (1, .int x1), (2, .int x2), (4, .int x4)]) hx hb dX5_lotsThatFree_63 hl (by decide) rfl (fun ls hl => ?_)
          exact w_X5_lotsThatFree_65 C0 t hT x1 x2 x4 (X5_lotsThatFree_27 t x1 x2 n) (fun x3 x4 M h => ih x3 x4 M h) FU x3_58 x5_63 M54 h H locs ls hP hS (lv_sub hl [2, 3, 4, 1, 5, 0] rfl)
set_option maxRecDepth 100000 in
set_option maxHeartbeats 4000000 in
theorem w_X5_lotsThatFree {p : Program} {l : Launch} {e : Env} {s : State} {m : MethodId} {args : Array Value} {below : List Frame} {meth : Method} {c : Code} {D : va_G} {cI : ClassId} {ad : Nat → Nat} {L : List CDs} {r : Int32} {M' : Mem} (C0 : me_X p s m args meth c cX5_lotsThatFree 6 (some .int) wsX5_lotsThatFree RX5 D cI ad L) (t : Nat) (hT : is_X5 L t) (x1 : Int32) (x2 : Int32) : ∀  (M : Mem), X5_lotsThatFree t x1 x2 M = some (r, M') → me_W p l e rmX5_lotsThatFree s m args below meth c D cI ad L (some (.int r)) M' 6 0 [(0, .ref (ad t)), (1, .int x1), (2, .int x2)] [] M := by
  obtain ⟨hx, hb, hr, hml, hown, hts, hlk, hK, hI⟩ := id C0
  intro M h
  unfold X5_lotsThatFree at h
  intro H locs ls hP hS hl
  refine lv_iload_n hx hb dX5_lotsThatFree_0 rfl (lv_at hl 1 rfl) ?_
  refine lv_if_ne (tgt := 22) hx hb dX5_lotsThatFree_1 (by decide) (fun q => ?_) (fun q => ?_)
  · rw [if_pos q] at h
    refine lv_iconst (v := (0 : Int32)) hx hb dX5_lotsThatFree_22 (by decide) ?_
    refine lv_istore_n (lv' := [(3, .int (0 : Int32)), (0, .ref (ad t)), (1, .int x1), (2, .int x2)]) hx hb dX5_lotsThatFree_23 rfl hl (by decide) rfl (fun ls hl => ?_)
    refine lv_iconst (v := (0 : Int32)) hx hb dX5_lotsThatFree_24 (by decide) ?_
    refine lv_istore (lv' := [(4, .int (0 : Int32)), (3, .int (0 : Int32)), (0, .ref (ad t)), (1, .int x1), (2, .int x2)]) hx hb dX5_lotsThatFree_25 hl (by decide) rfl (fun ls hl => ?_)
    exact w_X5_lotsThatFree_27 C0 t hT x1 x2 FU (0 : Int32) (0 : Int32) M h H locs ls hP hS (lv_sub hl [2, 3, 4, 1, 0] rfl)
  · rw [if_neg (not_not_intro q)] at h
    refine lv_aload_n hx hb dX5_lotsThatFree_4 rfl (lv_at hl 0 rfl) ?_
    refine lv_iconst (v := (-1 : Int32)) hx hb dX5_lotsThatFree_5 (by decide) ?_
    refine lv_iconst (v := (-1 : Int32)) hx hb dX5_lotsThatFree_6 (by decide) ?_
    obtain ⟨v7, M7, h1, h⟩ := s_call_inv h
    refine me_callVi (As := [.int (-1 : Int32), .int (-1 : Int32)]) (rest := []) ⟨hx, hb, hml, hown, hts⟩ (c_X5_owedWithout hT h1) (cwV 2 hts gX5_lotsThatFree_X5_owedWithout rfl rfl rfl hd_X5_owedWithout ⟨(Nat.le_of_ble_eq_true rfl), (Nat.le_of_ble_eq_true rfl)⟩) hK hI hP hS hT.1 rfl rfl hl.1 rfl (Nat.le_of_ble_eq_true rfl) dX5_lotsThatFree_7 ⟨Nat.zero_le _, Nat.zero_le _⟩ (fun H locs hP hS => ?_)
    refine lv_if_ne (tgt := 17) hx hb dX5_lotsThatFree_10 (by decide) (fun q => ?_) (fun q => ?_)
    · rw [if_pos q] at h
      refine lv_iconst (v := (0 : Int32)) hx hb dX5_lotsThatFree_17 (by decide) ?_
      obtain ⟨v18, M18, h1, h⟩ := s_call_inv h
      refine me_callSi (As := [.int (0 : Int32)]) (rest := []) ⟨hx, hb, hml, hown, hts⟩ (c_X5_asNumber h1) (va_cwS 1 hts gX5_lotsThatFree_X5_asNumber rfl rfl rfl hd_X5_asNumber.2 ⟨(Nat.le_of_ble_eq_true rfl), (Nat.le_of_ble_eq_true rfl)⟩) hK hI hP hS rfl hl.1 rfl (Nat.le_of_ble_eq_true rfl) dX5_lotsThatFree_18 ⟨Nat.zero_le _, Nat.zero_le _⟩ (fun H locs hP hS => ?_)
      exact me_iret hx hb hr hlk hP hS h dX5_lotsThatFree_21
    · rw [if_neg (not_not_intro q)] at h
      refine lv_iconst (v := (1 : Int32)) hx hb dX5_lotsThatFree_13 (by decide) ?_
      refine lv_goto (tgt := 18) hx hb dX5_lotsThatFree_14 (by decide) ?_
      obtain ⟨v18, M18, h1, h⟩ := s_call_inv h
      refine me_callSi (As := [.int (1 : Int32)]) (rest := []) ⟨hx, hb, hml, hown, hts⟩ (c_X5_asNumber h1) (va_cwS 1 hts gX5_lotsThatFree_X5_asNumber rfl rfl rfl hd_X5_asNumber.2 ⟨(Nat.le_of_ble_eq_true rfl), (Nat.le_of_ble_eq_true rfl)⟩) hK hI hP hS rfl hl.1 rfl (Nat.le_of_ble_eq_true rfl) dX5_lotsThatFree_18 ⟨Nat.zero_le _, Nat.zero_le _⟩ (fun H locs hP hS => ?_)
      exact me_iret hx hb hr hlk hP hS h dX5_lotsThatFree_21
theorem c_X5_lotsThatFree {l : Launch} {D : va_G} {cI : ClassId} {ad : Nat → Nat} {L : List CDs} {t : Nat} (hT : is_X5 L t) {x1 : Int32} {x2 : Int32} {M M' : Mem} {r : Int32} (h : X5_lotsThatFree t x1 x2 M = some (r, M')) : me_Met l yX5_lotsThatFree wsX5_lotsThatFree rmX5_lotsThatFree D cI ad L [.ref (ad t), .int x1, .int x2] (some (.int r)) M M' :=
  me_ofW (by decide) rfl (Nat.le_of_ble_eq_true rfl) (fun p e s m below meth c C0 => w_X5_lotsThatFree C0 t hT x1 x2 M h)
abbrev rmX5_lotsInAll : Room := { frames := 0, cells := 0, slots := 0, locals := 0 }
theorem hd_X5_lotsInAll : yX5_lotsInAll.cls = RX5 ∧ yX5_lotsInAll.cls ≠ "java/lang/invoke/MethodHandle" ∧ yX5_lotsInAll.cls ≠ "java/lang/invoke/VarHandle" ∧ (parseMethodDescriptor yX5_lotsInAll.desc).map (fun d => d.parameters.length) = some 2 := by decide +kernel
set_option maxRecDepth 100000 in
set_option maxHeartbeats 4000000 in
theorem w_X5_lotsInAll {p : Program} {l : Launch} {e : Env} {s : State} {m : MethodId} {args : Array Value} {below : List Frame} {meth : Method} {c : Code} {D : va_G} {cI : ClassId} {ad : Nat → Nat} {L : List CDs} {r : Int32} {M' : Mem} (C0 : me_X p s m args meth c cX5_lotsInAll 2 (some .int) wsX5_lotsInAll RX5 D cI ad L)  (x0 : Int32) (x1 : Int32) : ∀  (M : Mem), X5_lotsInAll x0 x1 M = some (r, M') → me_W p l e rmX5_lotsInAll s m args below meth c D cI ad L (some (.int r)) M' 2 0 [(0, .int x0), (1, .int x1)] [] M := by
  obtain ⟨hx, hb, hr, hml, hown, hts, hlk, hK, hI⟩ := id C0
  intro M h
  unfold X5_lotsInAll at h
  intro H locs ls hP hS hl
  refine lv_iload_n hx hb dX5_lotsInAll_0 rfl (lv_at hl 0 rfl) ?_
  refine lv_if_ne (tgt := 6) hx hb dX5_lotsInAll_1 (by decide) (fun q => ?_) (fun q => ?_)
  · rw [if_pos q] at h
    refine lv_iload_n hx hb dX5_lotsInAll_6 rfl (lv_at hl 0 rfl) ?_
    refine lv_iconst (v := (1 : Int32)) hx hb dX5_lotsInAll_7 (by decide) ?_
    refine lv_icmp_ne (tgt := 15) hx hb dX5_lotsInAll_8 (by decide) (fun q => ?_) (fun q => ?_)
    · rw [if_pos q] at h
      refine lv_iload_n hx hb dX5_lotsInAll_15 rfl (lv_at hl 1 rfl) ?_
      refine lv_iload_n hx hb dX5_lotsInAll_16 rfl (lv_at hl 1 rfl) ?_
      refine lv_iconst (v := (1 : Int32)) hx hb dX5_lotsInAll_17 (by decide) ?_
      refine lv_isub hx hb dX5_lotsInAll_18 ?_
      refine lv_imul hx hb dX5_lotsInAll_19 ?_
      refine lv_iconst (v := (2 : Int32)) hx hb dX5_lotsInAll_20 (by decide) ?_
      obtain ⟨hi, h⟩ := s_div_inv h
      refine lv_idiv hx hb dX5_lotsInAll_21 hi ?_
      refine lv_topi (fun v21 ev => ?_)
      replace h := h v21 ev
      exact me_iret hx hb hr hlk hP hS h dX5_lotsInAll_22
    · rw [if_neg (not_not_intro q)] at h
      refine lv_iload_n hx hb dX5_lotsInAll_11 rfl (lv_at hl 1 rfl) ?_
      refine lv_goto (tgt := 22) hx hb dX5_lotsInAll_12 (by decide) ?_
      exact me_iret hx hb hr hlk hP hS h dX5_lotsInAll_22
  · rw [if_neg (not_not_intro q)] at h
    refine lv_iconst (v := (1 : Int32)) hx hb dX5_lotsInAll_4 (by decide) ?_
    exact me_iret hx hb hr hlk hP hS h dX5_lotsInAll_5
theorem c_X5_lotsInAll {l : Launch} {D : va_G} {cI : ClassId} {ad : Nat → Nat} {L : List CDs}  {x0 : Int32} {x1 : Int32} {M M' : Mem} {r : Int32} (h : X5_lotsInAll x0 x1 M = some (r, M')) : me_Met l yX5_lotsInAll wsX5_lotsInAll rmX5_lotsInAll D cI ad L [.int x0, .int x1] (some (.int r)) M M' :=
  me_ofW (by decide) rfl (Nat.le_of_ble_eq_true rfl) (fun p e s m below meth c C0 => w_X5_lotsInAll C0 x0 x1 M h)
abbrev rmX5_greatestDivisor : Room := { frames := 0, cells := 0, slots := 0, locals := 0 }
theorem hd_X5_greatestDivisor : yX5_greatestDivisor.cls = RX5 ∧ yX5_greatestDivisor.cls ≠ "java/lang/invoke/MethodHandle" ∧ yX5_greatestDivisor.cls ≠ "java/lang/invoke/VarHandle" ∧ (parseMethodDescriptor yX5_greatestDivisor.desc).map (fun d => d.parameters.length) = some 2 := by decide +kernel
set_option maxRecDepth 100000 in
set_option maxHeartbeats 4000000 in
theorem w_X5_greatestDivisor_7 {p : Program} {l : Launch} {e : Env} {s : State} {m : MethodId} {args : Array Value} {below : List Frame} {meth : Method} {c : Code} {D : va_G} {cI : ClassId} {ad : Nat → Nat} {L : List CDs} {r : Int32} {M' : Mem} (C0 : me_X p s m args meth c cX5_greatestDivisor 6 (some .int) wsX5_greatestDivisor RX5 D cI ad L)  : ∀ (n : Nat) (x2 : Int32) (x3 : Int32) (x4 : Int32) (M : Mem), X5_greatestDivisor_7 n x2 x3 x4 M = some (r, M') → me_W p l e rmX5_greatestDivisor s m args below meth c D cI ad L (some (.int r)) M' 6 7 [(2, .int x2), (3, .int x3), (4, .int x4)] [] M := by
  obtain ⟨hx, hb, hr, hml, hown, hts, hlk, hK, hI⟩ := id C0
  intro n
  induction n with
  | zero =>
    intro x2 x3 x4 M h
    rw [X5_greatestDivisor_7] at h
    cases h
  | succ n ih =>
    intro x2 x3 x4 M h
    rw [X5_greatestDivisor_7] at h
    intro H locs ls hP hS hl
    refine lv_iload hx hb dX5_greatestDivisor_7 (lv_at hl 2 rfl) ?_
    refine lv_sipush (v := (504 : Int32)) hx hb dX5_greatestDivisor_9 (by decide) ?_
    refine lv_icmp_ge (tgt := 35) hx hb dX5_greatestDivisor_12 (by decide) (fun q => ?_) (fun q => ?_)
    · rw [if_pos q] at h
      refine lv_iload_n hx hb dX5_greatestDivisor_35 rfl (lv_at hl 0 rfl) ?_
      exact me_iret hx hb hr hlk hP hS h dX5_greatestDivisor_36
    · rw [if_neg q] at h
      refine lv_iload_n hx hb dX5_greatestDivisor_15 rfl (lv_at hl 1 rfl) ?_
      refine lv_if_eq (tgt := 35) hx hb dX5_greatestDivisor_16 (by decide) (fun q => ?_) (fun q => ?_)
      · rw [if_pos q] at h
        refine lv_iload_n hx hb dX5_greatestDivisor_35 rfl (lv_at hl 0 rfl) ?_
        exact me_iret hx hb hr hlk hP hS h dX5_greatestDivisor_36
      · rw [if_neg q] at h
        refine lv_iload_n hx hb dX5_greatestDivisor_19 rfl (lv_at hl 0 rfl) ?_
        refine lv_iload_n hx hb dX5_greatestDivisor_20 rfl (lv_at hl 1 rfl) ?_
        obtain ⟨hi, h⟩ := s_rem_inv h
        refine lv_irem hx hb dX5_greatestDivisor_21 hi ?_
        refine lv_topi (fun v21 ev => ?_)
        replace h := h v21 ev
        refine lv_istore (lv' := [(5, .int v21), (2, .int x2), (3, .int x3), (4, .int x4)]) hx hb dX5_greatestDivisor_22 hl (by decide) rfl (fun ls hl => ?_)
        refine lv_iload_n hx hb dX5_greatestDivisor_24 rfl (lv_at hl 2 rfl) ?_
        refine lv_istore_n (lv' := [(2, .int x3), (5, .int v21), (3, .int x3), (4, .int x4)]) hx hb dX5_greatestDivisor_25 rfl hl (by decide) rfl (fun ls hl => ?_)
        refine lv_iload hx hb dX5_greatestDivisor_26 (lv_at hl 1 rfl) ?_
        refine lv_istore_n (lv' := [(3, .int v21), (2, .int x3), (5, .int v21), (4, .int x4)]) hx hb dX5_greatestDivisor_28 rfl hl (by decide) rfl (fun ls hl => ?_)
        refine lv_iinc (k := 3) (v := (x4 + (1 : Int32))) (lv' := [(4, .int (x4 + (1 : Int32))), (3, .int v21), (2, .int x3), (5, .int v21)]) hx hb dX5_greatestDivisor_29 hl rfl rfl (by decide) rfl (fun ls hl => ?_)
        refine lv_goto (tgt := 7) hx hb dX5_greatestDivisor_32 (by decide) ?_
        exact ih x3 v21 (x4 + (1 : Int32)) M h H locs ls hP hS (lv_sub hl [2, 1, 0] rfl)
set_option maxRecDepth 100000 in
set_option maxHeartbeats 4000000 in
theorem w_X5_greatestDivisor {p : Program} {l : Launch} {e : Env} {s : State} {m : MethodId} {args : Array Value} {below : List Frame} {meth : Method} {c : Code} {D : va_G} {cI : ClassId} {ad : Nat → Nat} {L : List CDs} {r : Int32} {M' : Mem} (C0 : me_X p s m args meth c cX5_greatestDivisor 6 (some .int) wsX5_greatestDivisor RX5 D cI ad L)  (x0 : Int32) (x1 : Int32) : ∀  (M : Mem), X5_greatestDivisor x0 x1 M = some (r, M') → me_W p l e rmX5_greatestDivisor s m args below meth c D cI ad L (some (.int r)) M' 6 0 [(0, .int x0), (1, .int x1)] [] M := by
  obtain ⟨hx, hb, hr, hml, hown, hts, hlk, hK, hI⟩ := id C0
  intro M h
  unfold X5_greatestDivisor at h
  intro H locs ls hP hS hl
  refine lv_iload_n hx hb dX5_greatestDivisor_0 rfl (lv_at hl 1 rfl) ?_
  refine lv_istore_n (lv' := [(2, .int x1), (0, .int x0), (1, .int x1)]) hx hb dX5_greatestDivisor_1 rfl hl (by decide) rfl (fun ls hl => ?_)
  refine lv_iload_n hx hb dX5_greatestDivisor_2 rfl (lv_at hl 1 rfl) ?_
  refine lv_istore_n (lv' := [(3, .int x0), (2, .int x1), (0, .int x0), (1, .int x1)]) hx hb dX5_greatestDivisor_3 rfl hl (by decide) rfl (fun ls hl => ?_)
  refine lv_iconst (v := (0 : Int32)) hx hb dX5_greatestDivisor_4 (by decide) ?_
  refine lv_istore (lv' := [(4, .int (0 : Int32)), (3, .int x0), (2, .int x1), (0, .int x0), (1, .int x1)]) hx hb dX5_greatestDivisor_5 hl (by decide) rfl (fun ls hl => ?_)
  exact w_X5_greatestDivisor_7 C0 FU x1 x0 (0 : Int32) M h H locs ls hP hS (lv_sub hl [2, 1, 0] rfl)
theorem c_X5_greatestDivisor {l : Launch} {D : va_G} {cI : ClassId} {ad : Nat → Nat} {L : List CDs}  {x0 : Int32} {x1 : Int32} {M M' : Mem} {r : Int32} (h : X5_greatestDivisor x0 x1 M = some (r, M')) : me_Met l yX5_greatestDivisor wsX5_greatestDivisor rmX5_greatestDivisor D cI ad L [.int x0, .int x1] (some (.int r)) M M' :=
  me_ofW (by decide) rfl (Nat.le_of_ble_eq_true rfl) (fun p e s m below meth c C0 => w_X5_greatestDivisor C0 x0 x1 M h)
abbrev rmX5_court : Room := { frames := 6, cells := 0, slots := 0, locals := 138 }
theorem hd_X5_court : yX5_court.cls = RX5 ∧ yX5_court.cls ≠ "java/lang/invoke/MethodHandle" ∧ yX5_court.cls ≠ "java/lang/invoke/VarHandle" ∧ (parseMethodDescriptor yX5_court.desc).map (fun d => d.parameters.length) = some 2 := by decide +kernel
set_option maxRecDepth 100000 in
set_option maxHeartbeats 4000000 in
theorem w_X5_court {p : Program} {l : Launch} {e : Env} {s : State} {m : MethodId} {args : Array Value} {below : List Frame} {meth : Method} {c : Code} {D : va_G} {cI : ClassId} {ad : Nat → Nat} {L : List CDs} {r : Int32} {M' : Mem} (C0 : me_X p s m args meth c cX5_court 7 (some .int) wsX5_court RX5 D cI ad L) (t : Nat) (hT : is_X5 L t) (x1 : Int32) (x2 : Int32) : ∀  (M : Mem), X5_court t x1 x2 M = some (r, M') → me_W p l e rmX5_court s m args below meth c D cI ad L (some (.int r)) M' 7 0 [(0, .ref (ad t)), (1, .int x1), (2, .int x2)] [] M := by
  obtain ⟨hx, hb, hr, hml, hown, hts, hlk, hK, hI⟩ := id C0
  intro M h
  unfold X5_court at h
  intro H locs ls hP hS hl
  refine lv_iload_n hx hb dX5_court_0 rfl (lv_at hl 1 rfl) ?_
  refine lv_if_lt (tgt := 16) hx hb dX5_court_1 (by decide) (fun q => ?_) (fun q => ?_)
  · rw [if_pos q] at h
    refine lv_iconst (v := (-1 : Int32)) hx hb dX5_court_16 (by decide) ?_
    exact me_iret hx hb hr hlk hP hS h dX5_court_17
  · rw [if_neg q] at h
    refine lv_iload_n hx hb dX5_court_4 rfl (lv_at hl 1 rfl) ?_
    refine lv_iconst (v := (2 : Int32)) hx hb dX5_court_5 (by decide) ?_
    refine lv_icmp_gt (tgt := 16) hx hb dX5_court_6 (by decide) (fun q => ?_) (fun q => ?_)
    · rw [if_pos q] at h
      refine lv_iconst (v := (-1 : Int32)) hx hb dX5_court_16 (by decide) ?_
      exact me_iret hx hb hr hlk hP hS h dX5_court_17
    · rw [if_neg q] at h
      refine lv_iload_n hx hb dX5_court_9 rfl (lv_at hl 2 rfl) ?_
      obtain ⟨v10, M10, h1, h⟩ := s_call_inv h
      refine me_callSi (As := [.int x2]) (rest := []) ⟨hx, hb, hml, hown, hts⟩ (c_X5_isZeroOrOne h1) (va_cwS 1 hts gX5_court_X5_isZeroOrOne rfl rfl rfl hd_X5_isZeroOrOne.2 ⟨(Nat.le_of_ble_eq_true rfl), (Nat.le_of_ble_eq_true rfl)⟩) hK hI hP hS rfl hl.1 rfl (Nat.le_of_ble_eq_true rfl) dX5_court_10 ⟨Nat.zero_le _, Nat.zero_le _⟩ (fun H locs hP hS => ?_)
      refine lv_if_ne (tgt := 18) hx hb dX5_court_13 (by decide) (fun q => ?_) (fun q => ?_)
      · rw [if_pos q] at h
        refine lv_aload_n hx hb dX5_court_18 rfl (lv_at hl 0 rfl) ?_
        obtain ⟨v19, M19, h1, h⟩ := s_call_inv h
        refine me_callVi (As := []) (rest := []) ⟨hx, hb, hml, hown, hts⟩ (c_X5_listDebts hT h1) (cwV 0 hts gX5_court_X5_listDebts rfl rfl rfl hd_X5_listDebts ⟨(Nat.le_of_ble_eq_true rfl), (Nat.le_of_ble_eq_true rfl)⟩) hK hI hP hS hT.1 rfl rfl hl.1 rfl (Nat.le_of_ble_eq_true rfl) dX5_court_19 ⟨Nat.zero_le _, Nat.zero_le _⟩ (fun H locs hP hS => ?_)
        refine lv_istore_n (lv' := [(3, .int v19), (0, .ref (ad t)), (1, .int x1), (2, .int x2)]) hx hb dX5_court_22 rfl hl (by decide) rfl (fun ls hl => ?_)
        refine lv_iload_n hx hb dX5_court_23 rfl (lv_at hl 0 rfl) ?_
        refine lv_iload_n hx hb dX5_court_24 rfl (lv_at hl 2 rfl) ?_
        refine lv_icmp_ge (tgt := 31) hx hb dX5_court_25 (by decide) (fun q => ?_) (fun q => ?_)
        · rw [if_pos q] at h
          refine lv_aload_n hx hb dX5_court_31 rfl (lv_at hl 1 rfl) ?_
          refine lv_iload_n hx hb dX5_court_32 rfl (lv_at hl 2 rfl) ?_
          refine lv_iload_n hx hb dX5_court_33 rfl (lv_at hl 0 rfl) ?_
          obtain ⟨v34, M34, h1, h⟩ := s_call_inv h
          refine me_callVi (As := [.int x1, .int v19]) (rest := []) ⟨hx, hb, hml, hown, hts⟩ (c_X5_lotsThatFree hT h1) (cwV 2 hts gX5_court_X5_lotsThatFree rfl rfl rfl hd_X5_lotsThatFree ⟨(Nat.le_of_ble_eq_true rfl), (Nat.le_of_ble_eq_true rfl)⟩) hK hI hP hS hT.1 rfl rfl hl.1 rfl (Nat.le_of_ble_eq_true rfl) dX5_court_34 ⟨Nat.zero_le _, Nat.zero_le _⟩ (fun H locs hP hS => ?_)
          refine lv_istore (lv' := [(4, .int v34), (3, .int v19), (0, .ref (ad t)), (1, .int x1), (2, .int x2)]) hx hb dX5_court_37 hl (by decide) rfl (fun ls hl => ?_)
          refine lv_iload_n hx hb dX5_court_39 rfl (lv_at hl 3 rfl) ?_
          refine lv_iload_n hx hb dX5_court_40 rfl (lv_at hl 1 rfl) ?_
          obtain ⟨v41, M41, h1, h⟩ := s_call_inv h
          refine me_callSi (As := [.int x1, .int v19]) (rest := []) ⟨hx, hb, hml, hown, hts⟩ (c_X5_lotsInAll h1) (va_cwS 2 hts gX5_court_X5_lotsInAll rfl rfl rfl hd_X5_lotsInAll.2 ⟨(Nat.le_of_ble_eq_true rfl), (Nat.le_of_ble_eq_true rfl)⟩) hK hI hP hS rfl hl.1 rfl (Nat.le_of_ble_eq_true rfl) dX5_court_41 ⟨Nat.zero_le _, Nat.zero_le _⟩ (fun H locs hP hS => ?_)
          refine lv_istore (lv' := [(5, .int v41), (4, .int v34), (3, .int v19), (0, .ref (ad t)), (1, .int x1), (2, .int x2)]) hx hb dX5_court_44 hl (by decide) rfl (fun ls hl => ?_)
          refine lv_iload hx hb dX5_court_46 (lv_at hl 1 rfl) ?_
          refine lv_iload hx hb dX5_court_48 (lv_at hl 0 rfl) ?_
          obtain ⟨v50, M50, h1, h⟩ := s_call_inv h
          refine me_callSi (As := [.int v34, .int v41]) (rest := []) ⟨hx, hb, hml, hown, hts⟩ (c_X5_greatestDivisor h1) (va_cwS 2 hts gX5_court_X5_greatestDivisor rfl rfl rfl hd_X5_greatestDivisor.2 ⟨(Nat.le_of_ble_eq_true rfl), (Nat.le_of_ble_eq_true rfl)⟩) hK hI hP hS rfl hl.1 rfl (Nat.le_of_ble_eq_true rfl) dX5_court_50 ⟨Nat.zero_le _, Nat.zero_le _⟩ (fun H locs hP hS => ?_)
          refine lv_istore (lv' := [(6, .int v50), (5, .int v41), (4, .int v34), (3, .int v19), (0, .ref (ad t)), (1, .int x1), (2, .int x2)]) hx hb dX5_court_53 hl (by decide) rfl (fun ls hl => ?_)
          refine lv_iload hx hb dX5_court_55 (lv_at hl 0 rfl) ?_
          refine lv_iconst (v := (1 : Int32)) hx hb dX5_court_57 (by decide) ?_
          refine lv_icmp_ge (tgt := 64) hx hb dX5_court_58 (by decide) (fun q => ?_) (fun q => ?_)
          · rw [if_pos q] at h
            refine lv_iload_n hx hb dX5_court_64 rfl (lv_at hl 6 rfl) ?_
            refine lv_if_ne (tgt := 73) hx hb dX5_court_65 (by decide) (fun q => ?_) (fun q => ?_)
            · rw [if_pos q] at h
              refine lv_iload hx hb dX5_court_73 (lv_at hl 1 rfl) ?_
              refine lv_iload hx hb dX5_court_75 (lv_at hl 0 rfl) ?_
              obtain ⟨hi, h⟩ := s_div_inv h
              refine lv_idiv hx hb dX5_court_77 hi ?_
              refine lv_topi (fun v77 ev => ?_)
              replace h := h v77 ev
              exact me_iret hx hb hr hlk hP hS h dX5_court_78
            · rw [if_neg (not_not_intro q)] at h
              refine lv_iload hx hb dX5_court_68 (lv_at hl 2 rfl) ?_
              refine lv_goto (tgt := 75) hx hb dX5_court_70 (by decide) ?_
              refine lv_iload hx hb dX5_court_75 (lv_at hl 0 rfl) ?_
              obtain ⟨hi, h⟩ := s_div_inv h
              refine lv_idiv hx hb dX5_court_77 hi ?_
              refine lv_topi (fun v77 ev => ?_)
              replace h := h v77 ev
              exact me_iret hx hb hr hlk hP hS h dX5_court_78
          · rw [if_neg q] at h
            refine lv_bipush (v := (-4 : Int32)) hx hb dX5_court_61 (by decide) ?_
            exact me_iret hx hb hr hlk hP hS h dX5_court_63
        · rw [if_neg q] at h
          refine lv_bipush (v := (-4 : Int32)) hx hb dX5_court_28 (by decide) ?_
          exact me_iret hx hb hr hlk hP hS h dX5_court_30
      · rw [if_neg (not_not_intro q)] at h
        refine lv_iconst (v := (-1 : Int32)) hx hb dX5_court_16 (by decide) ?_
        exact me_iret hx hb hr hlk hP hS h dX5_court_17
theorem c_X5_court {l : Launch} {D : va_G} {cI : ClassId} {ad : Nat → Nat} {L : List CDs} {t : Nat} (hT : is_X5 L t) {x1 : Int32} {x2 : Int32} {M M' : Mem} {r : Int32} (h : X5_court t x1 x2 M = some (r, M')) : me_Met l yX5_court wsX5_court rmX5_court D cI ad L [.ref (ad t), .int x1, .int x2] (some (.int r)) M M' :=
  me_ofW (by decide) rfl (Nat.le_of_ble_eq_true rfl) (fun p e s m below meth c C0 => w_X5_court C0 t hT x1 x2 M h)
