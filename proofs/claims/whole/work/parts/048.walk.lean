/-! ===== the walks, by program (wip/gen/gen.py) ===== -/
abbrev rmX6_fits : Room := { frames := 5, cells := 0, slots := 0, locals := 116 }
theorem hd_X6_fits : yX6_fits.cls = RX6 ∧ yX6_fits.cls ≠ "java/lang/invoke/MethodHandle" ∧ yX6_fits.cls ≠ "java/lang/invoke/VarHandle" ∧ (parseMethodDescriptor yX6_fits.desc).map (fun d => d.parameters.length) = some 1 := by decide +kernel
set_option maxRecDepth 100000 in
set_option maxHeartbeats 4000000 in
theorem w_X6_fits_20 {p : Program} {l : Launch} {e : Env} {s : State} {m : MethodId} {args : Array Value} {below : List Frame} {meth : Method} {c : Code} {D : va_G} {cI : ClassId} {ad : Nat → Nat} {L : List CDs} {r : Int32} {M' : Mem} (C0 : me_X p s m args meth c cX6_fits 5 (some .int) wsX6_fits RX6 D cI ad L) (t : Nat) (hT : is_X6 L t) (x1 : Int32) : ∀ (n : Nat) (x2 : Int32) (x3 : Int32) (x4 : Int32) (M : Mem), X6_fits_20 t x1 n x2 x3 x4 M = some (r, M') → me_W p l e rmX6_fits s m args below meth c D cI ad L (some (.int r)) M' 5 20 [(0, .ref (ad t)), (1, .int x1), (2, .int x2), (3, .int x3), (4, .int x4)] [] M := by
  obtain ⟨hx, hb, hr, hml, hown, hts, hlk, hK, hI⟩ := id C0
  intro n
  induction n with
  | zero =>
    intro x2 x3 x4 M h
    rw [X6_fits_20] at h
    cases h
  | succ n ih =>
    intro x2 x3 x4 M h
    rw [X6_fits_20] at h
    intro H locs ls hP hS hl
    refine lv_iload hx hb dX6_fits_20 (lv_at hl 4 rfl) ?_
    refine lv_bipush (v := (64 : Int32)) hx hb dX6_fits_22 (by decide) ?_
    refine lv_icmp_ge (tgt := 113) hx hb dX6_fits_24 (by decide) (fun q => ?_) (fun q => ?_)
    · rw [if_pos q] at h
      refine lv_iload_n hx hb dX6_fits_113 rfl (lv_at hl 1 rfl) ?_
      refine lv_if_ne (tgt := 121) hx hb dX6_fits_114 (by decide) (fun q => ?_) (fun q => ?_)
      · rw [if_pos q] at h
        refine lv_iload_n hx hb dX6_fits_121 rfl (lv_at hl 3 rfl) ?_
        exact me_iret hx hb hr hlk hP hS h dX6_fits_122
      · rw [if_neg (not_not_intro q)] at h
        refine lv_iload_n hx hb dX6_fits_117 rfl (lv_at hl 2 rfl) ?_
        refine lv_goto (tgt := 122) hx hb dX6_fits_118 (by decide) ?_
        exact me_iret hx hb hr hlk hP hS h dX6_fits_122
    · rw [if_neg q] at h
      refine lv_aload_n hx hb dX6_fits_27 rfl (lv_at hl 0 rfl) ?_
      refine lv_iload hx hb dX6_fits_28 (lv_at hl 4 rfl) ?_
      refine lv_bipush (v := (8 : Int32)) hx hb dX6_fits_30 (by decide) ?_
      obtain ⟨hi, h⟩ := s_div_inv h
      refine lv_idiv hx hb dX6_fits_32 hi ?_
      refine lv_topi (fun v32 ev => ?_)
      replace h := h v32 ev
      refine lv_iload hx hb dX6_fits_33 (lv_at hl 4 rfl) ?_
      refine lv_bipush (v := (8 : Int32)) hx hb dX6_fits_35 (by decide) ?_
      obtain ⟨hi, h⟩ := s_rem_inv h
      refine lv_irem hx hb dX6_fits_37 hi ?_
      refine lv_topi (fun v37 ev => ?_)
      replace h := h v37 ev
      obtain ⟨v38, M38, h1, h⟩ := s_call_inv h
      refine me_callVi (As := [.int v32, .int v37]) (rest := []) ⟨hx, hb, hml, hown, hts⟩ (c_X6_areTwo hT h1) (cwV 2 hts gX6_fits_X6_areTwo rfl rfl rfl hd_X6_areTwo ⟨(Nat.le_of_ble_eq_true rfl), (Nat.le_of_ble_eq_true rfl)⟩) hK hI hP hS hT.1 rfl rfl hl.1 rfl (Nat.le_of_ble_eq_true rfl) dX6_fits_38 ⟨Nat.zero_le _, Nat.zero_le _⟩ (fun H locs hP hS => ?_)
      refine lv_if_eq (tgt := 107) hx hb dX6_fits_41 (by decide) (fun q => ?_) (fun q => ?_)
      · rw [if_pos q] at h
        refine lv_iinc (k := 4) (v := (x4 + (1 : Int32))) (lv' := [(4, .int (x4 + (1 : Int32))), (0, .ref (ad t)), (1, .int x1), (2, .int x2), (3, .int x3)]) hx hb dX6_fits_107 hl rfl rfl (by decide) rfl (fun ls hl => ?_)
        refine lv_goto (tgt := 20) hx hb dX6_fits_110 (by decide) ?_
        exact ih x2 x3 (x4 + (1 : Int32)) M38 h H locs ls hP hS (lv_sub hl [1, 2, 3, 4, 0] rfl)
      · rw [if_neg q] at h
        refine lv_aload_n hx hb dX6_fits_44 rfl (lv_at hl 0 rfl) ?_
        refine lv_iconst (v := (0 : Int32)) hx hb dX6_fits_45 (by decide) ?_
        refine lv_iconst (v := (0 : Int32)) hx hb dX6_fits_46 (by decide) ?_
        refine lv_iload hx hb dX6_fits_47 (lv_at hl 4 rfl) ?_
        refine lv_bipush (v := (8 : Int32)) hx hb dX6_fits_49 (by decide) ?_
        obtain ⟨hi, h⟩ := s_div_inv h
        refine lv_idiv hx hb dX6_fits_51 hi ?_
        refine lv_topi (fun v51 ev => ?_)
        replace h := h v51 ev
        refine lv_iload hx hb dX6_fits_52 (lv_at hl 4 rfl) ?_
        refine lv_bipush (v := (8 : Int32)) hx hb dX6_fits_54 (by decide) ?_
        obtain ⟨hi, h⟩ := s_rem_inv h
        refine lv_irem hx hb dX6_fits_56 hi ?_
        refine lv_topi (fun v56 ev => ?_)
        replace h := h v56 ev
        obtain ⟨v57, M57, h1, h⟩ := s_call_inv h
        refine me_callVi (As := [.int (0 : Int32), .int (0 : Int32), .int v51, .int v56]) (rest := []) ⟨hx, hb, hml, hown, hts⟩ (c_X6_canDo hT h1) (cwV 4 hts gX6_fits_X6_canDo rfl rfl rfl hd_X6_canDo ⟨(Nat.le_of_ble_eq_true rfl), (Nat.le_of_ble_eq_true rfl)⟩) hK hI hP hS hT.1 rfl rfl hl.1 rfl (Nat.le_of_ble_eq_true rfl) dX6_fits_57 ⟨Nat.zero_le _, Nat.zero_le _⟩ (fun H locs hP hS => ?_)
        refine lv_if_eq (tgt := 107) hx hb dX6_fits_60 (by decide) (fun q => ?_) (fun q => ?_)
        · rw [if_pos q] at h
          refine lv_iinc (k := 4) (v := (x4 + (1 : Int32))) (lv' := [(4, .int (x4 + (1 : Int32))), (0, .ref (ad t)), (1, .int x1), (2, .int x2), (3, .int x3)]) hx hb dX6_fits_107 hl rfl rfl (by decide) rfl (fun ls hl => ?_)
          refine lv_goto (tgt := 20) hx hb dX6_fits_110 (by decide) ?_
          exact ih x2 x3 (x4 + (1 : Int32)) M57 h H locs ls hP hS (lv_sub hl [1, 2, 3, 4, 0] rfl)
        · rw [if_neg q] at h
          refine lv_aload_n hx hb dX6_fits_63 rfl (lv_at hl 0 rfl) ?_
          refine lv_iconst (v := (0 : Int32)) hx hb dX6_fits_64 (by decide) ?_
          refine lv_iconst (v := (1 : Int32)) hx hb dX6_fits_65 (by decide) ?_
          obtain ⟨u66, M66, h1, h⟩ := s_call_inv h
          refine me_callVv (As := [.int (0 : Int32), .int (1 : Int32)]) (rest := []) ⟨hx, hb, hml, hown, hts⟩ (c_X6_copy hT h1) (cwV 2 hts gX6_fits_X6_copy rfl rfl rfl hd_X6_copy ⟨(Nat.le_of_ble_eq_true rfl), (Nat.le_of_ble_eq_true rfl)⟩) hK hI hP hS hT.1 rfl rfl hl.1 rfl (Nat.le_of_ble_eq_true rfl) dX6_fits_66 ⟨Nat.zero_le _, Nat.zero_le _⟩ (fun H locs hP hS => ?_)
          refine lv_aload_n hx hb dX6_fits_69 rfl (lv_at hl 0 rfl) ?_
          refine lv_iconst (v := (1 : Int32)) hx hb dX6_fits_70 (by decide) ?_
          refine lv_iconst (v := (0 : Int32)) hx hb dX6_fits_71 (by decide) ?_
          refine lv_iload hx hb dX6_fits_72 (lv_at hl 4 rfl) ?_
          refine lv_bipush (v := (8 : Int32)) hx hb dX6_fits_74 (by decide) ?_
          obtain ⟨hi, h⟩ := s_div_inv h
          refine lv_idiv hx hb dX6_fits_76 hi ?_
          refine lv_topi (fun v76 ev => ?_)
          replace h := h v76 ev
          refine lv_iload hx hb dX6_fits_77 (lv_at hl 4 rfl) ?_
          refine lv_bipush (v := (8 : Int32)) hx hb dX6_fits_79 (by decide) ?_
          obtain ⟨hi, h⟩ := s_rem_inv h
          refine lv_irem hx hb dX6_fits_81 hi ?_
          refine lv_topi (fun v81 ev => ?_)
          replace h := h v81 ev
          obtain ⟨u82, M82, h1, h⟩ := s_call_inv h
          refine me_callVv (As := [.int (1 : Int32), .int (0 : Int32), .int v76, .int v81]) (rest := []) ⟨hx, hb, hml, hown, hts⟩ (c_X6_doAct hT h1) (cwV 4 hts gX6_fits_X6_doAct rfl rfl rfl hd_X6_doAct ⟨(Nat.le_of_ble_eq_true rfl), (Nat.le_of_ble_eq_true rfl)⟩) hK hI hP hS hT.1 rfl rfl hl.1 rfl (Nat.le_of_ble_eq_true rfl) dX6_fits_82 ⟨Nat.zero_le _, Nat.zero_le _⟩ (fun H locs hP hS => ?_)
          refine lv_aload_n hx hb dX6_fits_85 rfl (lv_at hl 0 rfl) ?_
          refine lv_iconst (v := (1 : Int32)) hx hb dX6_fits_86 (by decide) ?_
          obtain ⟨v87, M87, h1, h⟩ := s_call_inv h
          refine me_callVi (As := [.int (1 : Int32)]) (rest := []) ⟨hx, hb, hml, hown, hts⟩ (c_X6_areSilent hT h1) (cwV 1 hts gX6_fits_X6_areSilent rfl rfl rfl hd_X6_areSilent ⟨(Nat.le_of_ble_eq_true rfl), (Nat.le_of_ble_eq_true rfl)⟩) hK hI hP hS hT.1 rfl rfl hl.1 rfl (Nat.le_of_ble_eq_true rfl) dX6_fits_87 ⟨Nat.zero_le _, Nat.zero_le _⟩ (fun H locs hP hS => ?_)
          refine lv_if_eq (tgt := 107) hx hb dX6_fits_90 (by decide) (fun q => ?_) (fun q => ?_)
          · rw [if_pos q] at h
            refine lv_iinc (k := 4) (v := (x4 + (1 : Int32))) (lv' := [(4, .int (x4 + (1 : Int32))), (0, .ref (ad t)), (1, .int x1), (2, .int x2), (3, .int x3)]) hx hb dX6_fits_107 hl rfl rfl (by decide) rfl (fun ls hl => ?_)
            refine lv_goto (tgt := 20) hx hb dX6_fits_110 (by decide) ?_
            exact ih x2 x3 (x4 + (1 : Int32)) M87 h H locs ls hP hS (lv_sub hl [1, 2, 3, 4, 0] rfl)
          · rw [if_neg q] at h
            refine lv_iload_n hx hb dX6_fits_93 rfl (lv_at hl 2 rfl) ?_
            refine lv_if_ne (tgt := 102) hx hb dX6_fits_94 (by decide) (fun q => ?_) (fun q => ?_)
            · rw [if_pos q] at h
              refine lv_iload_n hx hb dX6_fits_102 rfl (lv_at hl 3 rfl) ?_
              refine lv_istore_n (lv' := [(3, .int x3), (0, .ref (ad t)), (1, .int x1), (2, .int x2), (4, .int x4)]) hx hb dX6_fits_103 rfl hl (by decide) rfl (fun ls hl => ?_)
              refine lv_iinc (k := 3) (v := (x2 + (1 : Int32))) (lv' := [(2, .int (x2 + (1 : Int32))), (3, .int x3), (0, .ref (ad t)), (1, .int x1), (4, .int x4)]) hx hb dX6_fits_104 hl rfl rfl (by decide) rfl (fun ls hl => ?_)
              refine lv_iinc (k := 4) (v := (x4 + (1 : Int32))) (lv' := [(4, .int (x4 + (1 : Int32))), (2, .int (x2 + (1 : Int32))), (3, .int x3), (0, .ref (ad t)), (1, .int x1)]) hx hb dX6_fits_107 hl rfl rfl (by decide) rfl (fun ls hl => ?_)
              refine lv_goto (tgt := 20) hx hb dX6_fits_110 (by decide) ?_
              exact ih (x2 + (1 : Int32)) x3 (x4 + (1 : Int32)) M87 h H locs ls hP hS (lv_sub hl [3, 4, 1, 2, 0] rfl)
            · rw [if_neg (not_not_intro q)] at h
              refine lv_iload hx hb dX6_fits_97 (lv_at hl 4 rfl) ?_
              refine lv_goto (tgt := 103) hx hb dX6_fits_99 (by decide) ?_
              refine lv_istore_n (lv' := [(3, .int x4), (0, .ref (ad t)), (1, .int x1), (2, .int x2), (4, .int x4)]) hx hb dX6_fits_103 rfl hl (by decide) rfl (fun ls hl => ?_)
              refine lv_iinc (k := 3) (v := (x2 + (1 : Int32))) (lv' := [(2, .int (x2 + (1 : Int32))), (3, .int x4), (0, .ref (ad t)), (1, .int x1), (4, .int x4)]) hx hb dX6_fits_104 hl rfl rfl (by decide) rfl (fun ls hl => ?_)
              refine lv_iinc (k := 4) (v := (x4 + (1 : Int32))) (lv' := [(4, .int (x4 + (1 : Int32))), (2, .int (x2 + (1 : Int32))), (3, .int x4), (0, .ref (ad t)), (1, .int x1)]) hx hb dX6_fits_107 hl rfl rfl (by decide) rfl (fun ls hl => ?_)
              refine lv_goto (tgt := 20) hx hb dX6_fits_110 (by decide) ?_
              exact ih (x2 + (1 : Int32)) x4 (x4 + (1 : Int32)) M87 h H locs ls hP hS (lv_sub hl [3, 4, 1, 2, 0] rfl)
set_option maxRecDepth 100000 in
set_option maxHeartbeats 4000000 in
theorem w_X6_fits {p : Program} {l : Launch} {e : Env} {s : State} {m : MethodId} {args : Array Value} {below : List Frame} {meth : Method} {c : Code} {D : va_G} {cI : ClassId} {ad : Nat → Nat} {L : List CDs} {r : Int32} {M' : Mem} (C0 : me_X p s m args meth c cX6_fits 5 (some .int) wsX6_fits RX6 D cI ad L) (t : Nat) (hT : is_X6 L t) (x1 : Int32) : ∀  (M : Mem), X6_fits t x1 M = some (r, M') → me_W p l e rmX6_fits s m args below meth c D cI ad L (some (.int r)) M' 5 0 [(0, .ref (ad t)), (1, .int x1)] [] M := by
  obtain ⟨hx, hb, hr, hml, hown, hts, hlk, hK, hI⟩ := id C0
  intro M h
  unfold X6_fits at h
  intro H locs ls hP hS hl
  refine lv_iload_n hx hb dX6_fits_0 rfl (lv_at hl 1 rfl) ?_
  refine lv_i2l (v := (x1).toInt64) hx hb dX6_fits_1 rfl ?_
  refine lv_lconst (v := (0 : Int64)) hx hb dX6_fits_2 (by decide) ?_
  refine lv_lconst (v := (1 : Int64)) hx hb dX6_fits_3 (by decide) ?_
  obtain ⟨v4, M4, h1, h⟩ := s_call_inv h
  refine me_callSi (As := [.long ((x1).toInt64), .long (0 : Int64), .long (1 : Int64)]) (rest := []) ⟨hx, hb, hml, hown, hts⟩ (c_X6_in h1) (va_cwS 3 hts gX6_fits_X6_in rfl rfl rfl hd_X6_in.2 ⟨(Nat.le_of_ble_eq_true rfl), (Nat.le_of_ble_eq_true rfl)⟩) hK hI hP hS rfl hl.1 rfl (Nat.le_of_ble_eq_true rfl) dX6_fits_4 ⟨Nat.zero_le _, Nat.zero_le _⟩ (fun H locs hP hS => ?_)
  refine lv_if_ne (tgt := 12) hx hb dX6_fits_7 (by decide) (fun q => ?_) (fun q => ?_)
  · rw [if_pos q] at h
    refine lv_iconst (v := (0 : Int32)) hx hb dX6_fits_12 (by decide) ?_
    refine lv_istore_n (lv' := [(2, .int (0 : Int32)), (0, .ref (ad t)), (1, .int x1)]) hx hb dX6_fits_13 rfl hl (by decide) rfl (fun ls hl => ?_)
    refine lv_bipush (v := (-4 : Int32)) hx hb dX6_fits_14 (by decide) ?_
    refine lv_istore_n (lv' := [(3, .int (-4 : Int32)), (2, .int (0 : Int32)), (0, .ref (ad t)), (1, .int x1)]) hx hb dX6_fits_16 rfl hl (by decide) rfl (fun ls hl => ?_)
    refine lv_iconst (v := (0 : Int32)) hx hb dX6_fits_17 (by decide) ?_
    refine lv_istore (lv' := [(4, .int (0 : Int32)), (3, .int (-4 : Int32)), (2, .int (0 : Int32)), (0, .ref (ad t)), (1, .int x1)]) hx hb dX6_fits_18 hl (by decide) rfl (fun ls hl => ?_)
    exact w_X6_fits_20 C0 t hT x1 FU (0 : Int32) (-4 : Int32) (0 : Int32) M4 h H locs ls hP hS (lv_sub hl [3, 4, 2, 1, 0] rfl)
  · rw [if_neg (not_not_intro q)] at h
    refine lv_iconst (v := (-1 : Int32)) hx hb dX6_fits_10 (by decide) ?_
    exact me_iret hx hb hr hlk hP hS h dX6_fits_11
theorem c_X6_fits {l : Launch} {D : va_G} {cI : ClassId} {ad : Nat → Nat} {L : List CDs} {t : Nat} (hT : is_X6 L t) {x1 : Int32} {M M' : Mem} {r : Int32} (h : X6_fits t x1 M = some (r, M')) : me_Met l yX6_fits wsX6_fits rmX6_fits D cI ad L [.ref (ad t), .int x1] (some (.int r)) M M' :=
  me_ofW (by decide) rfl (Nat.le_of_ble_eq_true rfl) (fun p e s m below meth c C0 => w_X6_fits C0 t hT x1 M h)
abbrev rmX6_year : Room := { frames := 5, cells := 0, slots := 0, locals := 116 }
theorem kX6_year_c229 : (Cond.constantLong RX6 229 (9999)) ∈ wsX6_year := List.mem_of_getElem? (i := 1) rfl
theorem kX6_year_c104 : (Cond.constantLong RX6 104 (60)) ∈ wsX6_year := List.mem_of_getElem? (i := 2) rfl
theorem kX6_year_c231 : (Cond.constantLong RX6 231 (7919)) ∈ wsX6_year := List.mem_of_getElem? (i := 3) rfl
theorem kX6_year_c233 : (Cond.constantLong RX6 233 (6151)) ∈ wsX6_year := List.mem_of_getElem? (i := 4) rfl
theorem kX6_year_c235 : (Cond.constantLong RX6 235 (65521)) ∈ wsX6_year := List.mem_of_getElem? (i := 5) rfl
theorem kX6_year_f13 : (Cond.fieldLink RX6 13 "LadderOfBowsModel" "persons" "[I") ∈ wsX6_year := List.mem_of_getElem? (i := 6) rfl
theorem in_X6_year_X6 : ∀ w ∈ wsX60, w ∈ wsX6_year := by decide +kernel
theorem hd_X6_year : yX6_year.cls = RX6 ∧ yX6_year.cls ≠ "java/lang/invoke/MethodHandle" ∧ yX6_year.cls ≠ "java/lang/invoke/VarHandle" ∧ (parseMethodDescriptor yX6_year.desc).map (fun d => d.parameters.length) = some 3 := by decide +kernel
set_option maxRecDepth 100000 in
set_option maxHeartbeats 4000000 in
theorem w_X6_year_173 {p : Program} {l : Launch} {e : Env} {s : State} {m : MethodId} {args : Array Value} {below : List Frame} {meth : Method} {c : Code} {D : va_G} {cI : ClassId} {ad : Nat → Nat} {L : List CDs} {r : Int32} {M' : Mem} (C0 : me_X p s m args meth c cX6_year 12 (some .int) wsX6_year RX6 D cI ad L) (t : Nat) (hT : is_X6 L t) (x1 : Int32) (x2 : Int32) (x3 : Int32) (x4 : Int32) (x5 : Int32) (x9 : Int32) (x10 : Int32) (x11 : Int32) (k48 : Int32 → Int32 → Mem → Option (Int32 × Mem)) (hk48 : ∀ (x4 : Int32) (x5 : Int32) (M : Mem), k48 x4 x5 M = some (r, M') → me_W p l e rmX6_year s m args below meth c D cI ad L (some (.int r)) M' 12 48 [(0, .ref (ad t)), (1, .int x1), (2, .int x2), (3, .int x3), (4, .int x4), (5, .int x5)] [] M) : ∀ (y0 : Int32) (y1 : Int32) (M : Mem), X6_year_173 t x1 x2 x3 x4 x5 x9 x10 x11 k48 y0 y1 M = some (r, M') → me_W p l e rmX6_year s m args below meth c D cI ad L (some (.int r)) M' 12 173 [(0, .ref (ad t)), (1, .int x1), (2, .int x2), (3, .int x3), (4, .int x4), (5, .int x5), (9, .int x9), (10, .int x10), (11, .int x11)] [.int y0, .int y1, .ref (ad t)] M := by
  obtain ⟨hx, hb, hr, hml, hown, hts, hlk, hK, hI⟩ := id C0
  intro y0 y1 M h
  unfold X6_year_173 at h
  intro H locs ls hP hS hl
  refine lv_iload hx hb dX6_year_173 (lv_at hl 6 rfl) ?_
  refine lv_iload hx hb dX6_year_175 (lv_at hl 7 rfl) ?_
  obtain ⟨u177, M177, h1, h⟩ := s_call_inv h
  refine me_callVv (As := [.int y1, .int y0, .int x9, .int x10]) (rest := []) ⟨hx, hb, hml, hown, hts⟩ (c_X6_doAct hT h1) (cwV 4 hts gX6_year_X6_doAct rfl rfl rfl hd_X6_doAct ⟨(Nat.le_of_ble_eq_true rfl), (Nat.le_of_ble_eq_true rfl)⟩) hK hI hP hS hT.1 rfl rfl hl.1 rfl (Nat.le_of_ble_eq_true rfl) dX6_year_177 ⟨Nat.zero_le _, Nat.zero_le _⟩ (fun H locs hP hS => ?_)
  refine lv_iload hx hb dX6_year_180 (lv_at hl 4 rfl) ?_
  refine lv_iload hx hb dX6_year_182 (lv_at hl 8 rfl) ?_
  refine lv_if_ne (tgt := 191) hx hb dX6_year_184 (by decide) (fun q => ?_) (fun q => ?_)
  · rw [if_pos q] at h
    refine lv_iconst (v := (1 : Int32)) hx hb dX6_year_191 (by decide) ?_
    refine lv_iadd hx hb dX6_year_192 ?_
    refine lv_topi (fun x4_193 ev => ?_)
    replace h := s_let_inv h x4_193 ev
    refine lv_istore (lv' := [(4, .int x4_193), (0, .ref (ad t)), (1, .int x1), (2, .int x2), (3, .int x3), (5, .int x5), (9, .int x9), (10, .int x10), (11, .int x11)]) hx hb dX6_year_193 hl (by decide) rfl (fun ls hl => ?_)
    refine lv_iinc (k := 5) (v := (x5 + (1 : Int32))) (lv' := [(5, .int (x5 + (1 : Int32))), (4, .int x4_193), (0, .ref (ad t)), (1, .int x1), (2, .int x2), (3, .int x3), (9, .int x9), (10, .int x10), (11, .int x11)]) hx hb dX6_year_195 hl rfl rfl (by decide) rfl (fun ls hl => ?_)
    refine lv_goto (tgt := 48) hx hb dX6_year_198 (by decide) ?_
    exact hk48 x4_193 (x5 + (1 : Int32)) M177 h H locs ls hP hS (lv_sub hl [2, 3, 4, 5, 1, 0] rfl)
  · rw [if_neg (not_not_intro q)] at h
    refine lv_iconst (v := (0 : Int32)) hx hb dX6_year_187 (by decide) ?_
    refine lv_goto (tgt := 192) hx hb dX6_year_188 (by decide) ?_
    refine lv_iadd hx hb dX6_year_192 ?_
    refine lv_topi (fun x4_193 ev => ?_)
    replace h := s_let_inv h x4_193 ev
    refine lv_istore (lv' := [(4, .int x4_193), (0, .ref (ad t)), (1, .int x1), (2, .int x2), (3, .int x3), (5, .int x5), (9, .int x9), (10, .int x10), (11, .int x11)]) hx hb dX6_year_193 hl (by decide) rfl (fun ls hl => ?_)
    refine lv_iinc (k := 5) (v := (x5 + (1 : Int32))) (lv' := [(5, .int (x5 + (1 : Int32))), (4, .int x4_193), (0, .ref (ad t)), (1, .int x1), (2, .int x2), (3, .int x3), (9, .int x9), (10, .int x10), (11, .int x11)]) hx hb dX6_year_195 hl rfl rfl (by decide) rfl (fun ls hl => ?_)
    refine lv_goto (tgt := 48) hx hb dX6_year_198 (by decide) ?_
    exact hk48 x4_193 (x5 + (1 : Int32)) M177 h H locs ls hP hS (lv_sub hl [2, 3, 4, 5, 1, 0] rfl)
set_option maxRecDepth 100000 in
set_option maxHeartbeats 4000000 in
theorem w_X6_year_151 {p : Program} {l : Launch} {e : Env} {s : State} {m : MethodId} {args : Array Value} {below : List Frame} {meth : Method} {c : Code} {D : va_G} {cI : ClassId} {ad : Nat → Nat} {L : List CDs} {r : Int32} {M' : Mem} (C0 : me_X p s m args meth c cX6_year 12 (some .int) wsX6_year RX6 D cI ad L) (t : Nat) (hT : is_X6 L t) (x1 : Int32) (x2 : Int32) (x3 : Int32) (x4 : Int32) (x5 : Int32) (x9 : Int32) (x10 : Int32) (x11 : Int32) (k48 : Int32 → Int32 → Mem → Option (Int32 × Mem)) (hk48 : ∀ (x4 : Int32) (x5 : Int32) (M : Mem), k48 x4 x5 M = some (r, M') → me_W p l e rmX6_year s m args below meth c D cI ad L (some (.int r)) M' 12 48 [(0, .ref (ad t)), (1, .int x1), (2, .int x2), (3, .int x3), (4, .int x4), (5, .int x5)] [] M) : ∀ (y0 : Int32) (y1 : Int32) (M : Mem), X6_year_151 t x1 x2 x3 x4 x5 x9 x10 x11 k48 y0 y1 M = some (r, M') → me_W p l e rmX6_year s m args below meth c D cI ad L (some (.int r)) M' 12 151 [(0, .ref (ad t)), (1, .int x1), (2, .int x2), (3, .int x3), (4, .int x4), (5, .int x5), (9, .int x9), (10, .int x10), (11, .int x11)] [.int y0, .int y1, .ref (ad t)] M := by
  obtain ⟨hx, hb, hr, hml, hown, hts, hlk, hK, hI⟩ := id C0
  intro y0 y1 M h
  unfold X6_year_151 at h
  intro H locs ls hP hS hl
  refine lv_iload hx hb dX6_year_151 (lv_at hl 6 rfl) ?_
  refine lv_iload hx hb dX6_year_153 (lv_at hl 7 rfl) ?_
  obtain ⟨v155, M155, h1, h⟩ := s_call_inv h
  refine me_callVi (As := [.int y1, .int y0, .int x9, .int x10]) (rest := []) ⟨hx, hb, hml, hown, hts⟩ (c_X6_canDo hT h1) (cwV 4 hts gX6_year_X6_canDo rfl rfl rfl hd_X6_canDo ⟨(Nat.le_of_ble_eq_true rfl), (Nat.le_of_ble_eq_true rfl)⟩) hK hI hP hS hT.1 rfl rfl hl.1 rfl (Nat.le_of_ble_eq_true rfl) dX6_year_155 ⟨Nat.zero_le _, Nat.zero_le _⟩ (fun H locs hP hS => ?_)
  refine lv_if_eq (tgt := 195) hx hb dX6_year_158 (by decide) (fun q => ?_) (fun q => ?_)
  · rw [if_pos q] at h
    refine lv_iinc (k := 5) (v := (x5 + (1 : Int32))) (lv' := [(5, .int (x5 + (1 : Int32))), (0, .ref (ad t)), (1, .int x1), (2, .int x2), (3, .int x3), (4, .int x4), (9, .int x9), (10, .int x10), (11, .int x11)]) hx hb dX6_year_195 hl rfl rfl (by decide) rfl (fun ls hl => ?_)
    refine lv_goto (tgt := 48) hx hb dX6_year_198 (by decide) ?_
    exact hk48 x4 (x5 + (1 : Int32)) M155 h H locs ls hP hS (lv_sub hl [1, 2, 3, 4, 5, 0] rfl)
  · rw [if_neg q] at h
    refine lv_aload_n hx hb dX6_year_161 rfl (lv_at hl 0 rfl) ?_
    refine lv_iconst (v := (1 : Int32)) hx hb dX6_year_162 (by decide) ?_
    refine lv_iload hx hb dX6_year_163 (lv_at hl 8 rfl) ?_
    refine lv_if_ne (tgt := 172) hx hb dX6_year_165 (by decide) (fun q => ?_) (fun q => ?_)
    · rw [if_pos q] at h
      refine lv_iconst (v := (1 : Int32)) hx hb dX6_year_172 (by decide) ?_
      exact w_X6_year_173 C0 t hT x1 x2 x3 x4 x5 x9 x10 x11 k48 hk48 (1 : Int32) (1 : Int32) M155 h H locs ls hP hS (lv_sub hl [0, 1, 2, 3, 4, 5, 6, 7, 8] rfl)
    · rw [if_neg (not_not_intro q)] at h
      refine lv_iconst (v := (0 : Int32)) hx hb dX6_year_168 (by decide) ?_
      refine lv_goto (tgt := 173) hx hb dX6_year_169 (by decide) ?_
      exact w_X6_year_173 C0 t hT x1 x2 x3 x4 x5 x9 x10 x11 k48 hk48 (0 : Int32) (1 : Int32) M155 h H locs ls hP hS (lv_sub hl [0, 1, 2, 3, 4, 5, 6, 7, 8] rfl)
set_option maxRecDepth 100000 in
set_option maxHeartbeats 4000000 in
theorem w_X6_year_48 {p : Program} {l : Launch} {e : Env} {s : State} {m : MethodId} {args : Array Value} {below : List Frame} {meth : Method} {c : Code} {D : va_G} {cI : ClassId} {ad : Nat → Nat} {L : List CDs} {r : Int32} {M' : Mem} (C0 : me_X p s m args meth c cX6_year 12 (some .int) wsX6_year RX6 D cI ad L) (t : Nat) (hT : is_X6 L t) (x1 : Int32) (x2 : Int32) (x3 : Int32) : ∀ (n : Nat) (x4 : Int32) (x5 : Int32) (M : Mem), X6_year_48 t x1 x2 x3 n x4 x5 M = some (r, M') → me_W p l e rmX6_year s m args below meth c D cI ad L (some (.int r)) M' 12 48 [(0, .ref (ad t)), (1, .int x1), (2, .int x2), (3, .int x3), (4, .int x4), (5, .int x5)] [] M := by
  obtain ⟨hx, hb, hr, hml, hown, hts, hlk, hK, hI⟩ := id C0
  intro n
  induction n with
  | zero =>
    intro x4 x5 M h
    rw [X6_year_48] at h
    cases h
  | succ n ih =>
    intro x4 x5 M h
    rw [X6_year_48] at h
    intro H locs ls hP hS hl
    refine lv_iload hx hb dX6_year_48 (lv_at hl 5 rfl) ?_
    refine lv_iload_n hx hb dX6_year_50 rfl (lv_at hl 2 rfl) ?_
    refine lv_icmp_ge (tgt := 201) hx hb dX6_year_51 (by decide) (fun q => ?_) (fun q => ?_)
    · rw [if_pos q] at h
      refine lv_iload_n hx hb dX6_year_201 rfl (lv_at hl 3 rfl) ?_
      refine lv_if_ne (tgt := 213) hx hb dX6_year_202 (by decide) (fun q => ?_) (fun q => ?_)
      · rw [if_pos q] at h
        refine lv_iload hx hb dX6_year_213 (lv_at hl 4 rfl) ?_
        exact me_iret hx hb hr hlk hP hS h dX6_year_215
      · rw [if_neg (not_not_intro q)] at h
        refine lv_aload_n hx hb dX6_year_205 rfl (lv_at hl 0 rfl) ?_
        refine lv_iconst (v := (1 : Int32)) hx hb dX6_year_206 (by decide) ?_
        obtain ⟨v207, M207, h1, h⟩ := s_call_inv h
        refine me_callVi (As := [.int (1 : Int32)]) (rest := []) ⟨hx, hb, hml, hown, hts⟩ (c_X6_allOf hT h1) (cwV 1 hts gX6_year_X6_allOf rfl rfl rfl hd_X6_allOf ⟨(Nat.le_of_ble_eq_true rfl), (Nat.le_of_ble_eq_true rfl)⟩) hK hI hP hS hT.1 rfl rfl hl.1 rfl (Nat.le_of_ble_eq_true rfl) dX6_year_207 ⟨Nat.zero_le _, Nat.zero_le _⟩ (fun H locs hP hS => ?_)
        refine lv_goto (tgt := 215) hx hb dX6_year_210 (by decide) ?_
        exact me_iret hx hb hr hlk hP hS h dX6_year_215
    · rw [if_neg q] at h
      refine lv_ldc2 (v := (7919 : Int64)) hx hb hown (hts _ kX6_year_c231) dX6_year_54 ?_
      refine lv_iload_n hx hb dX6_year_57 rfl (lv_at hl 1 rfl) ?_
      refine lv_i2l (v := (x1).toInt64) hx hb dX6_year_58 rfl ?_
      refine lv_lmul hx hb dX6_year_59 ?_
      refine lv_ldc2 (v := (6151 : Int64)) hx hb hown (hts _ kX6_year_c233) dX6_year_60 ?_
      refine lv_iload hx hb dX6_year_63 (lv_at hl 5 rfl) ?_
      refine lv_i2l (v := (x5).toInt64) hx hb dX6_year_65 rfl ?_
      refine lv_lmul hx hb dX6_year_66 ?_
      refine lv_ladd hx hb dX6_year_67 ?_
      refine lv_lconst (v := (1 : Int64)) hx hb dX6_year_68 (by decide) ?_
      refine lv_ladd hx hb dX6_year_69 ?_
      refine lv_topl (fun x6_70 ev => ?_)
      replace h := s_letl_inv h x6_70 ev
      refine lv_lstore (lv' := [(6, .long x6_70), (0, .ref (ad t)), (1, .int x1), (2, .int x2), (3, .int x3), (4, .int x4), (5, .int x5)]) hx hb dX6_year_70 hl (by decide) rfl (fun ls hl => ?_)
      refine lv_lload hx hb dX6_year_72 (lv_at hl 0 rfl) ?_
      refine lv_lload hx hb dX6_year_74 (lv_at hl 0 rfl) ?_
      refine lv_lmul hx hb dX6_year_76 ?_
      refine lv_ldc2 (v := (65521 : Int64)) hx hb hown (hts _ kX6_year_c235) dX6_year_77 ?_
      obtain ⟨hi, h⟩ := s_reml_inv h
      refine lv_lrem hx hb dX6_year_80 hi ?_
      refine lv_topl (fun v80 ev => ?_)
      replace h := h v80 ev
      refine lv_l2i (v := (v80).toInt32) hx hb dX6_year_81 rfl ?_
      refine lv_topi (fun x8_82 ev => ?_)
      replace h := s_let_inv h x8_82 ev
      refine lv_istore (lv' := [(8, .int x8_82), (6, .long x6_70), (0, .ref (ad t)), (1, .int x1), (2, .int x2), (3, .int x3), (4, .int x4), (5, .int x5)]) hx hb dX6_year_82 hl (by decide) rfl (fun ls hl => ?_)
      refine lv_iload hx hb dX6_year_84 (lv_at hl 0 rfl) ?_
      refine lv_aload_n hx hb dX6_year_86 rfl (lv_at hl 2 rfl) ?_
      refine me_getr (ci := 6) (C := RX6) (T := TX6) (N := 22) hx hb hts in_X6_year_X6 hown hK hP hT.1 rfl 2 (by decide) (hts _ kX6_year_f13) rfl dX6_year_87 ?_
      refine lv_iconst (v := (0 : Int32)) hx hb dX6_year_90 (by decide) ?_
      obtain ⟨hi, h⟩ := s_ald_inv h
      refine me_ald hx hb hK hP hT.2.2.1 hi dX6_year_91 (fun v91 ev => ?_)
      replace h := h v91 ev
      obtain ⟨hi, h⟩ := s_rem_inv h
      refine lv_irem hx hb dX6_year_92 hi ?_
      refine lv_topi (fun v92 ev => ?_)
      replace h := h v92 ev
      refine lv_istore (lv' := [(9, .int v92), (8, .int x8_82), (6, .long x6_70), (0, .ref (ad t)), (1, .int x1), (2, .int x2), (3, .int x3), (4, .int x4), (5, .int x5)]) hx hb dX6_year_93 hl (by decide) rfl (fun ls hl => ?_)
      refine lv_iload hx hb dX6_year_95 (lv_at hl 1 rfl) ?_
      refine lv_bipush (v := (8 : Int32)) hx hb dX6_year_97 (by decide) ?_
      obtain ⟨hi, h⟩ := s_div_inv h
      refine lv_idiv hx hb dX6_year_99 hi ?_
      refine lv_topi (fun v99 ev => ?_)
      replace h := h v99 ev
      refine lv_aload_n hx hb dX6_year_100 rfl (lv_at hl 3 rfl) ?_
      refine me_getr (ci := 6) (C := RX6) (T := TX6) (N := 22) hx hb hts in_X6_year_X6 hown hK hP hT.1 rfl 2 (by decide) (hts _ kX6_year_f13) rfl dX6_year_101 ?_
      refine lv_iconst (v := (0 : Int32)) hx hb dX6_year_104 (by decide) ?_
      obtain ⟨hi, h⟩ := s_ald_inv h
      refine me_ald hx hb hK hP hT.2.2.1 hi dX6_year_105 (fun v105 ev => ?_)
      replace h := h v105 ev
      obtain ⟨hi, h⟩ := s_rem_inv h
      refine lv_irem hx hb dX6_year_106 hi ?_
      refine lv_topi (fun v106 ev => ?_)
      replace h := h v106 ev
      refine lv_istore (lv' := [(10, .int v106), (9, .int v92), (8, .int x8_82), (6, .long x6_70), (0, .ref (ad t)), (1, .int x1), (2, .int x2), (3, .int x3), (4, .int x4), (5, .int x5)]) hx hb dX6_year_107 hl (by decide) rfl (fun ls hl => ?_)
      refine lv_iload hx hb dX6_year_109 (lv_at hl 2 rfl) ?_
      refine lv_bipush (v := (64 : Int32)) hx hb dX6_year_111 (by decide) ?_
      obtain ⟨hi, h⟩ := s_div_inv h
      refine lv_idiv hx hb dX6_year_113 hi ?_
      refine lv_topi (fun v113 ev => ?_)
      replace h := h v113 ev
      refine lv_iconst (v := (4 : Int32)) hx hb dX6_year_114 (by decide) ?_
      obtain ⟨hi, h⟩ := s_rem_inv h
      refine lv_irem hx hb dX6_year_115 hi ?_
      refine lv_topi (fun v115 ev => ?_)
      replace h := h v115 ev
      refine lv_istore (lv' := [(11, .int v115), (10, .int v106), (9, .int v92), (8, .int x8_82), (6, .long x6_70), (0, .ref (ad t)), (1, .int x1), (2, .int x2), (3, .int x3), (4, .int x4), (5, .int x5)]) hx hb dX6_year_116 hl (by decide) rfl (fun ls hl => ?_)
      refine lv_iload hx hb dX6_year_118 (lv_at hl 0 rfl) ?_
      refine lv_iconst (v := (1 : Int32)) hx hb dX6_year_120 (by decide) ?_
      refine lv_icmp_ne (tgt := 132) hx hb dX6_year_121 (by decide) (fun q => ?_) (fun q => ?_)
      · rw [if_pos q] at h
        refine lv_iload hx hb dX6_year_132 (lv_at hl 2 rfl) ?_
        refine lv_iload hx hb dX6_year_134 (lv_at hl 1 rfl) ?_
        refine lv_icmp_eq (tgt := 195) hx hb dX6_year_136 (by decide) (fun q => ?_) (fun q => ?_)
        · rw [if_pos q] at h
          refine lv_iinc (k := 10) (v := (x5 + (1 : Int32))) (lv' := [(5, .int (x5 + (1 : Int32))), (11, .int v115), (10, .int v106), (9, .int v92), (8, .int x8_82), (6, .long x6_70), (0, .ref (ad t)), (1, .int x1), (2, .int x2), (3, .int x3), (4, .int x4)]) hx hb dX6_year_195 hl rfl rfl (by decide) rfl (fun ls hl => ?_)
          refine lv_goto (tgt := 48) hx hb dX6_year_198 (by decide) ?_
          exact ih x4 (x5 + (1 : Int32)) M h H locs ls hP hS (lv_sub hl [6, 7, 8, 9, 10, 0] rfl)
        · rw [if_neg q] at h
          refine lv_aload_n hx hb dX6_year_139 rfl (lv_at hl 5 rfl) ?_
          refine lv_iconst (v := (1 : Int32)) hx hb dX6_year_140 (by decide) ?_
          refine lv_iload hx hb dX6_year_141 (lv_at hl 0 rfl) ?_
          refine lv_if_ne (tgt := 150) hx hb dX6_year_143 (by decide) (fun q => ?_) (fun q => ?_)
          · rw [if_pos q] at h
            refine lv_iconst (v := (1 : Int32)) hx hb dX6_year_150 (by decide) ?_
            exact w_X6_year_151 C0 t hT x1 x2 x3 x4 x5 v92 v106 v115 (X6_year_48 t x1 x2 x3 n) (fun x4 x5 M h => ih x4 x5 M h) (1 : Int32) (1 : Int32) M h H locs ls hP hS (lv_sub hl [5, 6, 7, 8, 9, 10, 2, 1, 0] rfl)
          · rw [if_neg (not_not_intro q)] at h
            refine lv_iconst (v := (0 : Int32)) hx hb dX6_year_146 (by decide) ?_
            refine lv_goto (tgt := 151) hx hb dX6_year_147 (by decide) ?_
            exact w_X6_year_151 C0 t hT x1 x2 x3 x4 x5 v92 v106 v115 (X6_year_48 t x1 x2 x3 n) (fun x4 x5 M h => ih x4 x5 M h) (0 : Int32) (1 : Int32) M h H locs ls hP hS (lv_sub hl [5, 6, 7, 8, 9, 10, 2, 1, 0] rfl)
      · rw [if_neg (not_not_intro q)] at h
        refine lv_aload_n hx hb dX6_year_124 rfl (lv_at hl 5 rfl) ?_
        refine lv_iconst (v := (1 : Int32)) hx hb dX6_year_125 (by decide) ?_
        obtain ⟨u126, M126, h1, h⟩ := s_call_inv h
        refine me_callVv (As := [.int (1 : Int32)]) (rest := []) ⟨hx, hb, hml, hown, hts⟩ (c_X6_goDay hT h1) (cwV 1 hts gX6_year_X6_goDay rfl rfl rfl hd_X6_goDay ⟨(Nat.le_of_ble_eq_true rfl), (Nat.le_of_ble_eq_true rfl)⟩) hK hI hP hS hT.1 rfl rfl hl.1 rfl (Nat.le_of_ble_eq_true rfl) dX6_year_126 ⟨Nat.zero_le _, Nat.zero_le _⟩ (fun H locs hP hS => ?_)
        refine lv_goto (tgt := 195) hx hb dX6_year_129 (by decide) ?_
        refine lv_iinc (k := 10) (v := (x5 + (1 : Int32))) (lv' := [(5, .int (x5 + (1 : Int32))), (11, .int v115), (10, .int v106), (9, .int v92), (8, .int x8_82), (6, .long x6_70), (0, .ref (ad t)), (1, .int x1), (2, .int x2), (3, .int x3), (4, .int x4)]) hx hb dX6_year_195 hl rfl rfl (by decide) rfl (fun ls hl => ?_)
        refine lv_goto (tgt := 48) hx hb dX6_year_198 (by decide) ?_
        exact ih x4 (x5 + (1 : Int32)) M126 h H locs ls hP hS (lv_sub hl [6, 7, 8, 9, 10, 0] rfl)
set_option maxRecDepth 100000 in
set_option maxHeartbeats 4000000 in
theorem w_X6_year {p : Program} {l : Launch} {e : Env} {s : State} {m : MethodId} {args : Array Value} {below : List Frame} {meth : Method} {c : Code} {D : va_G} {cI : ClassId} {ad : Nat → Nat} {L : List CDs} {r : Int32} {M' : Mem} (C0 : me_X p s m args meth c cX6_year 12 (some .int) wsX6_year RX6 D cI ad L) (t : Nat) (hT : is_X6 L t) (x1 : Int32) (x2 : Int32) (x3 : Int32) : ∀  (M : Mem), X6_year t x1 x2 x3 M = some (r, M') → me_W p l e rmX6_year s m args below meth c D cI ad L (some (.int r)) M' 12 0 [(0, .ref (ad t)), (1, .int x1), (2, .int x2), (3, .int x3)] [] M := by
  obtain ⟨hx, hb, hr, hml, hown, hts, hlk, hK, hI⟩ := id C0
  intro M h
  unfold X6_year at h
  intro H locs ls hP hS hl
  refine lv_iload_n hx hb dX6_year_0 rfl (lv_at hl 1 rfl) ?_
  refine lv_i2l (v := (x1).toInt64) hx hb dX6_year_1 rfl ?_
  refine lv_lconst (v := (0 : Int64)) hx hb dX6_year_2 (by decide) ?_
  refine lv_ldc2 (v := (9999 : Int64)) hx hb hown (hts _ kX6_year_c229) dX6_year_3 ?_
  obtain ⟨v6, M6, h1, h⟩ := s_call_inv h
  refine me_callSi (As := [.long ((x1).toInt64), .long (0 : Int64), .long (9999 : Int64)]) (rest := []) ⟨hx, hb, hml, hown, hts⟩ (c_X6_in h1) (va_cwS 3 hts gX6_year_X6_in rfl rfl rfl hd_X6_in.2 ⟨(Nat.le_of_ble_eq_true rfl), (Nat.le_of_ble_eq_true rfl)⟩) hK hI hP hS rfl hl.1 rfl (Nat.le_of_ble_eq_true rfl) dX6_year_6 ⟨Nat.zero_le _, Nat.zero_le _⟩ (fun H locs hP hS => ?_)
  refine lv_if_eq (tgt := 34) hx hb dX6_year_9 (by decide) (fun q => ?_) (fun q => ?_)
  · rw [if_pos q] at h
    refine lv_iconst (v := (-1 : Int32)) hx hb dX6_year_34 (by decide) ?_
    exact me_iret hx hb hr hlk hP hS h dX6_year_35
  · rw [if_neg q] at h
    refine lv_iload_n hx hb dX6_year_12 rfl (lv_at hl 2 rfl) ?_
    refine lv_i2l (v := (x2).toInt64) hx hb dX6_year_13 rfl ?_
    refine lv_lconst (v := (1 : Int64)) hx hb dX6_year_14 (by decide) ?_
    refine lv_ldc2 (v := (60 : Int64)) hx hb hown (hts _ kX6_year_c104) dX6_year_15 ?_
    obtain ⟨v18, M18, h1, h⟩ := s_call_inv h
    refine me_callSi (As := [.long ((x2).toInt64), .long (1 : Int64), .long (60 : Int64)]) (rest := []) ⟨hx, hb, hml, hown, hts⟩ (c_X6_in h1) (va_cwS 3 hts gX6_year_X6_in rfl rfl rfl hd_X6_in.2 ⟨(Nat.le_of_ble_eq_true rfl), (Nat.le_of_ble_eq_true rfl)⟩) hK hI hP hS rfl hl.1 rfl (Nat.le_of_ble_eq_true rfl) dX6_year_18 ⟨Nat.zero_le _, Nat.zero_le _⟩ (fun H locs hP hS => ?_)
    refine lv_if_eq (tgt := 34) hx hb dX6_year_21 (by decide) (fun q => ?_) (fun q => ?_)
    · rw [if_pos q] at h
      refine lv_iconst (v := (-1 : Int32)) hx hb dX6_year_34 (by decide) ?_
      exact me_iret hx hb hr hlk hP hS h dX6_year_35
    · rw [if_neg q] at h
      refine lv_iload_n hx hb dX6_year_24 rfl (lv_at hl 3 rfl) ?_
      refine lv_i2l (v := (x3).toInt64) hx hb dX6_year_25 rfl ?_
      refine lv_lconst (v := (0 : Int64)) hx hb dX6_year_26 (by decide) ?_
      refine lv_lconst (v := (1 : Int64)) hx hb dX6_year_27 (by decide) ?_
      obtain ⟨v28, M28, h1, h⟩ := s_call_inv h
      refine me_callSi (As := [.long ((x3).toInt64), .long (0 : Int64), .long (1 : Int64)]) (rest := []) ⟨hx, hb, hml, hown, hts⟩ (c_X6_in h1) (va_cwS 3 hts gX6_year_X6_in rfl rfl rfl hd_X6_in.2 ⟨(Nat.le_of_ble_eq_true rfl), (Nat.le_of_ble_eq_true rfl)⟩) hK hI hP hS rfl hl.1 rfl (Nat.le_of_ble_eq_true rfl) dX6_year_28 ⟨Nat.zero_le _, Nat.zero_le _⟩ (fun H locs hP hS => ?_)
      refine lv_if_ne (tgt := 36) hx hb dX6_year_31 (by decide) (fun q => ?_) (fun q => ?_)
      · rw [if_pos q] at h
        refine lv_aload_n hx hb dX6_year_36 rfl (lv_at hl 0 rfl) ?_
        refine lv_iconst (v := (0 : Int32)) hx hb dX6_year_37 (by decide) ?_
        refine lv_iconst (v := (1 : Int32)) hx hb dX6_year_38 (by decide) ?_
        obtain ⟨u39, M39, h1, h⟩ := s_call_inv h
        refine me_callVv (As := [.int (0 : Int32), .int (1 : Int32)]) (rest := []) ⟨hx, hb, hml, hown, hts⟩ (c_X6_copy hT h1) (cwV 2 hts gX6_year_X6_copy rfl rfl rfl hd_X6_copy ⟨(Nat.le_of_ble_eq_true rfl), (Nat.le_of_ble_eq_true rfl)⟩) hK hI hP hS hT.1 rfl rfl hl.1 rfl (Nat.le_of_ble_eq_true rfl) dX6_year_39 ⟨Nat.zero_le _, Nat.zero_le _⟩ (fun H locs hP hS => ?_)
        refine lv_iconst (v := (0 : Int32)) hx hb dX6_year_42 (by decide) ?_
        refine lv_istore (lv' := [(4, .int (0 : Int32)), (0, .ref (ad t)), (1, .int x1), (2, .int x2), (3, .int x3)]) hx hb dX6_year_43 hl (by decide) rfl (fun ls hl => ?_)
        refine lv_iconst (v := (0 : Int32)) hx hb dX6_year_45 (by decide) ?_
        refine lv_istore (lv' := [(5, .int (0 : Int32)), (4, .int (0 : Int32)), (0, .ref (ad t)), (1, .int x1), (2, .int x2), (3, .int x3)]) hx hb dX6_year_46 hl (by decide) rfl (fun ls hl => ?_)
        exact w_X6_year_48 C0 t hT x1 x2 x3 FU (0 : Int32) (0 : Int32) M39 h H locs ls hP hS (lv_sub hl [2, 3, 4, 5, 1, 0] rfl)
      · rw [if_neg (not_not_intro q)] at h
        refine lv_iconst (v := (-1 : Int32)) hx hb dX6_year_34 (by decide) ?_
        exact me_iret hx hb hr hlk hP hS h dX6_year_35
theorem c_X6_year {l : Launch} {D : va_G} {cI : ClassId} {ad : Nat → Nat} {L : List CDs} {t : Nat} (hT : is_X6 L t) {x1 : Int32} {x2 : Int32} {x3 : Int32} {M M' : Mem} {r : Int32} (h : X6_year t x1 x2 x3 M = some (r, M')) : me_Met l yX6_year wsX6_year rmX6_year D cI ad L [.ref (ad t), .int x1, .int x2, .int x3] (some (.int r)) M M' :=
  me_ofW (by decide) rfl (Nat.le_of_ble_eq_true rfl) (fun p e s m below meth c C0 => w_X6_year C0 t hT x1 x2 x3 M h)
abbrev rmX6_copyActs : Room := { frames := 0, cells := 0, slots := 0, locals := 0 }
theorem kX6_copyActs_f28 : (Cond.fieldLink RX6 28 "LadderOfBowsModel" "acts" "[I") ∈ wsX6_copyActs := List.mem_of_getElem? (i := 1) rfl
theorem kX6_copyActs_f31 : (Cond.fieldLink RX6 31 "LadderOfBowsModel" "actKind" "[I") ∈ wsX6_copyActs := List.mem_of_getElem? (i := 2) rfl
theorem kX6_copyActs_f34 : (Cond.fieldLink RX6 34 "LadderOfBowsModel" "actOne" "[I") ∈ wsX6_copyActs := List.mem_of_getElem? (i := 3) rfl
theorem kX6_copyActs_f37 : (Cond.fieldLink RX6 37 "LadderOfBowsModel" "actTwo" "[I") ∈ wsX6_copyActs := List.mem_of_getElem? (i := 4) rfl
theorem in_X6_copyActs_X6 : ∀ w ∈ wsX60, w ∈ wsX6_copyActs := by decide +kernel
theorem hd_X6_copyActs : yX6_copyActs.cls = RX6 ∧ yX6_copyActs.cls ≠ "java/lang/invoke/MethodHandle" ∧ yX6_copyActs.cls ≠ "java/lang/invoke/VarHandle" ∧ (parseMethodDescriptor yX6_copyActs.desc).map (fun d => d.parameters.length) = some 2 := by decide +kernel
set_option maxRecDepth 100000 in
set_option maxHeartbeats 4000000 in
theorem w_X6_copyActs_14 {p : Program} {l : Launch} {e : Env} {s : State} {m : MethodId} {args : Array Value} {below : List Frame} {meth : Method} {c : Code} {D : va_G} {cI : ClassId} {ad : Nat → Nat} {L : List CDs} {r : Unit} {M' : Mem} (C0 : me_X p s m args meth c cX6_copyActs 4 none wsX6_copyActs RX6 D cI ad L) (t : Nat) (hT : is_X6 L t) (x1 : Int32) (x2 : Int32) : ∀ (n : Nat) (x3 : Int32) (M : Mem), X6_copyActs_14 t x1 x2 n x3 M = some (r, M') → me_W p l e rmX6_copyActs s m args below meth c D cI ad L none M' 4 14 [(0, .ref (ad t)), (1, .int x1), (2, .int x2), (3, .int x3)] [] M := by
  obtain ⟨hx, hb, hr, hml, hown, hts, hlk, hK, hI⟩ := id C0
  intro n
  induction n with
  | zero =>
    intro x3 M h
    rw [X6_copyActs_14] at h
    cases h
  | succ n ih =>
    intro x3 M h
    rw [X6_copyActs_14] at h
    intro H locs ls hP hS hl
    refine lv_iload_n hx hb dX6_copyActs_14 rfl (lv_at hl 3 rfl) ?_
    refine lv_bipush (v := (40 : Int32)) hx hb dX6_copyActs_15 (by decide) ?_
    refine lv_icmp_ge (tgt := 92) hx hb dX6_copyActs_17 (by decide) (fun q => ?_) (fun q => ?_)
    · rw [if_pos q] at h
      exact me_vret hx hb hr hlk hP hS h dX6_copyActs_92
    · rw [if_neg q] at h
      refine lv_aload_n hx hb dX6_copyActs_20 rfl (lv_at hl 0 rfl) ?_
      refine me_getr (ci := 6) (C := RX6) (T := TX6) (N := 22) hx hb hts in_X6_copyActs_X6 hown hK hP hT.1 rfl 8 (by decide) (hts _ kX6_copyActs_f31) rfl dX6_copyActs_21 ?_
      refine lv_bipush (v := (40 : Int32)) hx hb dX6_copyActs_24 (by decide) ?_
      refine lv_iload_n hx hb dX6_copyActs_26 rfl (lv_at hl 2 rfl) ?_
      refine lv_imul hx hb dX6_copyActs_27 ?_
      refine lv_iload_n hx hb dX6_copyActs_28 rfl (lv_at hl 3 rfl) ?_
      refine lv_iadd hx hb dX6_copyActs_29 ?_
      refine lv_aload_n hx hb dX6_copyActs_30 rfl (lv_at hl 0 rfl) ?_
      refine me_getr (ci := 6) (C := RX6) (T := TX6) (N := 22) hx hb hts in_X6_copyActs_X6 hown hK hP hT.1 rfl 8 (by decide) (hts _ kX6_copyActs_f31) rfl dX6_copyActs_31 ?_
      refine lv_bipush (v := (40 : Int32)) hx hb dX6_copyActs_34 (by decide) ?_
      refine lv_iload_n hx hb dX6_copyActs_36 rfl (lv_at hl 1 rfl) ?_
      refine lv_imul hx hb dX6_copyActs_37 ?_
      refine lv_iload_n hx hb dX6_copyActs_38 rfl (lv_at hl 3 rfl) ?_
      refine lv_iadd hx hb dX6_copyActs_39 ?_
      obtain ⟨hi, h⟩ := s_ald_inv h
      refine me_ald hx hb hK hP hT.2.2.2.2.2.2.2.2.1 hi dX6_copyActs_40 (fun v40 ev => ?_)
      replace h := h v40 ev
      obtain ⟨hi, h⟩ := s_ast_inv h
      refine me_ast hx hb hK hI hP hS hT.2.2.2.2.2.2.2.2.1 hi dX6_copyActs_41 (fun H locs M41 eM hP hS => ?_)
      replace h := h M41 eM
      refine lv_aload_n hx hb dX6_copyActs_42 rfl (lv_at hl 0 rfl) ?_
      refine me_getr (ci := 6) (C := RX6) (T := TX6) (N := 22) hx hb hts in_X6_copyActs_X6 hown hK hP hT.1 rfl 9 (by decide) (hts _ kX6_copyActs_f34) rfl dX6_copyActs_43 ?_
      refine lv_bipush (v := (40 : Int32)) hx hb dX6_copyActs_46 (by decide) ?_
      refine lv_iload_n hx hb dX6_copyActs_48 rfl (lv_at hl 2 rfl) ?_
      refine lv_imul hx hb dX6_copyActs_49 ?_
      refine lv_iload_n hx hb dX6_copyActs_50 rfl (lv_at hl 3 rfl) ?_
      refine lv_iadd hx hb dX6_copyActs_51 ?_
      refine lv_aload_n hx hb dX6_copyActs_52 rfl (lv_at hl 0 rfl) ?_
      refine me_getr (ci := 6) (C := RX6) (T := TX6) (N := 22) hx hb hts in_X6_copyActs_X6 hown hK hP hT.1 rfl 9 (by decide) (hts _ kX6_copyActs_f34) rfl dX6_copyActs_53 ?_
      refine lv_bipush (v := (40 : Int32)) hx hb dX6_copyActs_56 (by decide) ?_
      refine lv_iload_n hx hb dX6_copyActs_58 rfl (lv_at hl 1 rfl) ?_
      refine lv_imul hx hb dX6_copyActs_59 ?_
      refine lv_iload_n hx hb dX6_copyActs_60 rfl (lv_at hl 3 rfl) ?_
      refine lv_iadd hx hb dX6_copyActs_61 ?_
      obtain ⟨hi, h⟩ := s_ald_inv h
      refine me_ald hx hb hK hP hT.2.2.2.2.2.2.2.2.2.1 hi dX6_copyActs_62 (fun v62 ev => ?_)
      replace h := h v62 ev
      obtain ⟨hi, h⟩ := s_ast_inv h
      refine me_ast hx hb hK hI hP hS hT.2.2.2.2.2.2.2.2.2.1 hi dX6_copyActs_63 (fun H locs M63 eM hP hS => ?_)
      replace h := h M63 eM
      refine lv_aload_n hx hb dX6_copyActs_64 rfl (lv_at hl 0 rfl) ?_
      refine me_getr (ci := 6) (C := RX6) (T := TX6) (N := 22) hx hb hts in_X6_copyActs_X6 hown hK hP hT.1 rfl 10 (by decide) (hts _ kX6_copyActs_f37) rfl dX6_copyActs_65 ?_
      refine lv_bipush (v := (40 : Int32)) hx hb dX6_copyActs_68 (by decide) ?_
      refine lv_iload_n hx hb dX6_copyActs_70 rfl (lv_at hl 2 rfl) ?_
      refine lv_imul hx hb dX6_copyActs_71 ?_
      refine lv_iload_n hx hb dX6_copyActs_72 rfl (lv_at hl 3 rfl) ?_
      refine lv_iadd hx hb dX6_copyActs_73 ?_
      refine lv_aload_n hx hb dX6_copyActs_74 rfl (lv_at hl 0 rfl) ?_
      refine me_getr (ci := 6) (C := RX6) (T := TX6) (N := 22) hx hb hts in_X6_copyActs_X6 hown hK hP hT.1 rfl 10 (by decide) (hts _ kX6_copyActs_f37) rfl dX6_copyActs_75 ?_
      refine lv_bipush (v := (40 : Int32)) hx hb dX6_copyActs_78 (by decide) ?_
      refine lv_iload_n hx hb dX6_copyActs_80 rfl (lv_at hl 1 rfl) ?_
      refine lv_imul hx hb dX6_copyActs_81 ?_
      refine lv_iload_n hx hb dX6_copyActs_82 rfl (lv_at hl 3 rfl) ?_
      refine lv_iadd hx hb dX6_copyActs_83 ?_
      obtain ⟨hi, h⟩ := s_ald_inv h
      refine me_ald hx hb hK hP hT.2.2.2.2.2.2.2.2.2.2.1 hi dX6_copyActs_84 (fun v84 ev => ?_)
      replace h := h v84 ev
      obtain ⟨hi, h⟩ := s_ast_inv h
      refine me_ast hx hb hK hI hP hS hT.2.2.2.2.2.2.2.2.2.2.1 hi dX6_copyActs_85 (fun H locs M85 eM hP hS => ?_)
      replace h := h M85 eM
      refine lv_iinc (k := 3) (v := (x3 + (1 : Int32))) (lv' := [(3, .int (x3 + (1 : Int32))), (0, .ref (ad t)), (1, .int x1), (2, .int x2)]) hx hb dX6_copyActs_86 hl rfl rfl (by decide) rfl (fun ls hl => ?_)
      refine lv_goto (tgt := 14) hx hb dX6_copyActs_89 (by decide) ?_
      exact ih (x3 + (1 : Int32)) M85 h H locs ls hP hS (lv_sub hl [1, 2, 3, 0] rfl)
set_option maxRecDepth 100000 in
set_option maxHeartbeats 4000000 in
theorem w_X6_copyActs {p : Program} {l : Launch} {e : Env} {s : State} {m : MethodId} {args : Array Value} {below : List Frame} {meth : Method} {c : Code} {D : va_G} {cI : ClassId} {ad : Nat → Nat} {L : List CDs} {r : Unit} {M' : Mem} (C0 : me_X p s m args meth c cX6_copyActs 4 none wsX6_copyActs RX6 D cI ad L) (t : Nat) (hT : is_X6 L t) (x1 : Int32) (x2 : Int32) : ∀  (M : Mem), X6_copyActs t x1 x2 M = some (r, M') → me_W p l e rmX6_copyActs s m args below meth c D cI ad L none M' 4 0 [(0, .ref (ad t)), (1, .int x1), (2, .int x2)] [] M := by
  obtain ⟨hx, hb, hr, hml, hown, hts, hlk, hK, hI⟩ := id C0
  intro M h
  unfold X6_copyActs at h
  intro H locs ls hP hS hl
  refine lv_aload_n hx hb dX6_copyActs_0 rfl (lv_at hl 0 rfl) ?_
  refine me_getr (ci := 6) (C := RX6) (T := TX6) (N := 22) hx hb hts in_X6_copyActs_X6 hown hK hP hT.1 rfl 7 (by decide) (hts _ kX6_copyActs_f28) rfl dX6_copyActs_1 ?_
  refine lv_iload_n hx hb dX6_copyActs_4 rfl (lv_at hl 2 rfl) ?_
  refine lv_aload_n hx hb dX6_copyActs_5 rfl (lv_at hl 0 rfl) ?_
  refine me_getr (ci := 6) (C := RX6) (T := TX6) (N := 22) hx hb hts in_X6_copyActs_X6 hown hK hP hT.1 rfl 7 (by decide) (hts _ kX6_copyActs_f28) rfl dX6_copyActs_6 ?_
  refine lv_iload_n hx hb dX6_copyActs_9 rfl (lv_at hl 1 rfl) ?_
  obtain ⟨hi, h⟩ := s_ald_inv h
  refine me_ald hx hb hK hP hT.2.2.2.2.2.2.2.1 hi dX6_copyActs_10 (fun v10 ev => ?_)
  replace h := h v10 ev
  obtain ⟨hi, h⟩ := s_ast_inv h
  refine me_ast hx hb hK hI hP hS hT.2.2.2.2.2.2.2.1 hi dX6_copyActs_11 (fun H locs M11 eM hP hS => ?_)
  replace h := h M11 eM
  refine lv_iconst (v := (0 : Int32)) hx hb dX6_copyActs_12 (by decide) ?_
  refine lv_istore_n (lv' := [(3, .int (0 : Int32)), (0, .ref (ad t)), (1, .int x1), (2, .int x2)]) hx hb dX6_copyActs_13 rfl hl (by decide) rfl (fun ls hl => ?_)
  exact w_X6_copyActs_14 C0 t hT x1 x2 FU (0 : Int32) M11 h H locs ls hP hS (lv_sub hl [1, 2, 3, 0] rfl)
theorem c_X6_copyActs {l : Launch} {D : va_G} {cI : ClassId} {ad : Nat → Nat} {L : List CDs} {t : Nat} (hT : is_X6 L t) {x1 : Int32} {x2 : Int32} {M M' : Mem} {r : Unit} (h : X6_copyActs t x1 x2 M = some (r, M')) : me_Met l yX6_copyActs wsX6_copyActs rmX6_copyActs D cI ad L [.ref (ad t), .int x1, .int x2] none M M' :=
  me_ofW (by decide) rfl (Nat.le_of_ble_eq_true rfl) (fun p e s m below meth c C0 => w_X6_copyActs C0 t hT x1 x2 M h)
abbrev rmX6_keep : Room := { frames := 1, cells := 0, slots := 0, locals := 23 }
theorem kX6_keep_f114 : (Cond.fieldLink RX6 114 "LadderOfBowsModel" "keptMany" "I") ∈ wsX6_keep := List.mem_of_getElem? (i := 1) rfl
theorem in_X6_keep_X6 : ∀ w ∈ wsX60, w ∈ wsX6_keep := by decide +kernel
theorem hd_X6_keep : yX6_keep.cls = RX6 ∧ yX6_keep.cls ≠ "java/lang/invoke/MethodHandle" ∧ yX6_keep.cls ≠ "java/lang/invoke/VarHandle" ∧ (parseMethodDescriptor yX6_keep.desc).map (fun d => d.parameters.length) = some 0 := by decide +kernel
set_option maxRecDepth 100000 in
set_option maxHeartbeats 4000000 in
theorem w_X6_keep {p : Program} {l : Launch} {e : Env} {s : State} {m : MethodId} {args : Array Value} {below : List Frame} {meth : Method} {c : Code} {D : va_G} {cI : ClassId} {ad : Nat → Nat} {L : List CDs} {r : Int32} {M' : Mem} (C0 : me_X p s m args meth c cX6_keep 1 (some .int) wsX6_keep RX6 D cI ad L) (t : Nat) (hT : is_X6 L t) : ∀  (M : Mem), X6_keep t M = some (r, M') → me_W p l e rmX6_keep s m args below meth c D cI ad L (some (.int r)) M' 1 0 [(0, .ref (ad t))] [] M := by
  obtain ⟨hx, hb, hr, hml, hown, hts, hlk, hK, hI⟩ := id C0
  intro M h
  unfold X6_keep at h
  intro H locs ls hP hS hl
  refine lv_aload_n hx hb dX6_keep_0 rfl (lv_at hl 0 rfl) ?_
  refine me_get (ci := 6) (C := RX6) (T := TX6) (N := 22) hx hb hts in_X6_keep_X6 hown hK hP hT.1 rfl 11 (by decide) (hts _ kX6_keep_f114) rfl dX6_keep_1 ?_
  refine lv_iconst (v := (2 : Int32)) hx hb dX6_keep_4 (by decide) ?_
  refine lv_icmp_ne (tgt := 11) hx hb dX6_keep_5 (by decide) (fun q => ?_) (fun q => ?_)
  · rw [if_pos q] at h
    refine lv_aload_n hx hb dX6_keep_11 rfl (lv_at hl 0 rfl) ?_
    refine lv_dup hx hb dX6_keep_12 rfl ?_
    refine me_get (ci := 6) (C := RX6) (T := TX6) (N := 22) hx hb hts in_X6_keep_X6 hown hK hP hT.1 rfl 11 (by decide) (hts _ kX6_keep_f114) rfl dX6_keep_13 ?_
    refine lv_iconst (v := (1 : Int32)) hx hb dX6_keep_16 (by decide) ?_
    refine lv_iadd hx hb dX6_keep_17 ?_
    refine me_put (ci := 6) (C := RX6) (T := TX6) (N := 22) hx hb hts in_X6_keep_X6 tyX6_ok nmX6 hown hK hI hP hS hT.1 rfl 11 (by decide) (hts _ kX6_keep_f114) rfl rfl rfl dX6_keep_18 (fun H locs M18 eM hP hS => ?_)
    replace h := s_put_inv h M18 eM
    refine lv_aload_n hx hb dX6_keep_21 rfl (lv_at hl 0 rfl) ?_
    refine lv_iconst (v := (0 : Int32)) hx hb dX6_keep_22 (by decide) ?_
    refine lv_aload_n hx hb dX6_keep_23 rfl (lv_at hl 0 rfl) ?_
    refine me_get (ci := 6) (C := RX6) (T := TX6) (N := 22) hx hb hts in_X6_keep_X6 hown hK hP hT.1 rfl 11 (by decide) (hts _ kX6_keep_f114) rfl dX6_keep_24 ?_
    obtain ⟨u27, M27, h1, h⟩ := s_call_inv h
    refine me_callVv (As := [.int (0 : Int32), .int (M18 t 11)]) (rest := []) ⟨hx, hb, hml, hown, hts⟩ (c_X6_copyActs hT h1) (cwV 2 hts gX6_keep_X6_copyActs rfl rfl rfl hd_X6_copyActs ⟨(Nat.le_of_ble_eq_true rfl), (Nat.le_of_ble_eq_true rfl)⟩) hK hI hP hS hT.1 rfl rfl hl.1 rfl (Nat.le_of_ble_eq_true rfl) dX6_keep_27 ⟨Nat.zero_le _, Nat.zero_le _⟩ (fun H locs hP hS => ?_)
    refine lv_aload_n hx hb dX6_keep_30 rfl (lv_at hl 0 rfl) ?_
    refine me_get (ci := 6) (C := RX6) (T := TX6) (N := 22) hx hb hts in_X6_keep_X6 hown hK hP hT.1 rfl 11 (by decide) (hts _ kX6_keep_f114) rfl dX6_keep_31 ?_
    exact me_iret hx hb hr hlk hP hS h dX6_keep_34
  · rw [if_neg (not_not_intro q)] at h
    refine lv_bipush (v := (-3 : Int32)) hx hb dX6_keep_8 (by decide) ?_
    exact me_iret hx hb hr hlk hP hS h dX6_keep_10
theorem c_X6_keep {l : Launch} {D : va_G} {cI : ClassId} {ad : Nat → Nat} {L : List CDs} {t : Nat} (hT : is_X6 L t)  {M M' : Mem} {r : Int32} (h : X6_keep t M = some (r, M')) : me_Met l yX6_keep wsX6_keep rmX6_keep D cI ad L [.ref (ad t)] (some (.int r)) M M' :=
  me_ofW (by decide) rfl (Nat.le_of_ble_eq_true rfl) (fun p e s m below meth c C0 => w_X6_keep C0 t hT M h)
abbrev rmX6_back : Room := { frames := 7, cells := 0, slots := 0, locals := 159 }
theorem kX6_back_f114 : (Cond.fieldLink RX6 114 "LadderOfBowsModel" "keptMany" "I") ∈ wsX6_back := List.mem_of_getElem? (i := 1) rfl
theorem in_X6_back_X6 : ∀ w ∈ wsX60, w ∈ wsX6_back := by decide +kernel
theorem hd_X6_back : yX6_back.cls = RX6 ∧ yX6_back.cls ≠ "java/lang/invoke/MethodHandle" ∧ yX6_back.cls ≠ "java/lang/invoke/VarHandle" ∧ (parseMethodDescriptor yX6_back.desc).map (fun d => d.parameters.length) = some 0 := by decide +kernel
set_option maxRecDepth 100000 in
set_option maxHeartbeats 4000000 in
theorem w_X6_back {p : Program} {l : Launch} {e : Env} {s : State} {m : MethodId} {args : Array Value} {below : List Frame} {meth : Method} {c : Code} {D : va_G} {cI : ClassId} {ad : Nat → Nat} {L : List CDs} {r : Int32} {M' : Mem} (C0 : me_X p s m args meth c cX6_back 1 (some .int) wsX6_back RX6 D cI ad L) (t : Nat) (hT : is_X6 L t) : ∀  (M : Mem), X6_back t M = some (r, M') → me_W p l e rmX6_back s m args below meth c D cI ad L (some (.int r)) M' 1 0 [(0, .ref (ad t))] [] M := by
  obtain ⟨hx, hb, hr, hml, hown, hts, hlk, hK, hI⟩ := id C0
  intro M h
  unfold X6_back at h
  intro H locs ls hP hS hl
  refine lv_aload_n hx hb dX6_back_0 rfl (lv_at hl 0 rfl) ?_
  refine me_get (ci := 6) (C := RX6) (T := TX6) (N := 22) hx hb hts in_X6_back_X6 hown hK hP hT.1 rfl 11 (by decide) (hts _ kX6_back_f114) rfl dX6_back_1 ?_
  refine lv_if_ne (tgt := 10) hx hb dX6_back_4 (by decide) (fun q => ?_) (fun q => ?_)
  · rw [if_pos q] at h
    refine lv_aload_n hx hb dX6_back_10 rfl (lv_at hl 0 rfl) ?_
    refine lv_aload_n hx hb dX6_back_11 rfl (lv_at hl 0 rfl) ?_
    refine me_get (ci := 6) (C := RX6) (T := TX6) (N := 22) hx hb hts in_X6_back_X6 hown hK hP hT.1 rfl 11 (by decide) (hts _ kX6_back_f114) rfl dX6_back_12 ?_
    refine lv_iconst (v := (0 : Int32)) hx hb dX6_back_15 (by decide) ?_
    obtain ⟨u16, M16, h1, h⟩ := s_call_inv h
    refine me_callVv (As := [.int (M t 11), .int (0 : Int32)]) (rest := []) ⟨hx, hb, hml, hown, hts⟩ (c_X6_copyActs hT h1) (cwV 2 hts gX6_back_X6_copyActs rfl rfl rfl hd_X6_copyActs ⟨(Nat.le_of_ble_eq_true rfl), (Nat.le_of_ble_eq_true rfl)⟩) hK hI hP hS hT.1 rfl rfl hl.1 rfl (Nat.le_of_ble_eq_true rfl) dX6_back_16 ⟨Nat.zero_le _, Nat.zero_le _⟩ (fun H locs hP hS => ?_)
    refine lv_aload_n hx hb dX6_back_19 rfl (lv_at hl 0 rfl) ?_
    refine lv_dup hx hb dX6_back_20 rfl ?_
    refine me_get (ci := 6) (C := RX6) (T := TX6) (N := 22) hx hb hts in_X6_back_X6 hown hK hP hT.1 rfl 11 (by decide) (hts _ kX6_back_f114) rfl dX6_back_21 ?_
    refine lv_iconst (v := (1 : Int32)) hx hb dX6_back_24 (by decide) ?_
    refine lv_isub hx hb dX6_back_25 ?_
    refine me_put (ci := 6) (C := RX6) (T := TX6) (N := 22) hx hb hts in_X6_back_X6 tyX6_ok nmX6 hown hK hI hP hS hT.1 rfl 11 (by decide) (hts _ kX6_back_f114) rfl rfl rfl dX6_back_26 (fun H locs M26 eM hP hS => ?_)
    replace h := s_put_inv h M26 eM
    refine lv_aload_n hx hb dX6_back_29 rfl (lv_at hl 0 rfl) ?_
    obtain ⟨u30, M30, h1, h⟩ := s_call_inv h
    refine me_callVv (As := []) (rest := []) ⟨hx, hb, hml, hown, hts⟩ (c_X6_begin hT h1) (cwV 0 hts gX6_back_X6_begin rfl rfl rfl hd_X6_begin ⟨(Nat.le_of_ble_eq_true rfl), (Nat.le_of_ble_eq_true rfl)⟩) hK hI hP hS hT.1 rfl rfl hl.1 rfl (Nat.le_of_ble_eq_true rfl) dX6_back_30 ⟨Nat.zero_le _, Nat.zero_le _⟩ (fun H locs hP hS => ?_)
    refine lv_aload_n hx hb dX6_back_33 rfl (lv_at hl 0 rfl) ?_
    refine me_get (ci := 6) (C := RX6) (T := TX6) (N := 22) hx hb hts in_X6_back_X6 hown hK hP hT.1 rfl 11 (by decide) (hts _ kX6_back_f114) rfl dX6_back_34 ?_
    exact me_iret hx hb hr hlk hP hS h dX6_back_37
  · rw [if_neg (not_not_intro q)] at h
    refine lv_bipush (v := (-2 : Int32)) hx hb dX6_back_7 (by decide) ?_
    exact me_iret hx hb hr hlk hP hS h dX6_back_9
theorem c_X6_back {l : Launch} {D : va_G} {cI : ClassId} {ad : Nat → Nat} {L : List CDs} {t : Nat} (hT : is_X6 L t)  {M M' : Mem} {r : Int32} (h : X6_back t M = some (r, M')) : me_Met l yX6_back wsX6_back rmX6_back D cI ad L [.ref (ad t)] (some (.int r)) M M' :=
  me_ofW (by decide) rfl (Nat.le_of_ble_eq_true rfl) (fun p e s m below meth c C0 => w_X6_back C0 t hT M h)
abbrev rmX6_count : Room := { frames := 3, cells := 0, slots := 0, locals := 70 }
theorem kX6_count_f13 : (Cond.fieldLink RX6 13 "LadderOfBowsModel" "persons" "[I") ∈ wsX6_count := List.mem_of_getElem? (i := 1) rfl
theorem kX6_count_f49 : (Cond.fieldLink RX6 49 "LadderOfBowsModel" "alive" "[I") ∈ wsX6_count := List.mem_of_getElem? (i := 2) rfl
theorem kX6_count_f52 : (Cond.fieldLink RX6 52 "LadderOfBowsModel" "day" "[I") ∈ wsX6_count := List.mem_of_getElem? (i := 3) rfl
theorem kX6_count_f28 : (Cond.fieldLink RX6 28 "LadderOfBowsModel" "acts" "[I") ∈ wsX6_count := List.mem_of_getElem? (i := 4) rfl
theorem kX6_count_f117 : (Cond.fieldLink RX6 117 "LadderOfBowsModel" "silents" "I") ∈ wsX6_count := List.mem_of_getElem? (i := 5) rfl
theorem kX6_count_f114 : (Cond.fieldLink RX6 114 "LadderOfBowsModel" "keptMany" "I") ∈ wsX6_count := List.mem_of_getElem? (i := 6) rfl
theorem kX6_count_f83 : (Cond.fieldLink RX6 83 "LadderOfBowsModel" "length" "I") ∈ wsX6_count := List.mem_of_getElem? (i := 7) rfl
theorem in_X6_count_X6 : ∀ w ∈ wsX60, w ∈ wsX6_count := by decide +kernel
theorem hd_X6_count : yX6_count.cls = RX6 ∧ yX6_count.cls ≠ "java/lang/invoke/MethodHandle" ∧ yX6_count.cls ≠ "java/lang/invoke/VarHandle" ∧ (parseMethodDescriptor yX6_count.desc).map (fun d => d.parameters.length) = some 1 := by decide +kernel
set_option maxRecDepth 100000 in
set_option maxHeartbeats 4000000 in
theorem w_X6_count {p : Program} {l : Launch} {e : Env} {s : State} {m : MethodId} {args : Array Value} {below : List Frame} {meth : Method} {c : Code} {D : va_G} {cI : ClassId} {ad : Nat → Nat} {L : List CDs} {r : Int32} {M' : Mem} (C0 : me_X p s m args meth c cX6_count 2 (some .int) wsX6_count RX6 D cI ad L) (t : Nat) (hT : is_X6 L t) (x1 : Int32) : ∀  (M : Mem), X6_count t x1 M = some (r, M') → me_W p l e rmX6_count s m args below meth c D cI ad L (some (.int r)) M' 2 0 [(0, .ref (ad t)), (1, .int x1)] [] M := by
  obtain ⟨hx, hb, hr, hml, hown, hts, hlk, hK, hI⟩ := id C0
  intro M h
  unfold X6_count at h
  intro H locs ls hP hS hl
  refine lv_iload_n hx hb dX6_count_0 rfl (lv_at hl 1 rfl) ?_
  by_cases q0 : x1 = (0 : Int32)
  · rw [if_pos q0] at h
    refine lv_tableIn (tgt := 48) (off := 47) hx hb dX6_count_1 (by rw [q0]; decide) (by rw [q0]; decide) (by rw [q0]; rfl) (by decide) ?_
    refine lv_aload_n hx hb dX6_count_48 rfl (lv_at hl 0 rfl) ?_
    refine me_getr (ci := 6) (C := RX6) (T := TX6) (N := 22) hx hb hts in_X6_count_X6 hown hK hP hT.1 rfl 2 (by decide) (hts _ kX6_count_f13) rfl dX6_count_49 ?_
    refine lv_iconst (v := (0 : Int32)) hx hb dX6_count_52 (by decide) ?_
    obtain ⟨hi, h⟩ := s_ald_inv h
    refine me_ald hx hb hK hP hT.2.2.1 hi dX6_count_53 (fun v53 ev => ?_)
    replace h := h v53 ev
    exact me_iret hx hb hr hlk hP hS h dX6_count_54
  rw [if_neg q0] at h
  by_cases q1 : x1 = (1 : Int32)
  · rw [if_pos q1] at h
    refine lv_tableIn (tgt := 55) (off := 54) hx hb dX6_count_1 (by rw [q1]; decide) (by rw [q1]; decide) (by rw [q1]; rfl) (by decide) ?_
    refine lv_aload_n hx hb dX6_count_55 rfl (lv_at hl 0 rfl) ?_
    refine me_getr (ci := 6) (C := RX6) (T := TX6) (N := 22) hx hb hts in_X6_count_X6 hown hK hP hT.1 rfl 17 (by decide) (hts _ kX6_count_f49) rfl dX6_count_56 ?_
    refine lv_iconst (v := (0 : Int32)) hx hb dX6_count_59 (by decide) ?_
    obtain ⟨hi, h⟩ := s_ald_inv h
    refine me_ald hx hb hK hP hT.2.2.2.2.2.2.2.2.2.2.2.2.2.2.1 hi dX6_count_60 (fun v60 ev => ?_)
    replace h := h v60 ev
    obtain ⟨v61, M61, h1, h⟩ := s_call_inv h
    refine me_callSi (As := [.int v60]) (rest := []) ⟨hx, hb, hml, hown, hts⟩ (c_X6_bits h1) (va_cwS 1 hts gX6_count_X6_bits rfl rfl rfl hd_X6_bits.2 ⟨(Nat.le_of_ble_eq_true rfl), (Nat.le_of_ble_eq_true rfl)⟩) hK hI hP hS rfl hl.1 rfl (Nat.le_of_ble_eq_true rfl) dX6_count_61 ⟨Nat.zero_le _, Nat.zero_le _⟩ (fun H locs hP hS => ?_)
    exact me_iret hx hb hr hlk hP hS h dX6_count_64
  rw [if_neg q1] at h
  by_cases q2 : x1 = (2 : Int32)
  · rw [if_pos q2] at h
    refine lv_tableIn (tgt := 65) (off := 64) hx hb dX6_count_1 (by rw [q2]; decide) (by rw [q2]; decide) (by rw [q2]; rfl) (by decide) ?_
    refine lv_aload_n hx hb dX6_count_65 rfl (lv_at hl 0 rfl) ?_
    refine me_getr (ci := 6) (C := RX6) (T := TX6) (N := 22) hx hb hts in_X6_count_X6 hown hK hP hT.1 rfl 18 (by decide) (hts _ kX6_count_f52) rfl dX6_count_66 ?_
    refine lv_iconst (v := (0 : Int32)) hx hb dX6_count_69 (by decide) ?_
    obtain ⟨hi, h⟩ := s_ald_inv h
    refine me_ald hx hb hK hP hT.2.2.2.2.2.2.2.2.2.2.2.2.2.2.2.1 hi dX6_count_70 (fun v70 ev => ?_)
    replace h := h v70 ev
    exact me_iret hx hb hr hlk hP hS h dX6_count_71
  rw [if_neg q2] at h
  by_cases q3 : x1 = (3 : Int32)
  · rw [if_pos q3] at h
    refine lv_tableIn (tgt := 72) (off := 71) hx hb dX6_count_1 (by rw [q3]; decide) (by rw [q3]; decide) (by rw [q3]; rfl) (by decide) ?_
    refine lv_aload_n hx hb dX6_count_72 rfl (lv_at hl 0 rfl) ?_
    refine lv_iconst (v := (0 : Int32)) hx hb dX6_count_73 (by decide) ?_
    obtain ⟨v74, M74, h1, h⟩ := s_call_inv h
    refine me_callVi (As := [.int (0 : Int32)]) (rest := []) ⟨hx, hb, hml, hown, hts⟩ (c_X6_allOf hT h1) (cwV 1 hts gX6_count_X6_allOf rfl rfl rfl hd_X6_allOf ⟨(Nat.le_of_ble_eq_true rfl), (Nat.le_of_ble_eq_true rfl)⟩) hK hI hP hS hT.1 rfl rfl hl.1 rfl (Nat.le_of_ble_eq_true rfl) dX6_count_74 ⟨Nat.zero_le _, Nat.zero_le _⟩ (fun H locs hP hS => ?_)
    exact me_iret hx hb hr hlk hP hS h dX6_count_77
  rw [if_neg q3] at h
  by_cases q4 : x1 = (4 : Int32)
  · rw [if_pos q4] at h
    refine lv_tableIn (tgt := 78) (off := 77) hx hb dX6_count_1 (by rw [q4]; decide) (by rw [q4]; decide) (by rw [q4]; rfl) (by decide) ?_
    refine lv_aload_n hx hb dX6_count_78 rfl (lv_at hl 0 rfl) ?_
    refine me_getr (ci := 6) (C := RX6) (T := TX6) (N := 22) hx hb hts in_X6_count_X6 hown hK hP hT.1 rfl 7 (by decide) (hts _ kX6_count_f28) rfl dX6_count_79 ?_
    refine lv_iconst (v := (0 : Int32)) hx hb dX6_count_82 (by decide) ?_
    obtain ⟨hi, h⟩ := s_ald_inv h
    refine me_ald hx hb hK hP hT.2.2.2.2.2.2.2.1 hi dX6_count_83 (fun v83 ev => ?_)
    replace h := h v83 ev
    exact me_iret hx hb hr hlk hP hS h dX6_count_84
  rw [if_neg q4] at h
  by_cases q5 : x1 = (5 : Int32)
  · rw [if_pos q5] at h
    refine lv_tableIn (tgt := 85) (off := 84) hx hb dX6_count_1 (by rw [q5]; decide) (by rw [q5]; decide) (by rw [q5]; rfl) (by decide) ?_
    refine lv_aload_n hx hb dX6_count_85 rfl (lv_at hl 0 rfl) ?_
    refine me_get (ci := 6) (C := RX6) (T := TX6) (N := 22) hx hb hts in_X6_count_X6 hown hK hP hT.1 rfl 12 (by decide) (hts _ kX6_count_f117) rfl dX6_count_86 ?_
    exact me_iret hx hb hr hlk hP hS h dX6_count_89
  rw [if_neg q5] at h
  by_cases q6 : x1 = (6 : Int32)
  · rw [if_pos q6] at h
    refine lv_tableIn (tgt := 90) (off := 89) hx hb dX6_count_1 (by rw [q6]; decide) (by rw [q6]; decide) (by rw [q6]; rfl) (by decide) ?_
    refine lv_aload_n hx hb dX6_count_90 rfl (lv_at hl 0 rfl) ?_
    refine me_get (ci := 6) (C := RX6) (T := TX6) (N := 22) hx hb hts in_X6_count_X6 hown hK hP hT.1 rfl 11 (by decide) (hts _ kX6_count_f114) rfl dX6_count_91 ?_
    exact me_iret hx hb hr hlk hP hS h dX6_count_94
  rw [if_neg q6] at h
  by_cases q7 : x1 = (7 : Int32)
  · rw [if_pos q7] at h
    refine lv_tableIn (tgt := 95) (off := 94) hx hb dX6_count_1 (by rw [q7]; decide) (by rw [q7]; decide) (by rw [q7]; rfl) (by decide) ?_
    refine lv_aload_n hx hb dX6_count_95 rfl (lv_at hl 0 rfl) ?_
    refine me_get (ci := 6) (C := RX6) (T := TX6) (N := 22) hx hb hts in_X6_count_X6 hown hK hP hT.1 rfl 0 (by decide) (hts _ kX6_count_f83) rfl dX6_count_96 ?_
    exact me_iret hx hb hr hlk hP hS h dX6_count_99
  rw [if_neg q7] at h
  have e0 := lv_neT (a := 0) q0 (by decide)
  have e1 := lv_neT (a := 1) q1 (by decide)
  have e2 := lv_neT (a := 2) q2 (by decide)
  have e3 := lv_neT (a := 3) q3 (by decide)
  have e4 := lv_neT (a := 4) q4 (by decide)
  have e5 := lv_neT (a := 5) q5 (by decide)
  have e6 := lv_neT (a := 6) q6 (by decide)
  have e7 := lv_neT (a := 7) q7 (by decide)
  refine lv_tableOut (tgt := 100) hx hb dX6_count_1 (by omega) (by decide) ?_
  refine lv_iconst (v := (-1 : Int32)) hx hb dX6_count_100 (by decide) ?_
  exact me_iret hx hb hr hlk hP hS h dX6_count_101
theorem c_X6_count {l : Launch} {D : va_G} {cI : ClassId} {ad : Nat → Nat} {L : List CDs} {t : Nat} (hT : is_X6 L t) {x1 : Int32} {M M' : Mem} {r : Int32} (h : X6_count t x1 M = some (r, M')) : me_Met l yX6_count wsX6_count rmX6_count D cI ad L [.ref (ad t), .int x1] (some (.int r)) M M' :=
  me_ofW (by decide) rfl (Nat.le_of_ble_eq_true rfl) (fun p e s m below meth c C0 => w_X6_count C0 t hT x1 M h)
