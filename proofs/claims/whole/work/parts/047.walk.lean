/-! ===== the walks, by program (wip/gen/gen.py) ===== -/
abbrev rmX6_began : Room := { frames := 7, cells := 0, slots := 0, locals := 160 }
theorem kX6_began_f28 : (Cond.fieldLink RX6 28 "LadderOfBowsModel" "acts" "[I") ∈ wsX6_began := List.mem_of_getElem? (i := 1) rfl
theorem in_X6_began_X6 : ∀ w ∈ wsX60, w ∈ wsX6_began := by decide +kernel
theorem hd_X6_began : yX6_began.cls = RX6 ∧ yX6_began.cls ≠ "java/lang/invoke/MethodHandle" ∧ yX6_began.cls ≠ "java/lang/invoke/VarHandle" ∧ (parseMethodDescriptor yX6_began.desc).map (fun d => d.parameters.length) = some 0 := by decide +kernel
set_option maxRecDepth 100000 in
set_option maxHeartbeats 4000000 in
theorem w_X6_began_8 {p : Program} {l : Launch} {e : Env} {s : State} {m : MethodId} {args : Array Value} {below : List Frame} {meth : Method} {c : Code} {D : va_G} {cI : ClassId} {ad : Nat → Nat} {L : List CDs} {r : Int32} {M' : Mem} (C0 : me_X p s m args meth c cX6_began 3 (some .int) wsX6_began RX6 D cI ad L) (t : Nat) (hT : is_X6 L t) (x1 : Int32) : ∀ (n : Nat) (x2 : Int32) (M : Mem), X6_began_8 t x1 n x2 M = some (r, M') → me_W p l e rmX6_began s m args below meth c D cI ad L (some (.int r)) M' 3 8 [(0, .ref (ad t)), (1, .int x1), (2, .int x2)] [] M := by
  obtain ⟨hx, hb, hr, hml, hown, hts, hlk, hK, hI⟩ := id C0
  intro n
  induction n with
  | zero =>
    intro x2 M h
    rw [X6_began_8] at h
    cases h
  | succ n ih =>
    intro x2 M h
    rw [X6_began_8] at h
    intro H locs ls hP hS hl
    refine lv_iload_n hx hb dX6_began_8 rfl (lv_at hl 2 rfl) ?_
    refine lv_aload_n hx hb dX6_began_9 rfl (lv_at hl 0 rfl) ?_
    refine me_getr (ci := 6) (C := RX6) (T := TX6) (N := 22) hx hb hts in_X6_began_X6 hown hK hP hT.1 rfl 7 (by decide) (hts _ kX6_began_f28) rfl dX6_began_10 ?_
    refine lv_iconst (v := (0 : Int32)) hx hb dX6_began_13 (by decide) ?_
    obtain ⟨hi, h⟩ := s_ald_inv h
    refine me_ald hx hb hK hP hT.2.2.2.2.2.2.2.1 hi dX6_began_14 (fun v14 ev => ?_)
    replace h := h v14 ev
    refine lv_icmp_ge (tgt := 41) hx hb dX6_began_15 (by decide) (fun q => ?_) (fun q => ?_)
    · rw [if_pos q] at h
      refine lv_bipush (v := (-4 : Int32)) hx hb dX6_began_41 (by decide) ?_
      exact me_iret hx hb hr hlk hP hS h dX6_began_43
    · rw [if_neg q] at h
      refine lv_aload_n hx hb dX6_began_18 rfl (lv_at hl 0 rfl) ?_
      refine lv_iconst (v := (1 : Int32)) hx hb dX6_began_19 (by decide) ?_
      refine lv_iload_n hx hb dX6_began_20 rfl (lv_at hl 2 rfl) ?_
      obtain ⟨u21, M21, h1, h⟩ := s_call_inv h
      refine me_callVv (As := [.int (1 : Int32), .int x2]) (rest := []) ⟨hx, hb, hml, hown, hts⟩ (c_X6_beginBut hT h1) (cwV 2 hts gX6_began_X6_beginBut rfl rfl rfl hd_X6_beginBut ⟨(Nat.le_of_ble_eq_true rfl), (Nat.le_of_ble_eq_true rfl)⟩) hK hI hP hS hT.1 rfl rfl hl.1 rfl (Nat.le_of_ble_eq_true rfl) dX6_began_21 ⟨Nat.zero_le _, Nat.zero_le _⟩ (fun H locs hP hS => ?_)
      refine lv_aload_n hx hb dX6_began_24 rfl (lv_at hl 0 rfl) ?_
      refine lv_iconst (v := (1 : Int32)) hx hb dX6_began_25 (by decide) ?_
      obtain ⟨v26, M26, h1, h⟩ := s_call_inv h
      refine me_callVi (As := [.int (1 : Int32)]) (rest := []) ⟨hx, hb, hml, hown, hts⟩ (c_X6_owedBehind hT h1) (cwV 1 hts gX6_began_X6_owedBehind rfl rfl rfl hd_X6_owedBehind ⟨(Nat.le_of_ble_eq_true rfl), (Nat.le_of_ble_eq_true rfl)⟩) hK hI hP hS hT.1 rfl rfl hl.1 rfl (Nat.le_of_ble_eq_true rfl) dX6_began_26 ⟨Nat.zero_le _, Nat.zero_le _⟩ (fun H locs hP hS => ?_)
      refine lv_iload_n hx hb dX6_began_29 rfl (lv_at hl 1 rfl) ?_
      refine lv_icmp_ge (tgt := 35) hx hb dX6_began_30 (by decide) (fun q => ?_) (fun q => ?_)
      · rw [if_pos q] at h
        refine lv_iinc (k := 2) (v := (x2 + (1 : Int32))) (lv' := [(2, .int (x2 + (1 : Int32))), (0, .ref (ad t)), (1, .int x1)]) hx hb dX6_began_35 hl rfl rfl (by decide) rfl (fun ls hl => ?_)
        refine lv_goto (tgt := 8) hx hb dX6_began_38 (by decide) ?_
        exact ih (x2 + (1 : Int32)) M26 h H locs ls hP hS (lv_sub hl [1, 2, 0] rfl)
      · rw [if_neg q] at h
        refine lv_iload_n hx hb dX6_began_33 rfl (lv_at hl 2 rfl) ?_
        exact me_iret hx hb hr hlk hP hS h dX6_began_34
set_option maxRecDepth 100000 in
set_option maxHeartbeats 4000000 in
theorem w_X6_began {p : Program} {l : Launch} {e : Env} {s : State} {m : MethodId} {args : Array Value} {below : List Frame} {meth : Method} {c : Code} {D : va_G} {cI : ClassId} {ad : Nat → Nat} {L : List CDs} {r : Int32} {M' : Mem} (C0 : me_X p s m args meth c cX6_began 3 (some .int) wsX6_began RX6 D cI ad L) (t : Nat) (hT : is_X6 L t) : ∀  (M : Mem), X6_began t M = some (r, M') → me_W p l e rmX6_began s m args below meth c D cI ad L (some (.int r)) M' 3 0 [(0, .ref (ad t))] [] M := by
  obtain ⟨hx, hb, hr, hml, hown, hts, hlk, hK, hI⟩ := id C0
  intro M h
  unfold X6_began at h
  intro H locs ls hP hS hl
  refine lv_aload_n hx hb dX6_began_0 rfl (lv_at hl 0 rfl) ?_
  refine lv_iconst (v := (0 : Int32)) hx hb dX6_began_1 (by decide) ?_
  obtain ⟨v2, M2, h1, h⟩ := s_call_inv h
  refine me_callVi (As := [.int (0 : Int32)]) (rest := []) ⟨hx, hb, hml, hown, hts⟩ (c_X6_owedBehind hT h1) (cwV 1 hts gX6_began_X6_owedBehind rfl rfl rfl hd_X6_owedBehind ⟨(Nat.le_of_ble_eq_true rfl), (Nat.le_of_ble_eq_true rfl)⟩) hK hI hP hS hT.1 rfl rfl hl.1 rfl (Nat.le_of_ble_eq_true rfl) dX6_began_2 ⟨Nat.zero_le _, Nat.zero_le _⟩ (fun H locs hP hS => ?_)
  refine lv_istore_n (lv' := [(1, .int v2), (0, .ref (ad t))]) hx hb dX6_began_5 rfl hl (by decide) rfl (fun ls hl => ?_)
  refine lv_iconst (v := (0 : Int32)) hx hb dX6_began_6 (by decide) ?_
  refine lv_istore_n (lv' := [(2, .int (0 : Int32)), (1, .int v2), (0, .ref (ad t))]) hx hb dX6_began_7 rfl hl (by decide) rfl (fun ls hl => ?_)
  exact w_X6_began_8 C0 t hT v2 FU (0 : Int32) M2 h H locs ls hP hS (lv_sub hl [2, 1, 0] rfl)
theorem c_X6_began {l : Launch} {D : va_G} {cI : ClassId} {ad : Nat → Nat} {L : List CDs} {t : Nat} (hT : is_X6 L t)  {M M' : Mem} {r : Int32} (h : X6_began t M = some (r, M')) : me_Met l yX6_began wsX6_began rmX6_began D cI ad L [.ref (ad t)] (some (.int r)) M M' :=
  me_ofW (by decide) rfl (Nat.le_of_ble_eq_true rfl) (fun p e s m below meth c C0 => w_X6_began C0 t hT M h)
abbrev rmX6_word : Room := { frames := 3, cells := 0, slots := 0, locals := 66 }
theorem hd_X6_word : yX6_word.cls = RX6 ∧ yX6_word.cls ≠ "java/lang/invoke/MethodHandle" ∧ yX6_word.cls ≠ "java/lang/invoke/VarHandle" ∧ (parseMethodDescriptor yX6_word.desc).map (fun d => d.parameters.length) = some 2 := by decide +kernel
set_option maxRecDepth 100000 in
set_option maxHeartbeats 4000000 in
theorem w_X6_word_62 {p : Program} {l : Launch} {e : Env} {s : State} {m : MethodId} {args : Array Value} {below : List Frame} {meth : Method} {c : Code} {D : va_G} {cI : ClassId} {ad : Nat → Nat} {L : List CDs} {r : Int32} {M' : Mem} (C0 : me_X p s m args meth c cX6_word 7 (some .int) wsX6_word RX6 D cI ad L) (t : Nat) (hT : is_X6 L t) (x2 : Int32) (x3 : Int32) (x4 : Int32) (k38 : Int32 → Int32 → Mem → Option (Int32 × Mem)) (hk38 : ∀ (x3 : Int32) (x4 : Int32) (M : Mem), k38 x3 x4 M = some (r, M') → me_W p l e rmX6_word s m args below meth c D cI ad L (some (.int r)) M' 7 38 [(0, .ref (ad t)), (2, .int x2), (3, .int x3), (4, .int x4)] [] M) : ∀ (n : Nat) (x5 : Int32) (x6 : Int32) (M : Mem), X6_word_62 t x2 x3 x4 k38 n x5 x6 M = some (r, M') → me_W p l e rmX6_word s m args below meth c D cI ad L (some (.int r)) M' 7 62 [(0, .ref (ad t)), (2, .int x2), (3, .int x3), (4, .int x4), (5, .int x5), (6, .int x6)] [] M := by
  obtain ⟨hx, hb, hr, hml, hown, hts, hlk, hK, hI⟩ := id C0
  intro n
  induction n with
  | zero =>
    intro x5 x6 M h
    rw [X6_word_62] at h
    cases h
  | succ n ih =>
    intro x5 x6 M h
    rw [X6_word_62] at h
    intro H locs ls hP hS hl
    refine lv_iload hx hb dX6_word_62 (lv_at hl 5 rfl) ?_
    refine lv_bipush (v := (64 : Int32)) hx hb dX6_word_64 (by decide) ?_
    refine lv_icmp_ge (tgt := 121) hx hb dX6_word_66 (by decide) (fun q => ?_) (fun q => ?_)
    · rw [if_pos q] at h
      refine lv_iload hx hb dX6_word_121 (lv_at hl 4 rfl) ?_
      refine lv_istore_n (lv' := [(3, .int x5), (0, .ref (ad t)), (2, .int x2), (4, .int x4), (5, .int x5), (6, .int x6)]) hx hb dX6_word_123 rfl hl (by decide) rfl (fun ls hl => ?_)
      refine lv_iinc (k := 3) (v := (x4 + (1 : Int32))) (lv' := [(4, .int (x4 + (1 : Int32))), (3, .int x5), (0, .ref (ad t)), (2, .int x2), (5, .int x5), (6, .int x6)]) hx hb dX6_word_124 hl rfl rfl (by decide) rfl (fun ls hl => ?_)
      refine lv_goto (tgt := 38) hx hb dX6_word_127 (by decide) ?_
      exact hk38 x5 (x4 + (1 : Int32)) M h H locs ls hP hS (lv_sub hl [2, 3, 1, 0] rfl)
    · rw [if_neg q] at h
      refine lv_iload hx hb dX6_word_69 (lv_at hl 4 rfl) ?_
      refine lv_iload_n hx hb dX6_word_71 rfl (lv_at hl 2 rfl) ?_
      refine lv_iload hx hb dX6_word_72 (lv_at hl 5 rfl) ?_
      refine lv_bipush (v := (8 : Int32)) hx hb dX6_word_74 (by decide) ?_
      obtain ⟨hi, h⟩ := s_div_inv h
      refine lv_idiv hx hb dX6_word_76 hi ?_
      refine lv_topi (fun v76 ev => ?_)
      replace h := h v76 ev
      obtain ⟨v77, M77, h1, h⟩ := s_call_inv h
      refine me_callSi (As := [.int x3, .int v76]) (rest := [.int x5]) ⟨hx, hb, hml, hown, hts⟩ (c_X6_has h1) (va_cwS 2 hts gX6_word_X6_has rfl rfl rfl hd_X6_has.2 ⟨(Nat.le_of_ble_eq_true rfl), (Nat.le_of_ble_eq_true rfl)⟩) hK hI hP hS rfl hl.1 rfl (Nat.le_of_ble_eq_true rfl) dX6_word_77 ⟨Nat.zero_le _, Nat.zero_le _⟩ (fun H locs hP hS => ?_)
      refine lv_if_eq (tgt := 111) hx hb dX6_word_80 (by decide) (fun q => ?_) (fun q => ?_)
      · rw [if_pos q] at h
        refine lv_iconst (v := (0 : Int32)) hx hb dX6_word_111 (by decide) ?_
        refine lv_ior hx hb dX6_word_112 ?_
        refine lv_topi (fun x5_113 ev => ?_)
        replace h := s_let_inv h x5_113 ev
        refine lv_istore (lv' := [(5, .int x5_113), (0, .ref (ad t)), (2, .int x2), (3, .int x3), (4, .int x4), (6, .int x6)]) hx hb dX6_word_113 hl (by decide) rfl (fun ls hl => ?_)
        refine lv_iinc (k := 5) (v := (x6 + (1 : Int32))) (lv' := [(6, .int (x6 + (1 : Int32))), (5, .int x5_113), (0, .ref (ad t)), (2, .int x2), (3, .int x3), (4, .int x4)]) hx hb dX6_word_115 hl rfl rfl (by decide) rfl (fun ls hl => ?_)
        refine lv_goto (tgt := 62) hx hb dX6_word_118 (by decide) ?_
        exact ih x5_113 (x6 + (1 : Int32)) M77 h H locs ls hP hS (lv_sub hl [2, 3, 4, 5, 1, 0] rfl)
      · rw [if_neg q] at h
        refine lv_aload_n hx hb dX6_word_83 rfl (lv_at hl 0 rfl) ?_
        refine lv_iconst (v := (0 : Int32)) hx hb dX6_word_84 (by decide) ?_
        refine lv_iload hx hb dX6_word_85 (lv_at hl 5 rfl) ?_
        refine lv_bipush (v := (8 : Int32)) hx hb dX6_word_87 (by decide) ?_
        obtain ⟨hi, h⟩ := s_div_inv h
        refine lv_idiv hx hb dX6_word_89 hi ?_
        refine lv_topi (fun v89 ev => ?_)
        replace h := h v89 ev
        refine lv_iload hx hb dX6_word_90 (lv_at hl 5 rfl) ?_
        refine lv_bipush (v := (8 : Int32)) hx hb dX6_word_92 (by decide) ?_
        obtain ⟨hi, h⟩ := s_rem_inv h
        refine lv_irem hx hb dX6_word_94 hi ?_
        refine lv_topi (fun v94 ev => ?_)
        replace h := h v94 ev
        obtain ⟨v95, M95, h1, h⟩ := s_call_inv h
        refine me_callVi (As := [.int (0 : Int32), .int v89, .int v94]) (rest := [.int x5]) ⟨hx, hb, hml, hown, hts⟩ (c_X6_maySpeak hT h1) (cwV 3 hts gX6_word_X6_maySpeak rfl rfl rfl hd_X6_maySpeak ⟨(Nat.le_of_ble_eq_true rfl), (Nat.le_of_ble_eq_true rfl)⟩) hK hI hP hS hT.1 rfl rfl hl.1 rfl (Nat.le_of_ble_eq_true rfl) dX6_word_95 ⟨Nat.zero_le _, Nat.zero_le _⟩ (fun H locs hP hS => ?_)
        refine lv_if_eq (tgt := 111) hx hb dX6_word_98 (by decide) (fun q => ?_) (fun q => ?_)
        · rw [if_pos q] at h
          refine lv_iconst (v := (0 : Int32)) hx hb dX6_word_111 (by decide) ?_
          refine lv_ior hx hb dX6_word_112 ?_
          refine lv_topi (fun x5_113 ev => ?_)
          replace h := s_let_inv h x5_113 ev
          refine lv_istore (lv' := [(5, .int x5_113), (0, .ref (ad t)), (2, .int x2), (3, .int x3), (4, .int x4), (6, .int x6)]) hx hb dX6_word_113 hl (by decide) rfl (fun ls hl => ?_)
          refine lv_iinc (k := 5) (v := (x6 + (1 : Int32))) (lv' := [(6, .int (x6 + (1 : Int32))), (5, .int x5_113), (0, .ref (ad t)), (2, .int x2), (3, .int x3), (4, .int x4)]) hx hb dX6_word_115 hl rfl rfl (by decide) rfl (fun ls hl => ?_)
          refine lv_goto (tgt := 62) hx hb dX6_word_118 (by decide) ?_
          exact ih x5_113 (x6 + (1 : Int32)) M95 h H locs ls hP hS (lv_sub hl [2, 3, 4, 5, 1, 0] rfl)
        · rw [if_neg q] at h
          refine lv_iconst (v := (1 : Int32)) hx hb dX6_word_101 (by decide) ?_
          refine lv_iload hx hb dX6_word_102 (lv_at hl 5 rfl) ?_
          refine lv_bipush (v := (8 : Int32)) hx hb dX6_word_104 (by decide) ?_
          obtain ⟨hi, h⟩ := s_rem_inv h
          refine lv_irem hx hb dX6_word_106 hi ?_
          refine lv_topi (fun v106 ev => ?_)
          replace h := h v106 ev
          refine lv_ishl hx hb dX6_word_107 ?_
          refine lv_goto (tgt := 112) hx hb dX6_word_108 (by decide) ?_
          refine lv_ior hx hb dX6_word_112 ?_
          refine lv_topi (fun x5_113 ev => ?_)
          replace h := s_let_inv h x5_113 ev
          refine lv_istore (lv' := [(5, .int x5_113), (0, .ref (ad t)), (2, .int x2), (3, .int x3), (4, .int x4), (6, .int x6)]) hx hb dX6_word_113 hl (by decide) rfl (fun ls hl => ?_)
          refine lv_iinc (k := 5) (v := (x6 + (1 : Int32))) (lv' := [(6, .int (x6 + (1 : Int32))), (5, .int x5_113), (0, .ref (ad t)), (2, .int x2), (3, .int x3), (4, .int x4)]) hx hb dX6_word_115 hl rfl rfl (by decide) rfl (fun ls hl => ?_)
          refine lv_goto (tgt := 62) hx hb dX6_word_118 (by decide) ?_
          exact ih x5_113 (x6 + (1 : Int32)) M95 h H locs ls hP hS (lv_sub hl [2, 3, 4, 5, 1, 0] rfl)
set_option maxRecDepth 100000 in
set_option maxHeartbeats 4000000 in
theorem w_X6_word_38 {p : Program} {l : Launch} {e : Env} {s : State} {m : MethodId} {args : Array Value} {below : List Frame} {meth : Method} {c : Code} {D : va_G} {cI : ClassId} {ad : Nat → Nat} {L : List CDs} {r : Int32} {M' : Mem} (C0 : me_X p s m args meth c cX6_word 7 (some .int) wsX6_word RX6 D cI ad L) (t : Nat) (hT : is_X6 L t) (x2 : Int32) : ∀ (n : Nat) (x3 : Int32) (x4 : Int32) (M : Mem), X6_word_38 t x2 n x3 x4 M = some (r, M') → me_W p l e rmX6_word s m args below meth c D cI ad L (some (.int r)) M' 7 38 [(0, .ref (ad t)), (2, .int x2), (3, .int x3), (4, .int x4)] [] M := by
  obtain ⟨hx, hb, hr, hml, hown, hts, hlk, hK, hI⟩ := id C0
  intro n
  induction n with
  | zero =>
    intro x3 x4 M h
    rw [X6_word_38] at h
    cases h
  | succ n ih =>
    intro x3 x4 M h
    rw [X6_word_38] at h
    intro H locs ls hP hS hl
    refine lv_iload hx hb dX6_word_38 (lv_at hl 3 rfl) ?_
    refine lv_bipush (v := (8 : Int32)) hx hb dX6_word_40 (by decide) ?_
    refine lv_icmp_ge (tgt := 130) hx hb dX6_word_42 (by decide) (fun q => ?_) (fun q => ?_)
    · rw [if_pos q] at h
      refine lv_bipush (v := (-4 : Int32)) hx hb dX6_word_130 (by decide) ?_
      exact me_iret hx hb hr hlk hP hS h dX6_word_132
    · rw [if_neg q] at h
      refine lv_iload_n hx hb dX6_word_45 rfl (lv_at hl 2 rfl) ?_
      refine lv_iload_n hx hb dX6_word_46 rfl (lv_at hl 1 rfl) ?_
      obtain ⟨v47, M47, h1, h⟩ := s_call_inv h
      refine me_callSi (As := [.int x3, .int x2]) (rest := []) ⟨hx, hb, hml, hown, hts⟩ (c_X6_has h1) (va_cwS 2 hts gX6_word_X6_has rfl rfl rfl hd_X6_has.2 ⟨(Nat.le_of_ble_eq_true rfl), (Nat.le_of_ble_eq_true rfl)⟩) hK hI hP hS rfl hl.1 rfl (Nat.le_of_ble_eq_true rfl) dX6_word_47 ⟨Nat.zero_le _, Nat.zero_le _⟩ (fun H locs hP hS => ?_)
      refine lv_if_eq (tgt := 56) hx hb dX6_word_50 (by decide) (fun q => ?_) (fun q => ?_)
      · rw [if_pos q] at h
        refine lv_iload_n hx hb dX6_word_56 rfl (lv_at hl 2 rfl) ?_
        refine lv_istore (lv' := [(5, .int x3), (0, .ref (ad t)), (2, .int x2), (3, .int x3), (4, .int x4)]) hx hb dX6_word_57 hl (by decide) rfl (fun ls hl => ?_)
        refine lv_iconst (v := (0 : Int32)) hx hb dX6_word_59 (by decide) ?_
        refine lv_istore (lv' := [(6, .int (0 : Int32)), (5, .int x3), (0, .ref (ad t)), (2, .int x2), (3, .int x3), (4, .int x4)]) hx hb dX6_word_60 hl (by decide) rfl (fun ls hl => ?_)
        exact w_X6_word_62 C0 t hT x2 x3 x4 (X6_word_38 t x2 n) (fun x3 x4 M h => ih x3 x4 M h) FU x3 (0 : Int32) M47 h H locs ls hP hS (lv_sub hl [2, 3, 4, 5, 1, 0] rfl)
      · rw [if_neg q] at h
        refine lv_iload hx hb dX6_word_53 (lv_at hl 3 rfl) ?_
        exact me_iret hx hb hr hlk hP hS h dX6_word_55
set_option maxRecDepth 100000 in
set_option maxHeartbeats 4000000 in
theorem w_X6_word {p : Program} {l : Launch} {e : Env} {s : State} {m : MethodId} {args : Array Value} {below : List Frame} {meth : Method} {c : Code} {D : va_G} {cI : ClassId} {ad : Nat → Nat} {L : List CDs} {r : Int32} {M' : Mem} (C0 : me_X p s m args meth c cX6_word 7 (some .int) wsX6_word RX6 D cI ad L) (t : Nat) (hT : is_X6 L t) (x1 : Int32) (x2 : Int32) : ∀  (M : Mem), X6_word t x1 x2 M = some (r, M') → me_W p l e rmX6_word s m args below meth c D cI ad L (some (.int r)) M' 7 0 [(0, .ref (ad t)), (1, .int x1), (2, .int x2)] [] M := by
  obtain ⟨hx, hb, hr, hml, hown, hts, hlk, hK, hI⟩ := id C0
  intro M h
  unfold X6_word at h
  intro H locs ls hP hS hl
  refine lv_aload_n hx hb dX6_word_0 rfl (lv_at hl 0 rfl) ?_
  refine lv_iload_n hx hb dX6_word_1 rfl (lv_at hl 1 rfl) ?_
  obtain ⟨v2, M2, h1, h⟩ := s_call_inv h
  refine me_callVi (As := [.int x1]) (rest := []) ⟨hx, hb, hml, hown, hts⟩ (c_X6_isPerson hT h1) (cwV 1 hts gX6_word_X6_isPerson rfl rfl rfl hd_X6_isPerson ⟨(Nat.le_of_ble_eq_true rfl), (Nat.le_of_ble_eq_true rfl)⟩) hK hI hP hS hT.1 rfl rfl hl.1 rfl (Nat.le_of_ble_eq_true rfl) dX6_word_2 ⟨Nat.zero_le _, Nat.zero_le _⟩ (fun H locs hP hS => ?_)
  refine lv_if_eq (tgt := 16) hx hb dX6_word_5 (by decide) (fun q => ?_) (fun q => ?_)
  · rw [if_pos q] at h
    refine lv_iconst (v := (-1 : Int32)) hx hb dX6_word_16 (by decide) ?_
    exact me_iret hx hb hr hlk hP hS h dX6_word_17
  · rw [if_neg q] at h
    refine lv_aload_n hx hb dX6_word_8 rfl (lv_at hl 0 rfl) ?_
    refine lv_iload_n hx hb dX6_word_9 rfl (lv_at hl 2 rfl) ?_
    obtain ⟨v10, M10, h1, h⟩ := s_call_inv h
    refine me_callVi (As := [.int x2]) (rest := []) ⟨hx, hb, hml, hown, hts⟩ (c_X6_isPerson hT h1) (cwV 1 hts gX6_word_X6_isPerson rfl rfl rfl hd_X6_isPerson ⟨(Nat.le_of_ble_eq_true rfl), (Nat.le_of_ble_eq_true rfl)⟩) hK hI hP hS hT.1 rfl rfl hl.1 rfl (Nat.le_of_ble_eq_true rfl) dX6_word_10 ⟨Nat.zero_le _, Nat.zero_le _⟩ (fun H locs hP hS => ?_)
    refine lv_if_ne (tgt := 18) hx hb dX6_word_13 (by decide) (fun q => ?_) (fun q => ?_)
    · rw [if_pos q] at h
      refine lv_aload_n hx hb dX6_word_18 rfl (lv_at hl 0 rfl) ?_
      refine lv_iconst (v := (0 : Int32)) hx hb dX6_word_19 (by decide) ?_
      refine lv_iload_n hx hb dX6_word_20 rfl (lv_at hl 1 rfl) ?_
      obtain ⟨v21, M21, h1, h⟩ := s_call_inv h
      refine me_callVi (As := [.int (0 : Int32), .int x1]) (rest := []) ⟨hx, hb, hml, hown, hts⟩ (c_X6_isAlive hT h1) (cwV 2 hts gX6_word_X6_isAlive rfl rfl rfl hd_X6_isAlive ⟨(Nat.le_of_ble_eq_true rfl), (Nat.le_of_ble_eq_true rfl)⟩) hK hI hP hS hT.1 rfl rfl hl.1 rfl (Nat.le_of_ble_eq_true rfl) dX6_word_21 ⟨Nat.zero_le _, Nat.zero_le _⟩ (fun H locs hP hS => ?_)
      refine lv_if_eq (tgt := 33) hx hb dX6_word_24 (by decide) (fun q => ?_) (fun q => ?_)
      · rw [if_pos q] at h
        refine lv_iconst (v := (0 : Int32)) hx hb dX6_word_33 (by decide) ?_
        refine lv_istore_n (lv' := [(3, .int (0 : Int32)), (0, .ref (ad t)), (1, .int x1), (2, .int x2)]) hx hb dX6_word_34 rfl hl (by decide) rfl (fun ls hl => ?_)
        refine lv_iconst (v := (0 : Int32)) hx hb dX6_word_35 (by decide) ?_
        refine lv_istore (lv' := [(4, .int (0 : Int32)), (3, .int (0 : Int32)), (0, .ref (ad t)), (1, .int x1), (2, .int x2)]) hx hb dX6_word_36 hl (by decide) rfl (fun ls hl => ?_)
        exact w_X6_word_38 C0 t hT x2 FU (0 : Int32) (0 : Int32) M21 h H locs ls hP hS (lv_sub hl [2, 4, 1, 0] rfl)
      · rw [if_neg q] at h
        refine lv_iconst (v := (1 : Int32)) hx hb dX6_word_27 (by decide) ?_
        refine lv_iload_n hx hb dX6_word_28 rfl (lv_at hl 1 rfl) ?_
        refine lv_ishl hx hb dX6_word_29 ?_
        refine lv_goto (tgt := 34) hx hb dX6_word_30 (by decide) ?_
        refine lv_topi (fun x3_34 ev => ?_)
        replace h := s_let_inv h x3_34 ev
        refine lv_istore_n (lv' := [(3, .int x3_34), (0, .ref (ad t)), (1, .int x1), (2, .int x2)]) hx hb dX6_word_34 rfl hl (by decide) rfl (fun ls hl => ?_)
        refine lv_iconst (v := (0 : Int32)) hx hb dX6_word_35 (by decide) ?_
        refine lv_istore (lv' := [(4, .int (0 : Int32)), (3, .int x3_34), (0, .ref (ad t)), (1, .int x1), (2, .int x2)]) hx hb dX6_word_36 hl (by decide) rfl (fun ls hl => ?_)
        exact w_X6_word_38 C0 t hT x2 FU x3_34 (0 : Int32) M21 h H locs ls hP hS (lv_sub hl [2, 4, 1, 0] rfl)
    · rw [if_neg (not_not_intro q)] at h
      refine lv_iconst (v := (-1 : Int32)) hx hb dX6_word_16 (by decide) ?_
      exact me_iret hx hb hr hlk hP hS h dX6_word_17
theorem c_X6_word {l : Launch} {D : va_G} {cI : ClassId} {ad : Nat → Nat} {L : List CDs} {t : Nat} (hT : is_X6 L t) {x1 : Int32} {x2 : Int32} {M M' : Mem} {r : Int32} (h : X6_word t x1 x2 M = some (r, M')) : me_Met l yX6_word wsX6_word rmX6_word D cI ad L [.ref (ad t), .int x1, .int x2] (some (.int r)) M M' :=
  me_ofW (by decide) rfl (Nat.le_of_ble_eq_true rfl) (fun p e s m below meth c C0 => w_X6_word C0 t hT x1 x2 M h)
abbrev rmX6_mayAll : Room := { frames := 3, cells := 0, slots := 0, locals := 66 }
theorem kX6_mayAll_f49 : (Cond.fieldLink RX6 49 "LadderOfBowsModel" "alive" "[I") ∈ wsX6_mayAll := List.mem_of_getElem? (i := 1) rfl
theorem in_X6_mayAll_X6 : ∀ w ∈ wsX60, w ∈ wsX6_mayAll := by decide +kernel
theorem hd_X6_mayAll : yX6_mayAll.cls = RX6 ∧ yX6_mayAll.cls ≠ "java/lang/invoke/MethodHandle" ∧ yX6_mayAll.cls ≠ "java/lang/invoke/VarHandle" ∧ (parseMethodDescriptor yX6_mayAll.desc).map (fun d => d.parameters.length) = some 1 := by decide +kernel
set_option maxRecDepth 100000 in
set_option maxHeartbeats 4000000 in
theorem w_X6_mayAll_21 {p : Program} {l : Launch} {e : Env} {s : State} {m : MethodId} {args : Array Value} {below : List Frame} {meth : Method} {c : Code} {D : va_G} {cI : ClassId} {ad : Nat → Nat} {L : List CDs} {r : Int32} {M' : Mem} (C0 : me_X p s m args meth c cX6_mayAll 4 (some .boolean) wsX6_mayAll RX6 D cI ad L) (t : Nat) (hT : is_X6 L t) (x1 : Int32) : ∀ (n : Nat) (x2 : Int32) (x3 : Int32) (M : Mem), X6_mayAll_21 t x1 n x2 x3 M = some (r, M') → me_W p l e rmX6_mayAll s m args below meth c D cI ad L (some (.int r)) M' 4 21 [(0, .ref (ad t)), (1, .int x1), (2, .int x2), (3, .int x3)] [] M := by
  obtain ⟨hx, hb, hr, hml, hown, hts, hlk, hK, hI⟩ := id C0
  intro n
  induction n with
  | zero =>
    intro x2 x3 M h
    rw [X6_mayAll_21] at h
    cases h
  | succ n ih =>
    intro x2 x3 M h
    rw [X6_mayAll_21] at h
    intro H locs ls hP hS hl
    refine lv_iload_n hx hb dX6_mayAll_21 rfl (lv_at hl 3 rfl) ?_
    refine lv_bipush (v := (64 : Int32)) hx hb dX6_mayAll_22 (by decide) ?_
    refine lv_icmp_ge (tgt := 92) hx hb dX6_mayAll_24 (by decide) (fun q => ?_) (fun q => ?_)
    · rw [if_pos q] at h
      refine lv_iload_n hx hb dX6_mayAll_92 rfl (lv_at hl 2 rfl) ?_
      exact me_zret hx hb hr hlk hP hS h dX6_mayAll_93
    · rw [if_neg q] at h
      refine lv_iload_n hx hb dX6_mayAll_27 rfl (lv_at hl 2 rfl) ?_
      refine lv_if_eq (tgt := 84) hx hb dX6_mayAll_28 (by decide) (fun q => ?_) (fun q => ?_)
      · rw [if_pos q] at h
        refine lv_iconst (v := (0 : Int32)) hx hb dX6_mayAll_84 (by decide) ?_
        refine lv_istore_n (lv' := [(2, .int (0 : Int32)), (0, .ref (ad t)), (1, .int x1), (3, .int x3)]) hx hb dX6_mayAll_85 rfl hl (by decide) rfl (fun ls hl => ?_)
        refine lv_iinc (k := 3) (v := (x3 + (1 : Int32))) (lv' := [(3, .int (x3 + (1 : Int32))), (2, .int (0 : Int32)), (0, .ref (ad t)), (1, .int x1)]) hx hb dX6_mayAll_86 hl rfl rfl (by decide) rfl (fun ls hl => ?_)
        refine lv_goto (tgt := 21) hx hb dX6_mayAll_89 (by decide) ?_
        exact ih (0 : Int32) (x3 + (1 : Int32)) M h H locs ls hP hS (lv_sub hl [2, 3, 1, 0] rfl)
      · rw [if_neg q] at h
        refine lv_iload_n hx hb dX6_mayAll_31 rfl (lv_at hl 3 rfl) ?_
        refine lv_bipush (v := (8 : Int32)) hx hb dX6_mayAll_32 (by decide) ?_
        obtain ⟨hi, h⟩ := s_div_inv h
        refine lv_idiv hx hb dX6_mayAll_34 hi ?_
        refine lv_topi (fun v34 ev => ?_)
        replace h := h v34 ev
        refine lv_iload_n hx hb dX6_mayAll_35 rfl (lv_at hl 3 rfl) ?_
        refine lv_bipush (v := (8 : Int32)) hx hb dX6_mayAll_36 (by decide) ?_
        obtain ⟨hi, h⟩ := s_rem_inv h
        refine lv_irem hx hb dX6_mayAll_38 hi ?_
        refine lv_topi (fun v38 ev => ?_)
        replace h := h v38 ev
        refine lv_icmp_ge (tgt := 80) hx hb dX6_mayAll_39 (by decide) (fun q => ?_) (fun q => ?_)
        · rw [if_pos q] at h
          refine lv_iconst (v := (1 : Int32)) hx hb dX6_mayAll_80 (by decide) ?_
          refine lv_goto (tgt := 85) hx hb dX6_mayAll_81 (by decide) ?_
          refine lv_istore_n (lv' := [(2, .int (1 : Int32)), (0, .ref (ad t)), (1, .int x1), (3, .int x3)]) hx hb dX6_mayAll_85 rfl hl (by decide) rfl (fun ls hl => ?_)
          refine lv_iinc (k := 3) (v := (x3 + (1 : Int32))) (lv' := [(3, .int (x3 + (1 : Int32))), (2, .int (1 : Int32)), (0, .ref (ad t)), (1, .int x1)]) hx hb dX6_mayAll_86 hl rfl rfl (by decide) rfl (fun ls hl => ?_)
          refine lv_goto (tgt := 21) hx hb dX6_mayAll_89 (by decide) ?_
          exact ih (1 : Int32) (x3 + (1 : Int32)) M h H locs ls hP hS (lv_sub hl [2, 3, 1, 0] rfl)
        · rw [if_neg q] at h
          refine lv_iload_n hx hb dX6_mayAll_42 rfl (lv_at hl 1 rfl) ?_
          refine lv_iload_n hx hb dX6_mayAll_43 rfl (lv_at hl 3 rfl) ?_
          refine lv_bipush (v := (8 : Int32)) hx hb dX6_mayAll_44 (by decide) ?_
          obtain ⟨hi, h⟩ := s_div_inv h
          refine lv_idiv hx hb dX6_mayAll_46 hi ?_
          refine lv_topi (fun v46 ev => ?_)
          replace h := h v46 ev
          obtain ⟨v47, M47, h1, h⟩ := s_call_inv h
          refine me_callSi (As := [.int x1, .int v46]) (rest := []) ⟨hx, hb, hml, hown, hts⟩ (c_X6_has h1) (va_cwS 2 hts gX6_mayAll_X6_has rfl rfl rfl hd_X6_has.2 ⟨(Nat.le_of_ble_eq_true rfl), (Nat.le_of_ble_eq_true rfl)⟩) hK hI hP hS rfl hl.1 rfl (Nat.le_of_ble_eq_true rfl) dX6_mayAll_47 ⟨Nat.zero_le _, Nat.zero_le _⟩ (fun H locs hP hS => ?_)
          refine lv_if_eq (tgt := 80) hx hb dX6_mayAll_50 (by decide) (fun q => ?_) (fun q => ?_)
          · rw [if_pos q] at h
            refine lv_iconst (v := (1 : Int32)) hx hb dX6_mayAll_80 (by decide) ?_
            refine lv_goto (tgt := 85) hx hb dX6_mayAll_81 (by decide) ?_
            refine lv_istore_n (lv' := [(2, .int (1 : Int32)), (0, .ref (ad t)), (1, .int x1), (3, .int x3)]) hx hb dX6_mayAll_85 rfl hl (by decide) rfl (fun ls hl => ?_)
            refine lv_iinc (k := 3) (v := (x3 + (1 : Int32))) (lv' := [(3, .int (x3 + (1 : Int32))), (2, .int (1 : Int32)), (0, .ref (ad t)), (1, .int x1)]) hx hb dX6_mayAll_86 hl rfl rfl (by decide) rfl (fun ls hl => ?_)
            refine lv_goto (tgt := 21) hx hb dX6_mayAll_89 (by decide) ?_
            exact ih (1 : Int32) (x3 + (1 : Int32)) M47 h H locs ls hP hS (lv_sub hl [2, 3, 1, 0] rfl)
          · rw [if_neg q] at h
            refine lv_iload_n hx hb dX6_mayAll_53 rfl (lv_at hl 1 rfl) ?_
            refine lv_iload_n hx hb dX6_mayAll_54 rfl (lv_at hl 3 rfl) ?_
            refine lv_bipush (v := (8 : Int32)) hx hb dX6_mayAll_55 (by decide) ?_
            obtain ⟨hi, h⟩ := s_rem_inv h
            refine lv_irem hx hb dX6_mayAll_57 hi ?_
            refine lv_topi (fun v57 ev => ?_)
            replace h := h v57 ev
            obtain ⟨v58, M58, h1, h⟩ := s_call_inv h
            refine me_callSi (As := [.int x1, .int v57]) (rest := []) ⟨hx, hb, hml, hown, hts⟩ (c_X6_has h1) (va_cwS 2 hts gX6_mayAll_X6_has rfl rfl rfl hd_X6_has.2 ⟨(Nat.le_of_ble_eq_true rfl), (Nat.le_of_ble_eq_true rfl)⟩) hK hI hP hS rfl hl.1 rfl (Nat.le_of_ble_eq_true rfl) dX6_mayAll_58 ⟨Nat.zero_le _, Nat.zero_le _⟩ (fun H locs hP hS => ?_)
            refine lv_if_eq (tgt := 80) hx hb dX6_mayAll_61 (by decide) (fun q => ?_) (fun q => ?_)
            · rw [if_pos q] at h
              refine lv_iconst (v := (1 : Int32)) hx hb dX6_mayAll_80 (by decide) ?_
              refine lv_goto (tgt := 85) hx hb dX6_mayAll_81 (by decide) ?_
              refine lv_istore_n (lv' := [(2, .int (1 : Int32)), (0, .ref (ad t)), (1, .int x1), (3, .int x3)]) hx hb dX6_mayAll_85 rfl hl (by decide) rfl (fun ls hl => ?_)
              refine lv_iinc (k := 3) (v := (x3 + (1 : Int32))) (lv' := [(3, .int (x3 + (1 : Int32))), (2, .int (1 : Int32)), (0, .ref (ad t)), (1, .int x1)]) hx hb dX6_mayAll_86 hl rfl rfl (by decide) rfl (fun ls hl => ?_)
              refine lv_goto (tgt := 21) hx hb dX6_mayAll_89 (by decide) ?_
              exact ih (1 : Int32) (x3 + (1 : Int32)) M58 h H locs ls hP hS (lv_sub hl [2, 3, 1, 0] rfl)
            · rw [if_neg q] at h
              refine lv_aload_n hx hb dX6_mayAll_64 rfl (lv_at hl 0 rfl) ?_
              refine lv_iconst (v := (0 : Int32)) hx hb dX6_mayAll_65 (by decide) ?_
              refine lv_iload_n hx hb dX6_mayAll_66 rfl (lv_at hl 3 rfl) ?_
              refine lv_bipush (v := (8 : Int32)) hx hb dX6_mayAll_67 (by decide) ?_
              obtain ⟨hi, h⟩ := s_div_inv h
              refine lv_idiv hx hb dX6_mayAll_69 hi ?_
              refine lv_topi (fun v69 ev => ?_)
              replace h := h v69 ev
              refine lv_iload_n hx hb dX6_mayAll_70 rfl (lv_at hl 3 rfl) ?_
              refine lv_bipush (v := (8 : Int32)) hx hb dX6_mayAll_71 (by decide) ?_
              obtain ⟨hi, h⟩ := s_rem_inv h
              refine lv_irem hx hb dX6_mayAll_73 hi ?_
              refine lv_topi (fun v73 ev => ?_)
              replace h := h v73 ev
              obtain ⟨v74, M74, h1, h⟩ := s_call_inv h
              refine me_callVi (As := [.int (0 : Int32), .int v69, .int v73]) (rest := []) ⟨hx, hb, hml, hown, hts⟩ (c_X6_maySpeak hT h1) (cwV 3 hts gX6_mayAll_X6_maySpeak rfl rfl rfl hd_X6_maySpeak ⟨(Nat.le_of_ble_eq_true rfl), (Nat.le_of_ble_eq_true rfl)⟩) hK hI hP hS hT.1 rfl rfl hl.1 rfl (Nat.le_of_ble_eq_true rfl) dX6_mayAll_74 ⟨Nat.zero_le _, Nat.zero_le _⟩ (fun H locs hP hS => ?_)
              refine lv_if_eq (tgt := 84) hx hb dX6_mayAll_77 (by decide) (fun q => ?_) (fun q => ?_)
              · rw [if_pos q] at h
                refine lv_iconst (v := (0 : Int32)) hx hb dX6_mayAll_84 (by decide) ?_
                refine lv_istore_n (lv' := [(2, .int (0 : Int32)), (0, .ref (ad t)), (1, .int x1), (3, .int x3)]) hx hb dX6_mayAll_85 rfl hl (by decide) rfl (fun ls hl => ?_)
                refine lv_iinc (k := 3) (v := (x3 + (1 : Int32))) (lv' := [(3, .int (x3 + (1 : Int32))), (2, .int (0 : Int32)), (0, .ref (ad t)), (1, .int x1)]) hx hb dX6_mayAll_86 hl rfl rfl (by decide) rfl (fun ls hl => ?_)
                refine lv_goto (tgt := 21) hx hb dX6_mayAll_89 (by decide) ?_
                exact ih (0 : Int32) (x3 + (1 : Int32)) M74 h H locs ls hP hS (lv_sub hl [2, 3, 1, 0] rfl)
              · rw [if_neg q] at h
                refine lv_iconst (v := (1 : Int32)) hx hb dX6_mayAll_80 (by decide) ?_
                refine lv_goto (tgt := 85) hx hb dX6_mayAll_81 (by decide) ?_
                refine lv_istore_n (lv' := [(2, .int (1 : Int32)), (0, .ref (ad t)), (1, .int x1), (3, .int x3)]) hx hb dX6_mayAll_85 rfl hl (by decide) rfl (fun ls hl => ?_)
                refine lv_iinc (k := 3) (v := (x3 + (1 : Int32))) (lv' := [(3, .int (x3 + (1 : Int32))), (2, .int (1 : Int32)), (0, .ref (ad t)), (1, .int x1)]) hx hb dX6_mayAll_86 hl rfl rfl (by decide) rfl (fun ls hl => ?_)
                refine lv_goto (tgt := 21) hx hb dX6_mayAll_89 (by decide) ?_
                exact ih (1 : Int32) (x3 + (1 : Int32)) M74 h H locs ls hP hS (lv_sub hl [2, 3, 1, 0] rfl)
set_option maxRecDepth 100000 in
set_option maxHeartbeats 4000000 in
theorem w_X6_mayAll {p : Program} {l : Launch} {e : Env} {s : State} {m : MethodId} {args : Array Value} {below : List Frame} {meth : Method} {c : Code} {D : va_G} {cI : ClassId} {ad : Nat → Nat} {L : List CDs} {r : Int32} {M' : Mem} (C0 : me_X p s m args meth c cX6_mayAll 4 (some .boolean) wsX6_mayAll RX6 D cI ad L) (t : Nat) (hT : is_X6 L t) (x1 : Int32) : ∀  (M : Mem), X6_mayAll t x1 M = some (r, M') → me_W p l e rmX6_mayAll s m args below meth c D cI ad L (some (.int r)) M' 4 0 [(0, .ref (ad t)), (1, .int x1)] [] M := by
  obtain ⟨hx, hb, hr, hml, hown, hts, hlk, hK, hI⟩ := id C0
  intro M h
  unfold X6_mayAll at h
  intro H locs ls hP hS hl
  refine lv_iload_n hx hb dX6_mayAll_0 rfl (lv_at hl 1 rfl) ?_
  refine lv_aload_n hx hb dX6_mayAll_1 rfl (lv_at hl 0 rfl) ?_
  refine me_getr (ci := 6) (C := RX6) (T := TX6) (N := 22) hx hb hts in_X6_mayAll_X6 hown hK hP hT.1 rfl 17 (by decide) (hts _ kX6_mayAll_f49) rfl dX6_mayAll_2 ?_
  refine lv_iconst (v := (0 : Int32)) hx hb dX6_mayAll_5 (by decide) ?_
  obtain ⟨hi, h⟩ := s_ald_inv h
  refine me_ald hx hb hK hP hT.2.2.2.2.2.2.2.2.2.2.2.2.2.2.1 hi dX6_mayAll_6 (fun v6 ev => ?_)
  replace h := h v6 ev
  refine lv_iconst (v := (-1 : Int32)) hx hb dX6_mayAll_7 (by decide) ?_
  refine lv_ixor hx hb dX6_mayAll_8 ?_
  refine lv_iand hx hb dX6_mayAll_9 ?_
  refine lv_if_ne (tgt := 17) hx hb dX6_mayAll_10 (by decide) (fun q => ?_) (fun q => ?_)
  · rw [if_pos q] at h
    refine lv_iconst (v := (0 : Int32)) hx hb dX6_mayAll_17 (by decide) ?_
    refine lv_istore_n (lv' := [(2, .int (0 : Int32)), (0, .ref (ad t)), (1, .int x1)]) hx hb dX6_mayAll_18 rfl hl (by decide) rfl (fun ls hl => ?_)
    refine lv_iconst (v := (0 : Int32)) hx hb dX6_mayAll_19 (by decide) ?_
    refine lv_istore_n (lv' := [(3, .int (0 : Int32)), (2, .int (0 : Int32)), (0, .ref (ad t)), (1, .int x1)]) hx hb dX6_mayAll_20 rfl hl (by decide) rfl (fun ls hl => ?_)
    exact w_X6_mayAll_21 C0 t hT x1 FU (0 : Int32) (0 : Int32) M h H locs ls hP hS (lv_sub hl [2, 3, 1, 0] rfl)
  · rw [if_neg (not_not_intro q)] at h
    refine lv_iconst (v := (1 : Int32)) hx hb dX6_mayAll_13 (by decide) ?_
    refine lv_goto (tgt := 18) hx hb dX6_mayAll_14 (by decide) ?_
    refine lv_istore_n (lv' := [(2, .int (1 : Int32)), (0, .ref (ad t)), (1, .int x1)]) hx hb dX6_mayAll_18 rfl hl (by decide) rfl (fun ls hl => ?_)
    refine lv_iconst (v := (0 : Int32)) hx hb dX6_mayAll_19 (by decide) ?_
    refine lv_istore_n (lv' := [(3, .int (0 : Int32)), (2, .int (1 : Int32)), (0, .ref (ad t)), (1, .int x1)]) hx hb dX6_mayAll_20 rfl hl (by decide) rfl (fun ls hl => ?_)
    exact w_X6_mayAll_21 C0 t hT x1 FU (1 : Int32) (0 : Int32) M h H locs ls hP hS (lv_sub hl [2, 3, 1, 0] rfl)
theorem c_X6_mayAll {l : Launch} {D : va_G} {cI : ClassId} {ad : Nat → Nat} {L : List CDs} {t : Nat} (hT : is_X6 L t) {x1 : Int32} {M M' : Mem} {r : Int32} (h : X6_mayAll t x1 M = some (r, M')) : me_Met l yX6_mayAll wsX6_mayAll rmX6_mayAll D cI ad L [.ref (ad t), .int x1] (some (.int r)) M M' :=
  me_ofW (by decide) rfl (Nat.le_of_ble_eq_true rfl) (fun p e s m below meth c C0 => w_X6_mayAll C0 t hT x1 M h)
abbrev rmX6_vote : Room := { frames := 4, cells := 0, slots := 0, locals := 89 }
theorem kX6_vote_f13 : (Cond.fieldLink RX6 13 "LadderOfBowsModel" "persons" "[I") ∈ wsX6_vote := List.mem_of_getElem? (i := 1) rfl
theorem in_X6_vote_X6 : ∀ w ∈ wsX60, w ∈ wsX6_vote := by decide +kernel
theorem hd_X6_vote : yX6_vote.cls = RX6 ∧ yX6_vote.cls ≠ "java/lang/invoke/MethodHandle" ∧ yX6_vote.cls ≠ "java/lang/invoke/VarHandle" ∧ (parseMethodDescriptor yX6_vote.desc).map (fun d => d.parameters.length) = some 0 := by decide +kernel
set_option maxRecDepth 100000 in
set_option maxHeartbeats 4000000 in
theorem w_X6_vote_4 {p : Program} {l : Launch} {e : Env} {s : State} {m : MethodId} {args : Array Value} {below : List Frame} {meth : Method} {c : Code} {D : va_G} {cI : ClassId} {ad : Nat → Nat} {L : List CDs} {r : Int32} {M' : Mem} (C0 : me_X p s m args meth c cX6_vote 3 (some .int) wsX6_vote RX6 D cI ad L) (t : Nat) (hT : is_X6 L t) : ∀ (n : Nat) (x1 : Int32) (x2 : Int32) (M : Mem), X6_vote_4 t n x1 x2 M = some (r, M') → me_W p l e rmX6_vote s m args below meth c D cI ad L (some (.int r)) M' 3 4 [(0, .ref (ad t)), (1, .int x1), (2, .int x2)] [] M := by
  obtain ⟨hx, hb, hr, hml, hown, hts, hlk, hK, hI⟩ := id C0
  intro n
  induction n with
  | zero =>
    intro x1 x2 M h
    rw [X6_vote_4] at h
    cases h
  | succ n ih =>
    intro x1 x2 M h
    rw [X6_vote_4] at h
    intro H locs ls hP hS hl
    refine lv_iload_n hx hb dX6_vote_4 rfl (lv_at hl 2 rfl) ?_
    refine lv_iconst (v := (1 : Int32)) hx hb dX6_vote_5 (by decide) ?_
    refine lv_aload_n hx hb dX6_vote_6 rfl (lv_at hl 0 rfl) ?_
    refine me_getr (ci := 6) (C := RX6) (T := TX6) (N := 22) hx hb hts in_X6_vote_X6 hown hK hP hT.1 rfl 2 (by decide) (hts _ kX6_vote_f13) rfl dX6_vote_7 ?_
    refine lv_iconst (v := (0 : Int32)) hx hb dX6_vote_10 (by decide) ?_
    obtain ⟨hi, h⟩ := s_ald_inv h
    refine me_ald hx hb hK hP hT.2.2.1 hi dX6_vote_11 (fun v11 ev => ?_)
    replace h := h v11 ev
    refine lv_ishl hx hb dX6_vote_12 ?_
    refine lv_icmp_ge (tgt := 47) hx hb dX6_vote_13 (by decide) (fun q => ?_) (fun q => ?_)
    · rw [if_pos q] at h
      refine lv_iload_n hx hb dX6_vote_47 rfl (lv_at hl 1 rfl) ?_
      exact me_iret hx hb hr hlk hP hS h dX6_vote_48
    · rw [if_neg q] at h
      refine lv_iload_n hx hb dX6_vote_16 rfl (lv_at hl 2 rfl) ?_
      obtain ⟨v17, M17, h1, h⟩ := s_call_inv h
      refine me_callSi (As := [.int x2]) (rest := []) ⟨hx, hb, hml, hown, hts⟩ (c_X6_bits h1) (va_cwS 1 hts gX6_vote_X6_bits rfl rfl rfl hd_X6_bits.2 ⟨(Nat.le_of_ble_eq_true rfl), (Nat.le_of_ble_eq_true rfl)⟩) hK hI hP hS rfl hl.1 rfl (Nat.le_of_ble_eq_true rfl) dX6_vote_17 ⟨Nat.zero_le _, Nat.zero_le _⟩ (fun H locs hP hS => ?_)
      refine lv_iload_n hx hb dX6_vote_20 rfl (lv_at hl 1 rfl) ?_
      obtain ⟨v21, M21, h1, h⟩ := s_call_inv h
      refine me_callSi (As := [.int x1]) (rest := [.int v17]) ⟨hx, hb, hml, hown, hts⟩ (c_X6_bits h1) (va_cwS 1 hts gX6_vote_X6_bits rfl rfl rfl hd_X6_bits.2 ⟨(Nat.le_of_ble_eq_true rfl), (Nat.le_of_ble_eq_true rfl)⟩) hK hI hP hS rfl hl.1 rfl (Nat.le_of_ble_eq_true rfl) dX6_vote_21 ⟨Nat.zero_le _, Nat.zero_le _⟩ (fun H locs hP hS => ?_)
      refine lv_icmp_le (tgt := 39) hx hb dX6_vote_24 (by decide) (fun q => ?_) (fun q => ?_)
      · rw [if_pos q] at h
        refine lv_iload_n hx hb dX6_vote_39 rfl (lv_at hl 1 rfl) ?_
        refine lv_istore_n (lv' := [(1, .int x1), (0, .ref (ad t)), (2, .int x2)]) hx hb dX6_vote_40 rfl hl (by decide) rfl (fun ls hl => ?_)
        refine lv_iinc (k := 2) (v := (x2 + (1 : Int32))) (lv' := [(2, .int (x2 + (1 : Int32))), (1, .int x1), (0, .ref (ad t))]) hx hb dX6_vote_41 hl rfl rfl (by decide) rfl (fun ls hl => ?_)
        refine lv_goto (tgt := 4) hx hb dX6_vote_44 (by decide) ?_
        exact ih x1 (x2 + (1 : Int32)) M21 h H locs ls hP hS (lv_sub hl [2, 1, 0] rfl)
      · rw [if_neg q] at h
        refine lv_aload_n hx hb dX6_vote_27 rfl (lv_at hl 0 rfl) ?_
        refine lv_iload_n hx hb dX6_vote_28 rfl (lv_at hl 2 rfl) ?_
        obtain ⟨v29, M29, h1, h⟩ := s_call_inv h
        refine me_callVi (As := [.int x2]) (rest := []) ⟨hx, hb, hml, hown, hts⟩ (c_X6_mayAll hT h1) (cwV 1 hts gX6_vote_X6_mayAll rfl rfl rfl hd_X6_mayAll ⟨(Nat.le_of_ble_eq_true rfl), (Nat.le_of_ble_eq_true rfl)⟩) hK hI hP hS hT.1 rfl rfl hl.1 rfl (Nat.le_of_ble_eq_true rfl) dX6_vote_29 ⟨Nat.zero_le _, Nat.zero_le _⟩ (fun H locs hP hS => ?_)
        refine lv_if_eq (tgt := 39) hx hb dX6_vote_32 (by decide) (fun q => ?_) (fun q => ?_)
        · rw [if_pos q] at h
          refine lv_iload_n hx hb dX6_vote_39 rfl (lv_at hl 1 rfl) ?_
          refine lv_istore_n (lv' := [(1, .int x1), (0, .ref (ad t)), (2, .int x2)]) hx hb dX6_vote_40 rfl hl (by decide) rfl (fun ls hl => ?_)
          refine lv_iinc (k := 2) (v := (x2 + (1 : Int32))) (lv' := [(2, .int (x2 + (1 : Int32))), (1, .int x1), (0, .ref (ad t))]) hx hb dX6_vote_41 hl rfl rfl (by decide) rfl (fun ls hl => ?_)
          refine lv_goto (tgt := 4) hx hb dX6_vote_44 (by decide) ?_
          exact ih x1 (x2 + (1 : Int32)) M29 h H locs ls hP hS (lv_sub hl [2, 1, 0] rfl)
        · rw [if_neg q] at h
          refine lv_iload_n hx hb dX6_vote_35 rfl (lv_at hl 2 rfl) ?_
          refine lv_goto (tgt := 40) hx hb dX6_vote_36 (by decide) ?_
          refine lv_istore_n (lv' := [(1, .int x2), (0, .ref (ad t)), (2, .int x2)]) hx hb dX6_vote_40 rfl hl (by decide) rfl (fun ls hl => ?_)
          refine lv_iinc (k := 2) (v := (x2 + (1 : Int32))) (lv' := [(2, .int (x2 + (1 : Int32))), (1, .int x2), (0, .ref (ad t))]) hx hb dX6_vote_41 hl rfl rfl (by decide) rfl (fun ls hl => ?_)
          refine lv_goto (tgt := 4) hx hb dX6_vote_44 (by decide) ?_
          exact ih x2 (x2 + (1 : Int32)) M29 h H locs ls hP hS (lv_sub hl [2, 1, 0] rfl)
set_option maxRecDepth 100000 in
set_option maxHeartbeats 4000000 in
theorem w_X6_vote {p : Program} {l : Launch} {e : Env} {s : State} {m : MethodId} {args : Array Value} {below : List Frame} {meth : Method} {c : Code} {D : va_G} {cI : ClassId} {ad : Nat → Nat} {L : List CDs} {r : Int32} {M' : Mem} (C0 : me_X p s m args meth c cX6_vote 3 (some .int) wsX6_vote RX6 D cI ad L) (t : Nat) (hT : is_X6 L t) : ∀  (M : Mem), X6_vote t M = some (r, M') → me_W p l e rmX6_vote s m args below meth c D cI ad L (some (.int r)) M' 3 0 [(0, .ref (ad t))] [] M := by
  obtain ⟨hx, hb, hr, hml, hown, hts, hlk, hK, hI⟩ := id C0
  intro M h
  unfold X6_vote at h
  intro H locs ls hP hS hl
  refine lv_iconst (v := (0 : Int32)) hx hb dX6_vote_0 (by decide) ?_
  refine lv_istore_n (lv' := [(1, .int (0 : Int32)), (0, .ref (ad t))]) hx hb dX6_vote_1 rfl hl (by decide) rfl (fun ls hl => ?_)
  refine lv_iconst (v := (1 : Int32)) hx hb dX6_vote_2 (by decide) ?_
  refine lv_istore_n (lv' := [(2, .int (1 : Int32)), (1, .int (0 : Int32)), (0, .ref (ad t))]) hx hb dX6_vote_3 rfl hl (by decide) rfl (fun ls hl => ?_)
  exact w_X6_vote_4 C0 t hT FU (0 : Int32) (1 : Int32) M h H locs ls hP hS (lv_sub hl [2, 1, 0] rfl)
theorem c_X6_vote {l : Launch} {D : va_G} {cI : ClassId} {ad : Nat → Nat} {L : List CDs} {t : Nat} (hT : is_X6 L t)  {M M' : Mem} {r : Int32} (h : X6_vote t M = some (r, M')) : me_Met l yX6_vote wsX6_vote rmX6_vote D cI ad L [.ref (ad t)] (some (.int r)) M M' :=
  me_ofW (by decide) rfl (Nat.le_of_ble_eq_true rfl) (fun p e s m below meth c C0 => w_X6_vote C0 t hT M h)
abbrev rmX6_deals : Room := { frames := 3, cells := 0, slots := 0, locals := 66 }
theorem kX6_deals_f13 : (Cond.fieldLink RX6 13 "LadderOfBowsModel" "persons" "[I") ∈ wsX6_deals := List.mem_of_getElem? (i := 1) rfl
theorem kX6_deals_f61 : (Cond.fieldLink RX6 61 "LadderOfBowsModel" "most" "[I") ∈ wsX6_deals := List.mem_of_getElem? (i := 2) rfl
theorem in_X6_deals_X6 : ∀ w ∈ wsX60, w ∈ wsX6_deals := by decide +kernel
theorem hd_X6_deals : yX6_deals.cls = RX6 ∧ yX6_deals.cls ≠ "java/lang/invoke/MethodHandle" ∧ yX6_deals.cls ≠ "java/lang/invoke/VarHandle" ∧ (parseMethodDescriptor yX6_deals.desc).map (fun d => d.parameters.length) = some 0 := by decide +kernel
set_option maxRecDepth 100000 in
set_option maxHeartbeats 4000000 in
theorem w_X6_deals_62 {p : Program} {l : Launch} {e : Env} {s : State} {m : MethodId} {args : Array Value} {below : List Frame} {meth : Method} {c : Code} {D : va_G} {cI : ClassId} {ad : Nat → Nat} {L : List CDs} {r : Int32} {M' : Mem} (C0 : me_X p s m args meth c cX6_deals 6 (some .int) wsX6_deals RX6 D cI ad L) (t : Nat) (hT : is_X6 L t) (x1 : Int32) (x2 : Int32) (k2 : Int32 → Mem → Option (Int32 × Mem)) (hk2 : ∀ (x1 : Int32) (M : Mem), k2 x1 M = some (r, M') → me_W p l e rmX6_deals s m args below meth c D cI ad L (some (.int r)) M' 6 2 [(0, .ref (ad t)), (1, .int x1)] [] M) : ∀ (n : Nat) (x3 : Int32) (x4 : Int32) (M : Mem), X6_deals_62 t x1 x2 k2 n x3 x4 M = some (r, M') → me_W p l e rmX6_deals s m args below meth c D cI ad L (some (.int r)) M' 6 62 [(0, .ref (ad t)), (1, .int x1), (2, .int x2), (3, .int x3), (4, .int x4)] [] M := by
  obtain ⟨hx, hb, hr, hml, hown, hts, hlk, hK, hI⟩ := id C0
  intro n
  induction n with
  | zero =>
    intro x3 x4 M h
    rw [X6_deals_62] at h
    cases h
  | succ n ih =>
    intro x3 x4 M h
    rw [X6_deals_62] at h
    intro H locs ls hP hS hl
    refine lv_iload hx hb dX6_deals_62 (lv_at hl 4 rfl) ?_
    refine lv_aload_n hx hb dX6_deals_64 rfl (lv_at hl 0 rfl) ?_
    refine me_getr (ci := 6) (C := RX6) (T := TX6) (N := 22) hx hb hts in_X6_deals_X6 hown hK hP hT.1 rfl 2 (by decide) (hts _ kX6_deals_f13) rfl dX6_deals_65 ?_
    refine lv_iconst (v := (0 : Int32)) hx hb dX6_deals_68 (by decide) ?_
    obtain ⟨hi, h⟩ := s_ald_inv h
    refine me_ald hx hb hK hP hT.2.2.1 hi dX6_deals_69 (fun v69 ev => ?_)
    replace h := h v69 ev
    refine lv_icmp_ge (tgt := 135) hx hb dX6_deals_70 (by decide) (fun q => ?_) (fun q => ?_)
    · rw [if_pos q] at h
      refine lv_aload_n hx hb dX6_deals_135 rfl (lv_at hl 0 rfl) ?_
      refine me_getr (ci := 6) (C := RX6) (T := TX6) (N := 22) hx hb hts in_X6_deals_X6 hown hK hP hT.1 rfl 21 (by decide) (hts _ kX6_deals_f61) rfl dX6_deals_136 ?_
      refine lv_iload_n hx hb dX6_deals_139 rfl (lv_at hl 1 rfl) ?_
      refine lv_iload_n hx hb dX6_deals_140 rfl (lv_at hl 3 rfl) ?_
      obtain ⟨hi, h⟩ := s_ast_inv h
      refine me_ast hx hb hK hI hP hS hT.2.2.2.2.2.2.2.2.2.2.2.2.2.2.2.2.2.2 hi dX6_deals_141 (fun H locs M141 eM hP hS => ?_)
      replace h := h M141 eM
      refine lv_iinc (k := 1) (v := (x1 + (1 : Int32))) (lv' := [(1, .int (x1 + (1 : Int32))), (0, .ref (ad t)), (2, .int x2), (3, .int x3), (4, .int x4)]) hx hb dX6_deals_142 hl rfl rfl (by decide) rfl (fun ls hl => ?_)
      refine lv_goto (tgt := 2) hx hb dX6_deals_145 (by decide) ?_
      exact hk2 (x1 + (1 : Int32)) M141 h H locs ls hP hS (lv_sub hl [1, 0] rfl)
    · rw [if_neg q] at h
      refine lv_iload_n hx hb dX6_deals_73 rfl (lv_at hl 1 rfl) ?_
      refine lv_iload hx hb dX6_deals_74 (lv_at hl 4 rfl) ?_
      obtain ⟨v76, M76, h1, h⟩ := s_call_inv h
      refine me_callSi (As := [.int x1, .int x4]) (rest := []) ⟨hx, hb, hml, hown, hts⟩ (c_X6_has h1) (va_cwS 2 hts gX6_deals_X6_has rfl rfl rfl hd_X6_has.2 ⟨(Nat.le_of_ble_eq_true rfl), (Nat.le_of_ble_eq_true rfl)⟩) hK hI hP hS rfl hl.1 rfl (Nat.le_of_ble_eq_true rfl) dX6_deals_76 ⟨Nat.zero_le _, Nat.zero_le _⟩ (fun H locs hP hS => ?_)
      refine lv_if_eq (tgt := 129) hx hb dX6_deals_79 (by decide) (fun q => ?_) (fun q => ?_)
      · rw [if_pos q] at h
        refine lv_iinc (k := 4) (v := (x4 + (1 : Int32))) (lv' := [(4, .int (x4 + (1 : Int32))), (0, .ref (ad t)), (1, .int x1), (2, .int x2), (3, .int x3)]) hx hb dX6_deals_129 hl rfl rfl (by decide) rfl (fun ls hl => ?_)
        refine lv_goto (tgt := 62) hx hb dX6_deals_132 (by decide) ?_
        exact ih x3 (x4 + (1 : Int32)) M76 h H locs ls hP hS (lv_sub hl [1, 2, 3, 4, 0] rfl)
      · rw [if_neg q] at h
        refine lv_aload_n hx hb dX6_deals_82 rfl (lv_at hl 0 rfl) ?_
        refine lv_iconst (v := (0 : Int32)) hx hb dX6_deals_83 (by decide) ?_
        refine lv_iload_n hx hb dX6_deals_84 rfl (lv_at hl 2 rfl) ?_
        refine lv_iload hx hb dX6_deals_85 (lv_at hl 4 rfl) ?_
        obtain ⟨v87, M87, h1, h⟩ := s_call_inv h
        refine me_callVi (As := [.int (0 : Int32), .int x2, .int x4]) (rest := []) ⟨hx, hb, hml, hown, hts⟩ (c_X6_maySpeak hT h1) (cwV 3 hts gX6_deals_X6_maySpeak rfl rfl rfl hd_X6_maySpeak ⟨(Nat.le_of_ble_eq_true rfl), (Nat.le_of_ble_eq_true rfl)⟩) hK hI hP hS hT.1 rfl rfl hl.1 rfl (Nat.le_of_ble_eq_true rfl) dX6_deals_87 ⟨Nat.zero_le _, Nat.zero_le _⟩ (fun H locs hP hS => ?_)
        refine lv_if_eq (tgt := 129) hx hb dX6_deals_90 (by decide) (fun q => ?_) (fun q => ?_)
        · rw [if_pos q] at h
          refine lv_iinc (k := 4) (v := (x4 + (1 : Int32))) (lv' := [(4, .int (x4 + (1 : Int32))), (0, .ref (ad t)), (1, .int x1), (2, .int x2), (3, .int x3)]) hx hb dX6_deals_129 hl rfl rfl (by decide) rfl (fun ls hl => ?_)
          refine lv_goto (tgt := 62) hx hb dX6_deals_132 (by decide) ?_
          exact ih x3 (x4 + (1 : Int32)) M87 h H locs ls hP hS (lv_sub hl [1, 2, 3, 4, 0] rfl)
        · rw [if_neg q] at h
          refine lv_iconst (v := (1 : Int32)) hx hb dX6_deals_93 (by decide) ?_
          refine lv_aload_n hx hb dX6_deals_94 rfl (lv_at hl 0 rfl) ?_
          refine me_getr (ci := 6) (C := RX6) (T := TX6) (N := 22) hx hb hts in_X6_deals_X6 hown hK hP hT.1 rfl 21 (by decide) (hts _ kX6_deals_f61) rfl dX6_deals_95 ?_
          refine lv_iload_n hx hb dX6_deals_98 rfl (lv_at hl 1 rfl) ?_
          refine lv_iconst (v := (1 : Int32)) hx hb dX6_deals_99 (by decide) ?_
          refine lv_iload_n hx hb dX6_deals_100 rfl (lv_at hl 2 rfl) ?_
          refine lv_ishl hx hb dX6_deals_101 ?_
          refine lv_iconst (v := (-1 : Int32)) hx hb dX6_deals_102 (by decide) ?_
          refine lv_ixor hx hb dX6_deals_103 ?_
          refine lv_iand hx hb dX6_deals_104 ?_
          refine lv_iconst (v := (1 : Int32)) hx hb dX6_deals_105 (by decide) ?_
          refine lv_iload hx hb dX6_deals_106 (lv_at hl 4 rfl) ?_
          refine lv_ishl hx hb dX6_deals_108 ?_
          refine lv_iconst (v := (-1 : Int32)) hx hb dX6_deals_109 (by decide) ?_
          refine lv_ixor hx hb dX6_deals_110 ?_
          refine lv_iand hx hb dX6_deals_111 ?_
          obtain ⟨hi, h⟩ := s_ald_inv h
          refine me_ald hx hb hK hP hT.2.2.2.2.2.2.2.2.2.2.2.2.2.2.2.2.2.2 hi dX6_deals_112 (fun v112 ev => ?_)
          replace h := h v112 ev
          refine lv_iadd hx hb dX6_deals_113 ?_
          refine lv_topi (fun x5_114 ev => ?_)
          replace h := s_let_inv h x5_114 ev
          refine lv_istore (lv' := [(5, .int x5_114), (0, .ref (ad t)), (1, .int x1), (2, .int x2), (3, .int x3), (4, .int x4)]) hx hb dX6_deals_114 hl (by decide) rfl (fun ls hl => ?_)
          refine lv_iload hx hb dX6_deals_116 (lv_at hl 0 rfl) ?_
          refine lv_iload_n hx hb dX6_deals_118 rfl (lv_at hl 4 rfl) ?_
          refine lv_icmp_le (tgt := 127) hx hb dX6_deals_119 (by decide) (fun q => ?_) (fun q => ?_)
          · rw [if_pos q] at h
            refine lv_iload_n hx hb dX6_deals_127 rfl (lv_at hl 4 rfl) ?_
            refine lv_istore_n (lv' := [(3, .int x3), (5, .int x5_114), (0, .ref (ad t)), (1, .int x1), (2, .int x2), (4, .int x4)]) hx hb dX6_deals_128 rfl hl (by decide) rfl (fun ls hl => ?_)
            refine lv_iinc (k := 5) (v := (x4 + (1 : Int32))) (lv' := [(4, .int (x4 + (1 : Int32))), (3, .int x3), (5, .int x5_114), (0, .ref (ad t)), (1, .int x1), (2, .int x2)]) hx hb dX6_deals_129 hl rfl rfl (by decide) rfl (fun ls hl => ?_)
            refine lv_goto (tgt := 62) hx hb dX6_deals_132 (by decide) ?_
            exact ih x3 (x4 + (1 : Int32)) M87 h H locs ls hP hS (lv_sub hl [3, 4, 5, 1, 0] rfl)
          · rw [if_neg q] at h
            refine lv_iload hx hb dX6_deals_122 (lv_at hl 0 rfl) ?_
            refine lv_goto (tgt := 128) hx hb dX6_deals_124 (by decide) ?_
            refine lv_istore_n (lv' := [(3, .int x5_114), (5, .int x5_114), (0, .ref (ad t)), (1, .int x1), (2, .int x2), (4, .int x4)]) hx hb dX6_deals_128 rfl hl (by decide) rfl (fun ls hl => ?_)
            refine lv_iinc (k := 5) (v := (x4 + (1 : Int32))) (lv' := [(4, .int (x4 + (1 : Int32))), (3, .int x5_114), (5, .int x5_114), (0, .ref (ad t)), (1, .int x1), (2, .int x2)]) hx hb dX6_deals_129 hl rfl rfl (by decide) rfl (fun ls hl => ?_)
            refine lv_goto (tgt := 62) hx hb dX6_deals_132 (by decide) ?_
            exact ih x5_114 (x4 + (1 : Int32)) M87 h H locs ls hP hS (lv_sub hl [3, 4, 5, 1, 0] rfl)
set_option maxRecDepth 100000 in
set_option maxHeartbeats 4000000 in
theorem w_X6_deals_36 {p : Program} {l : Launch} {e : Env} {s : State} {m : MethodId} {args : Array Value} {below : List Frame} {meth : Method} {c : Code} {D : va_G} {cI : ClassId} {ad : Nat → Nat} {L : List CDs} {r : Int32} {M' : Mem} (C0 : me_X p s m args meth c cX6_deals 6 (some .int) wsX6_deals RX6 D cI ad L) (t : Nat) (hT : is_X6 L t) (x1 : Int32) (x2 : Int32) (k2 : Int32 → Mem → Option (Int32 × Mem)) (hk2 : ∀ (x1 : Int32) (M : Mem), k2 x1 M = some (r, M') → me_W p l e rmX6_deals s m args below meth c D cI ad L (some (.int r)) M' 6 2 [(0, .ref (ad t)), (1, .int x1)] [] M) : ∀  (M : Mem), X6_deals_36 t x1 x2 k2 M = some (r, M') → me_W p l e rmX6_deals s m args below meth c D cI ad L (some (.int r)) M' 6 36 [(0, .ref (ad t)), (1, .int x1), (2, .int x2)] [] M := by
  obtain ⟨hx, hb, hr, hml, hown, hts, hlk, hK, hI⟩ := id C0
  intro M h
  unfold X6_deals_36 at h
  intro H locs ls hP hS hl
  refine lv_iload_n hx hb dX6_deals_36 rfl (lv_at hl 1 rfl) ?_
  refine lv_if_ne (tgt := 44) hx hb dX6_deals_37 (by decide) (fun q => ?_) (fun q => ?_)
  · rw [if_pos q] at h
    refine lv_aload_n hx hb dX6_deals_44 rfl (lv_at hl 0 rfl) ?_
    refine me_getr (ci := 6) (C := RX6) (T := TX6) (N := 22) hx hb hts in_X6_deals_X6 hown hK hP hT.1 rfl 21 (by decide) (hts _ kX6_deals_f61) rfl dX6_deals_45 ?_
    refine lv_iload_n hx hb dX6_deals_48 rfl (lv_at hl 1 rfl) ?_
    refine lv_iconst (v := (1 : Int32)) hx hb dX6_deals_49 (by decide) ?_
    refine lv_iload_n hx hb dX6_deals_50 rfl (lv_at hl 2 rfl) ?_
    refine lv_ishl hx hb dX6_deals_51 ?_
    refine lv_iconst (v := (-1 : Int32)) hx hb dX6_deals_52 (by decide) ?_
    refine lv_ixor hx hb dX6_deals_53 ?_
    refine lv_iand hx hb dX6_deals_54 ?_
    obtain ⟨hi, h⟩ := s_ald_inv h
    refine me_ald hx hb hK hP hT.2.2.2.2.2.2.2.2.2.2.2.2.2.2.2.2.2.2 hi dX6_deals_55 (fun v55 ev => ?_)
    replace h := h v55 ev
    refine lv_istore_n (lv' := [(3, .int v55), (0, .ref (ad t)), (1, .int x1), (2, .int x2)]) hx hb dX6_deals_56 rfl hl (by decide) rfl (fun ls hl => ?_)
    refine lv_iload_n hx hb dX6_deals_57 rfl (lv_at hl 3 rfl) ?_
    refine lv_iconst (v := (1 : Int32)) hx hb dX6_deals_58 (by decide) ?_
    refine lv_iadd hx hb dX6_deals_59 ?_
    refine lv_topi (fun x4_60 ev => ?_)
    replace h := s_let_inv h x4_60 ev
    refine lv_istore (lv' := [(4, .int x4_60), (3, .int v55), (0, .ref (ad t)), (1, .int x1), (2, .int x2)]) hx hb dX6_deals_60 hl (by decide) rfl (fun ls hl => ?_)
    exact w_X6_deals_62 C0 t hT x1 x2 k2 hk2 FU v55 x4_60 M h H locs ls hP hS (lv_sub hl [2, 3, 4, 1, 0] rfl)
  · rw [if_neg (not_not_intro q)] at h
    refine lv_iconst (v := (0 : Int32)) hx hb dX6_deals_40 (by decide) ?_
    refine lv_goto (tgt := 56) hx hb dX6_deals_41 (by decide) ?_
    refine lv_istore_n (lv' := [(3, .int (0 : Int32)), (0, .ref (ad t)), (1, .int x1), (2, .int x2)]) hx hb dX6_deals_56 rfl hl (by decide) rfl (fun ls hl => ?_)
    refine lv_iload_n hx hb dX6_deals_57 rfl (lv_at hl 3 rfl) ?_
    refine lv_iconst (v := (1 : Int32)) hx hb dX6_deals_58 (by decide) ?_
    refine lv_iadd hx hb dX6_deals_59 ?_
    refine lv_topi (fun x4_60 ev => ?_)
    replace h := s_let_inv h x4_60 ev
    refine lv_istore (lv' := [(4, .int x4_60), (3, .int (0 : Int32)), (0, .ref (ad t)), (1, .int x1), (2, .int x2)]) hx hb dX6_deals_60 hl (by decide) rfl (fun ls hl => ?_)
    exact w_X6_deals_62 C0 t hT x1 x2 k2 hk2 FU (0 : Int32) x4_60 M h H locs ls hP hS (lv_sub hl [2, 3, 4, 1, 0] rfl)
set_option maxRecDepth 100000 in
set_option maxHeartbeats 4000000 in
theorem w_X6_deals_16 {p : Program} {l : Launch} {e : Env} {s : State} {m : MethodId} {args : Array Value} {below : List Frame} {meth : Method} {c : Code} {D : va_G} {cI : ClassId} {ad : Nat → Nat} {L : List CDs} {r : Int32} {M' : Mem} (C0 : me_X p s m args meth c cX6_deals 6 (some .int) wsX6_deals RX6 D cI ad L) (t : Nat) (hT : is_X6 L t) (x1 : Int32) (k2 : Int32 → Mem → Option (Int32 × Mem)) (hk2 : ∀ (x1 : Int32) (M : Mem), k2 x1 M = some (r, M') → me_W p l e rmX6_deals s m args below meth c D cI ad L (some (.int r)) M' 6 2 [(0, .ref (ad t)), (1, .int x1)] [] M) : ∀ (n : Nat) (x2 : Int32) (M : Mem), X6_deals_16 t x1 k2 n x2 M = some (r, M') → me_W p l e rmX6_deals s m args below meth c D cI ad L (some (.int r)) M' 6 16 [(0, .ref (ad t)), (1, .int x1), (2, .int x2)] [] M := by
  obtain ⟨hx, hb, hr, hml, hown, hts, hlk, hK, hI⟩ := id C0
  intro n
  induction n with
  | zero =>
    intro x2 M h
    rw [X6_deals_16] at h
    cases h
  | succ n ih =>
    intro x2 M h
    rw [X6_deals_16] at h
    intro H locs ls hP hS hl
    refine lv_iload_n hx hb dX6_deals_16 rfl (lv_at hl 2 rfl) ?_
    refine lv_bipush (v := (7 : Int32)) hx hb dX6_deals_17 (by decide) ?_
    refine lv_icmp_ge (tgt := 36) hx hb dX6_deals_19 (by decide) (fun q => ?_) (fun q => ?_)
    · rw [if_pos q] at h
      exact w_X6_deals_36 C0 t hT x1 x2 k2 hk2 M h H locs ls hP hS (lv_sub hl [0, 1, 2] rfl)
    · rw [if_neg q] at h
      refine lv_iload_n hx hb dX6_deals_22 rfl (lv_at hl 1 rfl) ?_
      refine lv_iload_n hx hb dX6_deals_23 rfl (lv_at hl 2 rfl) ?_
      obtain ⟨v24, M24, h1, h⟩ := s_call_inv h
      refine me_callSi (As := [.int x1, .int x2]) (rest := []) ⟨hx, hb, hml, hown, hts⟩ (c_X6_has h1) (va_cwS 2 hts gX6_deals_X6_has rfl rfl rfl hd_X6_has.2 ⟨(Nat.le_of_ble_eq_true rfl), (Nat.le_of_ble_eq_true rfl)⟩) hK hI hP hS rfl hl.1 rfl (Nat.le_of_ble_eq_true rfl) dX6_deals_24 ⟨Nat.zero_le _, Nat.zero_le _⟩ (fun H locs hP hS => ?_)
      refine lv_if_ne (tgt := 36) hx hb dX6_deals_27 (by decide) (fun q => ?_) (fun q => ?_)
      · rw [if_pos q] at h
        exact w_X6_deals_36 C0 t hT x1 x2 k2 hk2 M24 h H locs ls hP hS (lv_sub hl [0, 1, 2] rfl)
      · rw [if_neg (not_not_intro q)] at h
        refine lv_iinc (k := 2) (v := (x2 + (1 : Int32))) (lv' := [(2, .int (x2 + (1 : Int32))), (0, .ref (ad t)), (1, .int x1)]) hx hb dX6_deals_30 hl rfl rfl (by decide) rfl (fun ls hl => ?_)
        refine lv_goto (tgt := 16) hx hb dX6_deals_33 (by decide) ?_
        exact ih (x2 + (1 : Int32)) M24 h H locs ls hP hS (lv_sub hl [1, 2, 0] rfl)
set_option maxRecDepth 100000 in
set_option maxHeartbeats 4000000 in
theorem w_X6_deals_2 {p : Program} {l : Launch} {e : Env} {s : State} {m : MethodId} {args : Array Value} {below : List Frame} {meth : Method} {c : Code} {D : va_G} {cI : ClassId} {ad : Nat → Nat} {L : List CDs} {r : Int32} {M' : Mem} (C0 : me_X p s m args meth c cX6_deals 6 (some .int) wsX6_deals RX6 D cI ad L) (t : Nat) (hT : is_X6 L t) : ∀ (n : Nat) (x1 : Int32) (M : Mem), X6_deals_2 t n x1 M = some (r, M') → me_W p l e rmX6_deals s m args below meth c D cI ad L (some (.int r)) M' 6 2 [(0, .ref (ad t)), (1, .int x1)] [] M := by
  obtain ⟨hx, hb, hr, hml, hown, hts, hlk, hK, hI⟩ := id C0
  intro n
  induction n with
  | zero =>
    intro x1 M h
    rw [X6_deals_2] at h
    cases h
  | succ n ih =>
    intro x1 M h
    rw [X6_deals_2] at h
    intro H locs ls hP hS hl
    refine lv_iload_n hx hb dX6_deals_2 rfl (lv_at hl 1 rfl) ?_
    refine lv_iconst (v := (1 : Int32)) hx hb dX6_deals_3 (by decide) ?_
    refine lv_aload_n hx hb dX6_deals_4 rfl (lv_at hl 0 rfl) ?_
    refine me_getr (ci := 6) (C := RX6) (T := TX6) (N := 22) hx hb hts in_X6_deals_X6 hown hK hP hT.1 rfl 2 (by decide) (hts _ kX6_deals_f13) rfl dX6_deals_5 ?_
    refine lv_iconst (v := (0 : Int32)) hx hb dX6_deals_8 (by decide) ?_
    obtain ⟨hi, h⟩ := s_ald_inv h
    refine me_ald hx hb hK hP hT.2.2.1 hi dX6_deals_9 (fun v9 ev => ?_)
    replace h := h v9 ev
    refine lv_ishl hx hb dX6_deals_10 ?_
    refine lv_icmp_ge (tgt := 148) hx hb dX6_deals_11 (by decide) (fun q => ?_) (fun q => ?_)
    · rw [if_pos q] at h
      refine lv_aload_n hx hb dX6_deals_148 rfl (lv_at hl 0 rfl) ?_
      refine me_getr (ci := 6) (C := RX6) (T := TX6) (N := 22) hx hb hts in_X6_deals_X6 hown hK hP hT.1 rfl 21 (by decide) (hts _ kX6_deals_f61) rfl dX6_deals_149 ?_
      refine lv_iconst (v := (1 : Int32)) hx hb dX6_deals_152 (by decide) ?_
      refine lv_aload_n hx hb dX6_deals_153 rfl (lv_at hl 0 rfl) ?_
      refine me_getr (ci := 6) (C := RX6) (T := TX6) (N := 22) hx hb hts in_X6_deals_X6 hown hK hP hT.1 rfl 2 (by decide) (hts _ kX6_deals_f13) rfl dX6_deals_154 ?_
      refine lv_iconst (v := (0 : Int32)) hx hb dX6_deals_157 (by decide) ?_
      obtain ⟨hi, h⟩ := s_ald_inv h
      refine me_ald hx hb hK hP hT.2.2.1 hi dX6_deals_158 (fun v158 ev => ?_)
      replace h := h v158 ev
      refine lv_ishl hx hb dX6_deals_159 ?_
      refine lv_iconst (v := (1 : Int32)) hx hb dX6_deals_160 (by decide) ?_
      refine lv_isub hx hb dX6_deals_161 ?_
      obtain ⟨hi, h⟩ := s_ald_inv h
      refine me_ald hx hb hK hP hT.2.2.2.2.2.2.2.2.2.2.2.2.2.2.2.2.2.2 hi dX6_deals_162 (fun v162 ev => ?_)
      replace h := h v162 ev
      exact me_iret hx hb hr hlk hP hS h dX6_deals_163
    · rw [if_neg q] at h
      refine lv_iconst (v := (0 : Int32)) hx hb dX6_deals_14 (by decide) ?_
      refine lv_istore_n (lv' := [(2, .int (0 : Int32)), (0, .ref (ad t)), (1, .int x1)]) hx hb dX6_deals_15 rfl hl (by decide) rfl (fun ls hl => ?_)
      exact w_X6_deals_16 C0 t hT x1 (X6_deals_2 t n) (fun x1 M h => ih x1 M h) FU (0 : Int32) M h H locs ls hP hS (lv_sub hl [1, 2, 0] rfl)
set_option maxRecDepth 100000 in
set_option maxHeartbeats 4000000 in
theorem w_X6_deals {p : Program} {l : Launch} {e : Env} {s : State} {m : MethodId} {args : Array Value} {below : List Frame} {meth : Method} {c : Code} {D : va_G} {cI : ClassId} {ad : Nat → Nat} {L : List CDs} {r : Int32} {M' : Mem} (C0 : me_X p s m args meth c cX6_deals 6 (some .int) wsX6_deals RX6 D cI ad L) (t : Nat) (hT : is_X6 L t) : ∀  (M : Mem), X6_deals t M = some (r, M') → me_W p l e rmX6_deals s m args below meth c D cI ad L (some (.int r)) M' 6 0 [(0, .ref (ad t))] [] M := by
  obtain ⟨hx, hb, hr, hml, hown, hts, hlk, hK, hI⟩ := id C0
  intro M h
  unfold X6_deals at h
  intro H locs ls hP hS hl
  refine lv_iconst (v := (0 : Int32)) hx hb dX6_deals_0 (by decide) ?_
  refine lv_istore_n (lv' := [(1, .int (0 : Int32)), (0, .ref (ad t))]) hx hb dX6_deals_1 rfl hl (by decide) rfl (fun ls hl => ?_)
  exact w_X6_deals_2 C0 t hT FU (0 : Int32) M h H locs ls hP hS (lv_sub hl [1, 0] rfl)
theorem c_X6_deals {l : Launch} {D : va_G} {cI : ClassId} {ad : Nat → Nat} {L : List CDs} {t : Nat} (hT : is_X6 L t)  {M M' : Mem} {r : Int32} (h : X6_deals t M = some (r, M')) : me_Met l yX6_deals wsX6_deals rmX6_deals D cI ad L [.ref (ad t)] (some (.int r)) M M' :=
  me_ofW (by decide) rfl (Nat.le_of_ble_eq_true rfl) (fun p e s m below meth c C0 => w_X6_deals C0 t hT M h)
abbrev rmX6_guests : Room := { frames := 3, cells := 0, slots := 0, locals := 68 }
theorem kX6_guests_f13 : (Cond.fieldLink RX6 13 "LadderOfBowsModel" "persons" "[I") ∈ wsX6_guests := List.mem_of_getElem? (i := 1) rfl
theorem in_X6_guests_X6 : ∀ w ∈ wsX60, w ∈ wsX6_guests := by decide +kernel
theorem hd_X6_guests : yX6_guests.cls = RX6 ∧ yX6_guests.cls ≠ "java/lang/invoke/MethodHandle" ∧ yX6_guests.cls ≠ "java/lang/invoke/VarHandle" ∧ (parseMethodDescriptor yX6_guests.desc).map (fun d => d.parameters.length) = some 2 := by decide +kernel
set_option maxRecDepth 100000 in
set_option maxHeartbeats 4000000 in
theorem w_X6_guests_37 {p : Program} {l : Launch} {e : Env} {s : State} {m : MethodId} {args : Array Value} {below : List Frame} {meth : Method} {c : Code} {D : va_G} {cI : ClassId} {ad : Nat → Nat} {L : List CDs} {r : Int32} {M' : Mem} (C0 : me_X p s m args meth c cX6_guests 5 (some .int) wsX6_guests RX6 D cI ad L) (t : Nat) (hT : is_X6 L t) (x1 : Int32) (x2 : Int32) : ∀ (n : Nat) (x3 : Int32) (x4 : Int32) (M : Mem), X6_guests_37 t x1 x2 n x3 x4 M = some (r, M') → me_W p l e rmX6_guests s m args below meth c D cI ad L (some (.int r)) M' 5 37 [(0, .ref (ad t)), (1, .int x1), (2, .int x2), (3, .int x3), (4, .int x4)] [] M := by
  obtain ⟨hx, hb, hr, hml, hown, hts, hlk, hK, hI⟩ := id C0
  intro n
  induction n with
  | zero =>
    intro x3 x4 M h
    rw [X6_guests_37] at h
    cases h
  | succ n ih =>
    intro x3 x4 M h
    rw [X6_guests_37] at h
    intro H locs ls hP hS hl
    refine lv_iload hx hb dX6_guests_37 (lv_at hl 4 rfl) ?_
    refine lv_aload_n hx hb dX6_guests_39 rfl (lv_at hl 0 rfl) ?_
    refine me_getr (ci := 6) (C := RX6) (T := TX6) (N := 22) hx hb hts in_X6_guests_X6 hown hK hP hT.1 rfl 2 (by decide) (hts _ kX6_guests_f13) rfl dX6_guests_40 ?_
    refine lv_iconst (v := (0 : Int32)) hx hb dX6_guests_43 (by decide) ?_
    obtain ⟨hi, h⟩ := s_ald_inv h
    refine me_ald hx hb hK hP hT.2.2.1 hi dX6_guests_44 (fun v44 ev => ?_)
    replace h := h v44 ev
    refine lv_icmp_ge (tgt := 87) hx hb dX6_guests_45 (by decide) (fun q => ?_) (fun q => ?_)
    · rw [if_pos q] at h
      refine lv_iload_n hx hb dX6_guests_87 rfl (lv_at hl 3 rfl) ?_
      exact me_iret hx hb hr hlk hP hS h dX6_guests_88
    · rw [if_neg q] at h
      refine lv_iload_n hx hb dX6_guests_48 rfl (lv_at hl 3 rfl) ?_
      refine lv_aload_n hx hb dX6_guests_49 rfl (lv_at hl 0 rfl) ?_
      refine lv_iconst (v := (0 : Int32)) hx hb dX6_guests_50 (by decide) ?_
      refine lv_iload_n hx hb dX6_guests_51 rfl (lv_at hl 1 rfl) ?_
      refine lv_iload hx hb dX6_guests_52 (lv_at hl 4 rfl) ?_
      obtain ⟨v54, M54, h1, h⟩ := s_call_inv h
      refine me_callVi (As := [.int (0 : Int32), .int x1, .int x4]) (rest := [.int x3]) ⟨hx, hb, hml, hown, hts⟩ (c_X6_maySpeak hT h1) (cwV 3 hts gX6_guests_X6_maySpeak rfl rfl rfl hd_X6_maySpeak ⟨(Nat.le_of_ble_eq_true rfl), (Nat.le_of_ble_eq_true rfl)⟩) hK hI hP hS hT.1 rfl rfl hl.1 rfl (Nat.le_of_ble_eq_true rfl) dX6_guests_54 ⟨Nat.zero_le _, Nat.zero_le _⟩ (fun H locs hP hS => ?_)
      refine lv_if_eq (tgt := 78) hx hb dX6_guests_57 (by decide) (fun q => ?_) (fun q => ?_)
      · rw [if_pos q] at h
        refine lv_iconst (v := (0 : Int32)) hx hb dX6_guests_78 (by decide) ?_
        refine lv_ior hx hb dX6_guests_79 ?_
        refine lv_topi (fun x3_80 ev => ?_)
        replace h := s_let_inv h x3_80 ev
        refine lv_istore_n (lv' := [(3, .int x3_80), (0, .ref (ad t)), (1, .int x1), (2, .int x2), (4, .int x4)]) hx hb dX6_guests_80 rfl hl (by decide) rfl (fun ls hl => ?_)
        refine lv_iinc (k := 4) (v := (x4 + (1 : Int32))) (lv' := [(4, .int (x4 + (1 : Int32))), (3, .int x3_80), (0, .ref (ad t)), (1, .int x1), (2, .int x2)]) hx hb dX6_guests_81 hl rfl rfl (by decide) rfl (fun ls hl => ?_)
        refine lv_goto (tgt := 37) hx hb dX6_guests_84 (by decide) ?_
        exact ih x3_80 (x4 + (1 : Int32)) M54 h H locs ls hP hS (lv_sub hl [2, 3, 4, 1, 0] rfl)
      · rw [if_neg q] at h
        refine lv_aload_n hx hb dX6_guests_60 rfl (lv_at hl 0 rfl) ?_
        refine lv_iconst (v := (0 : Int32)) hx hb dX6_guests_61 (by decide) ?_
        refine lv_iload_n hx hb dX6_guests_62 rfl (lv_at hl 2 rfl) ?_
        refine lv_iload hx hb dX6_guests_63 (lv_at hl 4 rfl) ?_
        obtain ⟨v65, M65, h1, h⟩ := s_call_inv h
        refine me_callVi (As := [.int (0 : Int32), .int x2, .int x4]) (rest := [.int x3]) ⟨hx, hb, hml, hown, hts⟩ (c_X6_maySpeak hT h1) (cwV 3 hts gX6_guests_X6_maySpeak rfl rfl rfl hd_X6_maySpeak ⟨(Nat.le_of_ble_eq_true rfl), (Nat.le_of_ble_eq_true rfl)⟩) hK hI hP hS hT.1 rfl rfl hl.1 rfl (Nat.le_of_ble_eq_true rfl) dX6_guests_65 ⟨Nat.zero_le _, Nat.zero_le _⟩ (fun H locs hP hS => ?_)
        refine lv_if_eq (tgt := 78) hx hb dX6_guests_68 (by decide) (fun q => ?_) (fun q => ?_)
        · rw [if_pos q] at h
          refine lv_iconst (v := (0 : Int32)) hx hb dX6_guests_78 (by decide) ?_
          refine lv_ior hx hb dX6_guests_79 ?_
          refine lv_topi (fun x3_80 ev => ?_)
          replace h := s_let_inv h x3_80 ev
          refine lv_istore_n (lv' := [(3, .int x3_80), (0, .ref (ad t)), (1, .int x1), (2, .int x2), (4, .int x4)]) hx hb dX6_guests_80 rfl hl (by decide) rfl (fun ls hl => ?_)
          refine lv_iinc (k := 4) (v := (x4 + (1 : Int32))) (lv' := [(4, .int (x4 + (1 : Int32))), (3, .int x3_80), (0, .ref (ad t)), (1, .int x1), (2, .int x2)]) hx hb dX6_guests_81 hl rfl rfl (by decide) rfl (fun ls hl => ?_)
          refine lv_goto (tgt := 37) hx hb dX6_guests_84 (by decide) ?_
          exact ih x3_80 (x4 + (1 : Int32)) M65 h H locs ls hP hS (lv_sub hl [2, 3, 4, 1, 0] rfl)
        · rw [if_neg q] at h
          refine lv_iconst (v := (1 : Int32)) hx hb dX6_guests_71 (by decide) ?_
          refine lv_iload hx hb dX6_guests_72 (lv_at hl 4 rfl) ?_
          refine lv_ishl hx hb dX6_guests_74 ?_
          refine lv_goto (tgt := 79) hx hb dX6_guests_75 (by decide) ?_
          refine lv_ior hx hb dX6_guests_79 ?_
          refine lv_topi (fun x3_80 ev => ?_)
          replace h := s_let_inv h x3_80 ev
          refine lv_istore_n (lv' := [(3, .int x3_80), (0, .ref (ad t)), (1, .int x1), (2, .int x2), (4, .int x4)]) hx hb dX6_guests_80 rfl hl (by decide) rfl (fun ls hl => ?_)
          refine lv_iinc (k := 4) (v := (x4 + (1 : Int32))) (lv' := [(4, .int (x4 + (1 : Int32))), (3, .int x3_80), (0, .ref (ad t)), (1, .int x1), (2, .int x2)]) hx hb dX6_guests_81 hl rfl rfl (by decide) rfl (fun ls hl => ?_)
          refine lv_goto (tgt := 37) hx hb dX6_guests_84 (by decide) ?_
          exact ih x3_80 (x4 + (1 : Int32)) M65 h H locs ls hP hS (lv_sub hl [2, 3, 4, 1, 0] rfl)
set_option maxRecDepth 100000 in
set_option maxHeartbeats 4000000 in
theorem w_X6_guests {p : Program} {l : Launch} {e : Env} {s : State} {m : MethodId} {args : Array Value} {below : List Frame} {meth : Method} {c : Code} {D : va_G} {cI : ClassId} {ad : Nat → Nat} {L : List CDs} {r : Int32} {M' : Mem} (C0 : me_X p s m args meth c cX6_guests 5 (some .int) wsX6_guests RX6 D cI ad L) (t : Nat) (hT : is_X6 L t) (x1 : Int32) (x2 : Int32) : ∀  (M : Mem), X6_guests t x1 x2 M = some (r, M') → me_W p l e rmX6_guests s m args below meth c D cI ad L (some (.int r)) M' 5 0 [(0, .ref (ad t)), (1, .int x1), (2, .int x2)] [] M := by
  obtain ⟨hx, hb, hr, hml, hown, hts, hlk, hK, hI⟩ := id C0
  intro M h
  unfold X6_guests at h
  intro H locs ls hP hS hl
  refine lv_aload_n hx hb dX6_guests_0 rfl (lv_at hl 0 rfl) ?_
  refine lv_iload_n hx hb dX6_guests_1 rfl (lv_at hl 1 rfl) ?_
  refine lv_iload_n hx hb dX6_guests_2 rfl (lv_at hl 2 rfl) ?_
  obtain ⟨v3, M3, h1, h⟩ := s_call_inv h
  refine me_callVi (As := [.int x1, .int x2]) (rest := []) ⟨hx, hb, hml, hown, hts⟩ (c_X6_areTwo hT h1) (cwV 2 hts gX6_guests_X6_areTwo rfl rfl rfl hd_X6_areTwo ⟨(Nat.le_of_ble_eq_true rfl), (Nat.le_of_ble_eq_true rfl)⟩) hK hI hP hS hT.1 rfl rfl hl.1 rfl (Nat.le_of_ble_eq_true rfl) dX6_guests_3 ⟨Nat.zero_le _, Nat.zero_le _⟩ (fun H locs hP hS => ?_)
  refine lv_if_ne (tgt := 11) hx hb dX6_guests_6 (by decide) (fun q => ?_) (fun q => ?_)
  · rw [if_pos q] at h
    refine lv_aload_n hx hb dX6_guests_11 rfl (lv_at hl 0 rfl) ?_
    refine lv_iconst (v := (0 : Int32)) hx hb dX6_guests_12 (by decide) ?_
    refine lv_iload_n hx hb dX6_guests_13 rfl (lv_at hl 1 rfl) ?_
    obtain ⟨v14, M14, h1, h⟩ := s_call_inv h
    refine me_callVi (As := [.int (0 : Int32), .int x1]) (rest := []) ⟨hx, hb, hml, hown, hts⟩ (c_X6_isAlive hT h1) (cwV 2 hts gX6_guests_X6_isAlive rfl rfl rfl hd_X6_isAlive ⟨(Nat.le_of_ble_eq_true rfl), (Nat.le_of_ble_eq_true rfl)⟩) hK hI hP hS hT.1 rfl rfl hl.1 rfl (Nat.le_of_ble_eq_true rfl) dX6_guests_14 ⟨Nat.zero_le _, Nat.zero_le _⟩ (fun H locs hP hS => ?_)
    refine lv_if_eq (tgt := 29) hx hb dX6_guests_17 (by decide) (fun q => ?_) (fun q => ?_)
    · rw [if_pos q] at h
      refine lv_bipush (v := (-2 : Int32)) hx hb dX6_guests_29 (by decide) ?_
      exact me_iret hx hb hr hlk hP hS h dX6_guests_31
    · rw [if_neg q] at h
      refine lv_aload_n hx hb dX6_guests_20 rfl (lv_at hl 0 rfl) ?_
      refine lv_iconst (v := (0 : Int32)) hx hb dX6_guests_21 (by decide) ?_
      refine lv_iload_n hx hb dX6_guests_22 rfl (lv_at hl 2 rfl) ?_
      obtain ⟨v23, M23, h1, h⟩ := s_call_inv h
      refine me_callVi (As := [.int (0 : Int32), .int x2]) (rest := []) ⟨hx, hb, hml, hown, hts⟩ (c_X6_isAlive hT h1) (cwV 2 hts gX6_guests_X6_isAlive rfl rfl rfl hd_X6_isAlive ⟨(Nat.le_of_ble_eq_true rfl), (Nat.le_of_ble_eq_true rfl)⟩) hK hI hP hS hT.1 rfl rfl hl.1 rfl (Nat.le_of_ble_eq_true rfl) dX6_guests_23 ⟨Nat.zero_le _, Nat.zero_le _⟩ (fun H locs hP hS => ?_)
      refine lv_if_ne (tgt := 32) hx hb dX6_guests_26 (by decide) (fun q => ?_) (fun q => ?_)
      · rw [if_pos q] at h
        refine lv_iconst (v := (0 : Int32)) hx hb dX6_guests_32 (by decide) ?_
        refine lv_istore_n (lv' := [(3, .int (0 : Int32)), (0, .ref (ad t)), (1, .int x1), (2, .int x2)]) hx hb dX6_guests_33 rfl hl (by decide) rfl (fun ls hl => ?_)
        refine lv_iconst (v := (0 : Int32)) hx hb dX6_guests_34 (by decide) ?_
        refine lv_istore (lv' := [(4, .int (0 : Int32)), (3, .int (0 : Int32)), (0, .ref (ad t)), (1, .int x1), (2, .int x2)]) hx hb dX6_guests_35 hl (by decide) rfl (fun ls hl => ?_)
        exact w_X6_guests_37 C0 t hT x1 x2 FU (0 : Int32) (0 : Int32) M23 h H locs ls hP hS (lv_sub hl [2, 3, 4, 1, 0] rfl)
      · rw [if_neg (not_not_intro q)] at h
        refine lv_bipush (v := (-2 : Int32)) hx hb dX6_guests_29 (by decide) ?_
        exact me_iret hx hb hr hlk hP hS h dX6_guests_31
  · rw [if_neg (not_not_intro q)] at h
    refine lv_iconst (v := (-1 : Int32)) hx hb dX6_guests_9 (by decide) ?_
    exact me_iret hx hb hr hlk hP hS h dX6_guests_10
theorem c_X6_guests {l : Launch} {D : va_G} {cI : ClassId} {ad : Nat → Nat} {L : List CDs} {t : Nat} (hT : is_X6 L t) {x1 : Int32} {x2 : Int32} {M M' : Mem} {r : Int32} (h : X6_guests t x1 x2 M = some (r, M')) : me_Met l yX6_guests wsX6_guests rmX6_guests D cI ad L [.ref (ad t), .int x1, .int x2] (some (.int r)) M M' :=
  me_ofW (by decide) rfl (Nat.le_of_ble_eq_true rfl) (fun p e s m below meth c C0 => w_X6_guests C0 t hT x1 x2 M h)
abbrev rmX6_isFreeBut : Room := { frames := 7, cells := 0, slots := 0, locals := 160 }
theorem kX6_isFreeBut_f46 : (Cond.fieldLink RX6 46 "LadderOfBowsModel" "debts" "[I") ∈ wsX6_isFreeBut := List.mem_of_getElem? (i := 1) rfl
theorem in_X6_isFreeBut_X6 : ∀ w ∈ wsX60, w ∈ wsX6_isFreeBut := by decide +kernel
theorem hd_X6_isFreeBut : yX6_isFreeBut.cls = RX6 ∧ yX6_isFreeBut.cls ≠ "java/lang/invoke/MethodHandle" ∧ yX6_isFreeBut.cls ≠ "java/lang/invoke/VarHandle" ∧ (parseMethodDescriptor yX6_isFreeBut.desc).map (fun d => d.parameters.length) = some 2 := by decide +kernel
set_option maxRecDepth 100000 in
set_option maxHeartbeats 4000000 in
theorem w_X6_isFreeBut {p : Program} {l : Launch} {e : Env} {s : State} {m : MethodId} {args : Array Value} {below : List Frame} {meth : Method} {c : Code} {D : va_G} {cI : ClassId} {ad : Nat → Nat} {L : List CDs} {r : Int32} {M' : Mem} (C0 : me_X p s m args meth c cX6_isFreeBut 3 (some .boolean) wsX6_isFreeBut RX6 D cI ad L) (t : Nat) (hT : is_X6 L t) (x1 : Int32) (x2 : Int32) : ∀  (M : Mem), X6_isFreeBut t x1 x2 M = some (r, M') → me_W p l e rmX6_isFreeBut s m args below meth c D cI ad L (some (.int r)) M' 3 0 [(0, .ref (ad t)), (1, .int x1), (2, .int x2)] [] M := by
  obtain ⟨hx, hb, hr, hml, hown, hts, hlk, hK, hI⟩ := id C0
  intro M h
  unfold X6_isFreeBut at h
  intro H locs ls hP hS hl
  refine lv_aload_n hx hb dX6_isFreeBut_0 rfl (lv_at hl 0 rfl) ?_
  refine lv_iconst (v := (0 : Int32)) hx hb dX6_isFreeBut_1 (by decide) ?_
  refine lv_iconst (v := (1 : Int32)) hx hb dX6_isFreeBut_2 (by decide) ?_
  obtain ⟨u3, M3, h1, h⟩ := s_call_inv h
  refine me_callVv (As := [.int (0 : Int32), .int (1 : Int32)]) (rest := []) ⟨hx, hb, hml, hown, hts⟩ (c_X6_copy hT h1) (cwV 2 hts gX6_isFreeBut_X6_copy rfl rfl rfl hd_X6_copy ⟨(Nat.le_of_ble_eq_true rfl), (Nat.le_of_ble_eq_true rfl)⟩) hK hI hP hS hT.1 rfl rfl hl.1 rfl (Nat.le_of_ble_eq_true rfl) dX6_isFreeBut_3 ⟨Nat.zero_le _, Nat.zero_le _⟩ (fun H locs hP hS => ?_)
  refine lv_aload_n hx hb dX6_isFreeBut_6 rfl (lv_at hl 0 rfl) ?_
  refine me_getr (ci := 6) (C := RX6) (T := TX6) (N := 22) hx hb hts in_X6_isFreeBut_X6 hown hK hP hT.1 rfl 16 (by decide) (hts _ kX6_isFreeBut_f46) rfl dX6_isFreeBut_7 ?_
  refine lv_bipush (v := (64 : Int32)) hx hb dX6_isFreeBut_10 (by decide) ?_
  refine lv_iload_n hx hb dX6_isFreeBut_12 rfl (lv_at hl 1 rfl) ?_
  refine lv_iadd hx hb dX6_isFreeBut_13 ?_
  refine lv_iconst (v := (0 : Int32)) hx hb dX6_isFreeBut_14 (by decide) ?_
  obtain ⟨hi, h⟩ := s_ast_inv h
  refine me_ast hx hb hK hI hP hS hT.2.2.2.2.2.2.2.2.2.2.2.2.2.1 hi dX6_isFreeBut_15 (fun H locs M15 eM hP hS => ?_)
  replace h := h M15 eM
  refine lv_aload_n hx hb dX6_isFreeBut_16 rfl (lv_at hl 0 rfl) ?_
  refine me_getr (ci := 6) (C := RX6) (T := TX6) (N := 22) hx hb hts in_X6_isFreeBut_X6 hown hK hP hT.1 rfl 16 (by decide) (hts _ kX6_isFreeBut_f46) rfl dX6_isFreeBut_17 ?_
  refine lv_bipush (v := (64 : Int32)) hx hb dX6_isFreeBut_20 (by decide) ?_
  refine lv_iload_n hx hb dX6_isFreeBut_22 rfl (lv_at hl 2 rfl) ?_
  refine lv_iadd hx hb dX6_isFreeBut_23 ?_
  refine lv_iconst (v := (0 : Int32)) hx hb dX6_isFreeBut_24 (by decide) ?_
  obtain ⟨hi, h⟩ := s_ast_inv h
  refine me_ast hx hb hK hI hP hS hT.2.2.2.2.2.2.2.2.2.2.2.2.2.1 hi dX6_isFreeBut_25 (fun H locs M25 eM hP hS => ?_)
  replace h := h M25 eM
  refine lv_aload_n hx hb dX6_isFreeBut_26 rfl (lv_at hl 0 rfl) ?_
  refine lv_iconst (v := (1 : Int32)) hx hb dX6_isFreeBut_27 (by decide) ?_
  obtain ⟨v28, M28, h1, h⟩ := s_call_inv h
  refine me_callVi (As := [.int (1 : Int32)]) (rest := []) ⟨hx, hb, hml, hown, hts⟩ (c_X6_owedBehind hT h1) (cwV 1 hts gX6_isFreeBut_X6_owedBehind rfl rfl rfl hd_X6_owedBehind ⟨(Nat.le_of_ble_eq_true rfl), (Nat.le_of_ble_eq_true rfl)⟩) hK hI hP hS hT.1 rfl rfl hl.1 rfl (Nat.le_of_ble_eq_true rfl) dX6_isFreeBut_28 ⟨Nat.zero_le _, Nat.zero_le _⟩ (fun H locs hP hS => ?_)
  refine lv_if_ne (tgt := 38) hx hb dX6_isFreeBut_31 (by decide) (fun q => ?_) (fun q => ?_)
  · rw [if_pos q] at h
    refine lv_iconst (v := (0 : Int32)) hx hb dX6_isFreeBut_38 (by decide) ?_
    exact me_zret hx hb hr hlk hP hS h dX6_isFreeBut_39
  · rw [if_neg (not_not_intro q)] at h
    refine lv_iconst (v := (1 : Int32)) hx hb dX6_isFreeBut_34 (by decide) ?_
    refine lv_goto (tgt := 39) hx hb dX6_isFreeBut_35 (by decide) ?_
    exact me_zret hx hb hr hlk hP hS h dX6_isFreeBut_39
theorem c_X6_isFreeBut {l : Launch} {D : va_G} {cI : ClassId} {ad : Nat → Nat} {L : List CDs} {t : Nat} (hT : is_X6 L t) {x1 : Int32} {x2 : Int32} {M M' : Mem} {r : Int32} (h : X6_isFreeBut t x1 x2 M = some (r, M')) : me_Met l yX6_isFreeBut wsX6_isFreeBut rmX6_isFreeBut D cI ad L [.ref (ad t), .int x1, .int x2] (some (.int r)) M M' :=
  me_ofW (by decide) rfl (Nat.le_of_ble_eq_true rfl) (fun p e s m below meth c C0 => w_X6_isFreeBut C0 t hT x1 x2 M h)
abbrev rmX6_court : Room := { frames := 8, cells := 0, slots := 0, locals := 182 }
theorem kX6_court_c98 : (Cond.constantLong RX6 98 (2)) ∈ wsX6_court := List.mem_of_getElem? (i := 1) rfl
theorem kX6_court_f46 : (Cond.fieldLink RX6 46 "LadderOfBowsModel" "debts" "[I") ∈ wsX6_court := List.mem_of_getElem? (i := 2) rfl
theorem in_X6_court_X6 : ∀ w ∈ wsX60, w ∈ wsX6_court := by decide +kernel
theorem hd_X6_court : yX6_court.cls = RX6 ∧ yX6_court.cls ≠ "java/lang/invoke/MethodHandle" ∧ yX6_court.cls ≠ "java/lang/invoke/VarHandle" ∧ (parseMethodDescriptor yX6_court.desc).map (fun d => d.parameters.length) = some 2 := by decide +kernel
set_option maxRecDepth 100000 in
set_option maxHeartbeats 4000000 in
theorem w_X6_court_169 {p : Program} {l : Launch} {e : Env} {s : State} {m : MethodId} {args : Array Value} {below : List Frame} {meth : Method} {c : Code} {D : va_G} {cI : ClassId} {ad : Nat → Nat} {L : List CDs} {r : Int32} {M' : Mem} (C0 : me_X p s m args meth c cX6_court 8 (some .int) wsX6_court RX6 D cI ad L) (t : Nat) (hT : is_X6 L t) (x2 : Int32) (x3 : Int32) (x4 : Int32) : ∀ (n : Nat) (x5 : Int32) (x6 : Int32) (M : Mem), X6_court_169 t x2 x3 x4 n x5 x6 M = some (r, M') → me_W p l e rmX6_court s m args below meth c D cI ad L (some (.int r)) M' 8 169 [(2, .int x2), (3, .int x3), (4, .int x4), (5, .int x5), (6, .int x6)] [] M := by
  obtain ⟨hx, hb, hr, hml, hown, hts, hlk, hK, hI⟩ := id C0
  intro n
  induction n with
  | zero =>
    intro x5 x6 M h
    rw [X6_court_169] at h
    cases h
  | succ n ih =>
    intro x5 x6 M h
    rw [X6_court_169] at h
    intro H locs ls hP hS hl
    refine lv_iload hx hb dX6_court_169 (lv_at hl 4 rfl) ?_
    refine lv_if_eq (tgt := 192) hx hb dX6_court_171 (by decide) (fun q => ?_) (fun q => ?_)
    · rw [if_pos q] at h
      refine lv_iload_n hx hb dX6_court_192 rfl (lv_at hl 0 rfl) ?_
      refine lv_if_ne (tgt := 204) hx hb dX6_court_193 (by decide) (fun q => ?_) (fun q => ?_)
      · rw [if_pos q] at h
        refine lv_iload_n hx hb dX6_court_204 rfl (lv_at hl 1 rfl) ?_
        refine lv_iload hx hb dX6_court_205 (lv_at hl 3 rfl) ?_
        obtain ⟨hi, h⟩ := s_div_inv h
        refine lv_idiv hx hb dX6_court_207 hi ?_
        refine lv_topi (fun v207 ev => ?_)
        replace h := h v207 ev
        exact me_iret hx hb hr hlk hP hS h dX6_court_208
      · rw [if_neg (not_not_intro q)] at h
        refine lv_iload hx hb dX6_court_196 (lv_at hl 2 rfl) ?_
        refine lv_iload hx hb dX6_court_198 (lv_at hl 3 rfl) ?_
        obtain ⟨hi, h⟩ := s_div_inv h
        refine lv_idiv hx hb dX6_court_200 hi ?_
        refine lv_topi (fun v200 ev => ?_)
        replace h := h v200 ev
        refine lv_goto (tgt := 208) hx hb dX6_court_201 (by decide) ?_
        exact me_iret hx hb hr hlk hP hS h dX6_court_208
    · rw [if_neg q] at h
      refine lv_iload hx hb dX6_court_174 (lv_at hl 3 rfl) ?_
      refine lv_iload hx hb dX6_court_176 (lv_at hl 4 rfl) ?_
      obtain ⟨hi, h⟩ := s_rem_inv h
      refine lv_irem hx hb dX6_court_178 hi ?_
      refine lv_topi (fun v178 ev => ?_)
      replace h := h v178 ev
      refine lv_istore (lv' := [(7, .int v178), (2, .int x2), (3, .int x3), (4, .int x4), (5, .int x5), (6, .int x6)]) hx hb dX6_court_179 hl (by decide) rfl (fun ls hl => ?_)
      refine lv_iload hx hb dX6_court_181 (lv_at hl 5 rfl) ?_
      refine lv_istore (lv' := [(5, .int x6), (7, .int v178), (2, .int x2), (3, .int x3), (4, .int x4), (6, .int x6)]) hx hb dX6_court_183 hl (by decide) rfl (fun ls hl => ?_)
      refine lv_iload hx hb dX6_court_185 (lv_at hl 1 rfl) ?_
      refine lv_istore (lv' := [(6, .int v178), (5, .int x6), (7, .int v178), (2, .int x2), (3, .int x3), (4, .int x4)]) hx hb dX6_court_187 hl (by decide) rfl (fun ls hl => ?_)
      refine lv_goto (tgt := 169) hx hb dX6_court_189 (by decide) ?_
      exact ih x6 v178 M h H locs ls hP hS (lv_sub hl [3, 4, 5, 1, 0] rfl)
set_option maxRecDepth 100000 in
set_option maxHeartbeats 4000000 in
theorem w_X6_court_96 {p : Program} {l : Launch} {e : Env} {s : State} {m : MethodId} {args : Array Value} {below : List Frame} {meth : Method} {c : Code} {D : va_G} {cI : ClassId} {ad : Nat → Nat} {L : List CDs} {r : Int32} {M' : Mem} (C0 : me_X p s m args meth c cX6_court 8 (some .int) wsX6_court RX6 D cI ad L) (t : Nat) (hT : is_X6 L t) (x1 : Int32) (x2 : Int32) (x3 : Int32) (x4 : Int32) (x5 : Int32) (x6 : Int32) (k53 : Int32 → Int32 → Int32 → Mem → Option (Int32 × Mem)) (hk53 : ∀ (x3 : Int32) (x4 : Int32) (x5 : Int32) (M : Mem), k53 x3 x4 x5 M = some (r, M') → me_W p l e rmX6_court s m args below meth c D cI ad L (some (.int r)) M' 8 53 [(0, .ref (ad t)), (1, .int x1), (2, .int x2), (3, .int x3), (4, .int x4), (5, .int x5)] [] M) (k80 : Int32 → Int32 → Int32 → Mem → Option (Int32 × Mem)) (hk80 : ∀ (x3 : Int32) (x4 : Int32) (x6 : Int32) (M : Mem), k80 x3 x4 x6 M = some (r, M') → me_W p l e rmX6_court s m args below meth c D cI ad L (some (.int r)) M' 8 80 [(0, .ref (ad t)), (1, .int x1), (2, .int x2), (3, .int x3), (4, .int x4), (5, .int x5), (6, .int x6)] [] M) : ∀ (y0 : Int32) (y1 : Int32) (M : Mem), X6_court_96 t x1 x2 x3 x4 x5 x6 k53 k80 y0 y1 M = some (r, M') → me_W p l e rmX6_court s m args below meth c D cI ad L (some (.int r)) M' 8 96 [(0, .ref (ad t)), (1, .int x1), (2, .int x2), (3, .int x3), (4, .int x4), (5, .int x5), (6, .int x6)] [.int y0, .int y1] M := by
  obtain ⟨hx, hb, hr, hml, hown, hts, hlk, hK, hI⟩ := id C0
  intro y0 y1 M h
  unfold X6_court_96 at h
  intro H locs ls hP hS hl
  refine lv_icmp_ge (tgt := 149) hx hb dX6_court_96 (by decide) (fun q => ?_) (fun q => ?_)
  · rw [if_pos q] at h
    refine lv_iinc (k := 5) (v := (x5 + (1 : Int32))) (lv' := [(5, .int (x5 + (1 : Int32))), (0, .ref (ad t)), (1, .int x1), (2, .int x2), (3, .int x3), (4, .int x4), (6, .int x6)]) hx hb dX6_court_149 hl rfl rfl (by decide) rfl (fun ls hl => ?_)
    refine lv_goto (tgt := 53) hx hb dX6_court_152 (by decide) ?_
    exact hk53 x3 x4 (x5 + (1 : Int32)) M h H locs ls hP hS (lv_sub hl [1, 2, 3, 4, 5, 0] rfl)
  · rw [if_neg q] at h
    refine lv_aload_n hx hb dX6_court_99 rfl (lv_at hl 0 rfl) ?_
    refine me_getr (ci := 6) (C := RX6) (T := TX6) (N := 22) hx hb hts in_X6_court_X6 hown hK hP hT.1 rfl 16 (by decide) (hts _ kX6_court_f46) rfl dX6_court_100 ?_
    refine lv_iload hx hb dX6_court_103 (lv_at hl 5 rfl) ?_
    obtain ⟨hi, h⟩ := s_ald_inv h
    refine me_ald hx hb hK hP hT.2.2.2.2.2.2.2.2.2.2.2.2.2.1 hi dX6_court_105 (fun v105 ev => ?_)
    replace h := h v105 ev
    refine lv_if_le (tgt := 143) hx hb dX6_court_106 (by decide) (fun q => ?_) (fun q => ?_)
    · rw [if_pos q] at h
      refine lv_iinc (k := 6) (v := (x6 + (1 : Int32))) (lv' := [(6, .int (x6 + (1 : Int32))), (0, .ref (ad t)), (1, .int x1), (2, .int x2), (3, .int x3), (4, .int x4), (5, .int x5)]) hx hb dX6_court_143 hl rfl rfl (by decide) rfl (fun ls hl => ?_)
      refine lv_goto (tgt := 80) hx hb dX6_court_146 (by decide) ?_
      exact hk80 x3 x4 (x6 + (1 : Int32)) M h H locs ls hP hS (lv_sub hl [1, 2, 3, 4, 5, 6, 0] rfl)
    · rw [if_neg q] at h
      refine lv_aload_n hx hb dX6_court_109 rfl (lv_at hl 0 rfl) ?_
      refine me_getr (ci := 6) (C := RX6) (T := TX6) (N := 22) hx hb hts in_X6_court_X6 hown hK hP hT.1 rfl 16 (by decide) (hts _ kX6_court_f46) rfl dX6_court_110 ?_
      refine lv_iload hx hb dX6_court_113 (lv_at hl 6 rfl) ?_
      obtain ⟨hi, h⟩ := s_ald_inv h
      refine me_ald hx hb hK hP hT.2.2.2.2.2.2.2.2.2.2.2.2.2.1 hi dX6_court_115 (fun v115 ev => ?_)
      replace h := h v115 ev
      refine lv_if_le (tgt := 143) hx hb dX6_court_116 (by decide) (fun q => ?_) (fun q => ?_)
      · rw [if_pos q] at h
        refine lv_iinc (k := 6) (v := (x6 + (1 : Int32))) (lv' := [(6, .int (x6 + (1 : Int32))), (0, .ref (ad t)), (1, .int x1), (2, .int x2), (3, .int x3), (4, .int x4), (5, .int x5)]) hx hb dX6_court_143 hl rfl rfl (by decide) rfl (fun ls hl => ?_)
        refine lv_goto (tgt := 80) hx hb dX6_court_146 (by decide) ?_
        exact hk80 x3 x4 (x6 + (1 : Int32)) M h H locs ls hP hS (lv_sub hl [1, 2, 3, 4, 5, 6, 0] rfl)
      · rw [if_neg q] at h
        refine lv_iinc (k := 3) (v := (x3 + (1 : Int32))) (lv' := [(3, .int (x3 + (1 : Int32))), (0, .ref (ad t)), (1, .int x1), (2, .int x2), (4, .int x4), (5, .int x5), (6, .int x6)]) hx hb dX6_court_119 hl rfl rfl (by decide) rfl (fun ls hl => ?_)
        refine lv_iload hx hb dX6_court_122 (lv_at hl 4 rfl) ?_
        refine lv_aload_n hx hb dX6_court_124 rfl (lv_at hl 1 rfl) ?_
        refine lv_iload hx hb dX6_court_125 (lv_at hl 5 rfl) ?_
        refine lv_iload hx hb dX6_court_127 (lv_at hl 6 rfl) ?_
        obtain ⟨v129, M129, h1, h⟩ := s_call_inv h
        refine me_callVi (As := [.int x5, .int x6]) (rest := [.int x4]) ⟨hx, hb, hml, hown, hts⟩ (c_X6_isFreeBut hT h1) (cwV 2 hts gX6_court_X6_isFreeBut rfl rfl rfl hd_X6_isFreeBut ⟨(Nat.le_of_ble_eq_true rfl), (Nat.le_of_ble_eq_true rfl)⟩) hK hI hP hS hT.1 rfl rfl hl.1 rfl (Nat.le_of_ble_eq_true rfl) dX6_court_129 ⟨Nat.zero_le _, Nat.zero_le _⟩ (fun H locs hP hS => ?_)
        refine lv_if_eq (tgt := 139) hx hb dX6_court_132 (by decide) (fun q => ?_) (fun q => ?_)
        · rw [if_pos q] at h
          refine lv_iconst (v := (0 : Int32)) hx hb dX6_court_139 (by decide) ?_
          refine lv_iadd hx hb dX6_court_140 ?_
          refine lv_topi (fun x4_141 ev => ?_)
          replace h := s_let_inv h x4_141 ev
          refine lv_istore (lv' := [(4, .int x4_141), (3, .int (x3 + (1 : Int32))), (0, .ref (ad t)), (1, .int x1), (2, .int x2), (5, .int x5), (6, .int x6)]) hx hb dX6_court_141 hl (by decide) rfl (fun ls hl => ?_)
          refine lv_iinc (k := 6) (v := (x6 + (1 : Int32))) (lv' := [(6, .int (x6 + (1 : Int32))), (4, .int x4_141), (3, .int (x3 + (1 : Int32))), (0, .ref (ad t)), (1, .int x1), (2, .int x2), (5, .int x5)]) hx hb dX6_court_143 hl rfl rfl (by decide) rfl (fun ls hl => ?_)
          refine lv_goto (tgt := 80) hx hb dX6_court_146 (by decide) ?_
          exact hk80 (x3 + (1 : Int32)) x4_141 (x6 + (1 : Int32)) M129 h H locs ls hP hS (lv_sub hl [3, 4, 5, 2, 1, 6, 0] rfl)
        · rw [if_neg q] at h
          refine lv_iconst (v := (1 : Int32)) hx hb dX6_court_135 (by decide) ?_
          refine lv_goto (tgt := 140) hx hb dX6_court_136 (by decide) ?_
          refine lv_iadd hx hb dX6_court_140 ?_
          refine lv_topi (fun x4_141 ev => ?_)
          replace h := s_let_inv h x4_141 ev
          refine lv_istore (lv' := [(4, .int x4_141), (3, .int (x3 + (1 : Int32))), (0, .ref (ad t)), (1, .int x1), (2, .int x2), (5, .int x5), (6, .int x6)]) hx hb dX6_court_141 hl (by decide) rfl (fun ls hl => ?_)
          refine lv_iinc (k := 6) (v := (x6 + (1 : Int32))) (lv' := [(6, .int (x6 + (1 : Int32))), (4, .int x4_141), (3, .int (x3 + (1 : Int32))), (0, .ref (ad t)), (1, .int x1), (2, .int x2), (5, .int x5)]) hx hb dX6_court_143 hl rfl rfl (by decide) rfl (fun ls hl => ?_)
          refine lv_goto (tgt := 80) hx hb dX6_court_146 (by decide) ?_
          exact hk80 (x3 + (1 : Int32)) x4_141 (x6 + (1 : Int32)) M129 h H locs ls hP hS (lv_sub hl [3, 4, 5, 2, 1, 6, 0] rfl)
set_option maxRecDepth 100000 in
set_option maxHeartbeats 4000000 in
theorem w_X6_court_80 {p : Program} {l : Launch} {e : Env} {s : State} {m : MethodId} {args : Array Value} {below : List Frame} {meth : Method} {c : Code} {D : va_G} {cI : ClassId} {ad : Nat → Nat} {L : List CDs} {r : Int32} {M' : Mem} (C0 : me_X p s m args meth c cX6_court 8 (some .int) wsX6_court RX6 D cI ad L) (t : Nat) (hT : is_X6 L t) (x1 : Int32) (x2 : Int32) (x5 : Int32) (k53 : Int32 → Int32 → Int32 → Mem → Option (Int32 × Mem)) (hk53 : ∀ (x3 : Int32) (x4 : Int32) (x5 : Int32) (M : Mem), k53 x3 x4 x5 M = some (r, M') → me_W p l e rmX6_court s m args below meth c D cI ad L (some (.int r)) M' 8 53 [(0, .ref (ad t)), (1, .int x1), (2, .int x2), (3, .int x3), (4, .int x4), (5, .int x5)] [] M) : ∀ (n : Nat) (x3 : Int32) (x4 : Int32) (x6 : Int32) (M : Mem), X6_court_80 t x1 x2 x5 k53 n x3 x4 x6 M = some (r, M') → me_W p l e rmX6_court s m args below meth c D cI ad L (some (.int r)) M' 8 80 [(0, .ref (ad t)), (1, .int x1), (2, .int x2), (3, .int x3), (4, .int x4), (5, .int x5), (6, .int x6)] [] M := by
  obtain ⟨hx, hb, hr, hml, hown, hts, hlk, hK, hI⟩ := id C0
  intro n
  induction n with
  | zero =>
    intro x3 x4 x6 M h
    rw [X6_court_80] at h
    cases h
  | succ n ih =>
    intro x3 x4 x6 M h
    rw [X6_court_80] at h
    intro H locs ls hP hS hl
    refine lv_iload hx hb dX6_court_80 (lv_at hl 6 rfl) ?_
    refine lv_iload_n hx hb dX6_court_82 rfl (lv_at hl 1 rfl) ?_
    refine lv_iconst (v := (1 : Int32)) hx hb dX6_court_83 (by decide) ?_
    refine lv_icmp_ne (tgt := 94) hx hb dX6_court_84 (by decide) (fun q => ?_) (fun q => ?_)
    · rw [if_pos q] at h
      refine lv_bipush (v := (64 : Int32)) hx hb dX6_court_94 (by decide) ?_
      exact w_X6_court_96 C0 t hT x1 x2 x3 x4 x5 x6 k53 hk53 (X6_court_80 t x1 x2 x5 k53 n) (fun x3 x4 x6 M h => ih x3 x4 x6 M h) (64 : Int32) x6 M h H locs ls hP hS (lv_sub hl [0, 1, 2, 3, 4, 5, 6] rfl)
    · rw [if_neg (not_not_intro q)] at h
      refine lv_iload hx hb dX6_court_87 (lv_at hl 5 rfl) ?_
      refine lv_iconst (v := (1 : Int32)) hx hb dX6_court_89 (by decide) ?_
      refine lv_iadd hx hb dX6_court_90 ?_
      refine lv_goto (tgt := 96) hx hb dX6_court_91 (by decide) ?_
      exact w_X6_court_96 C0 t hT x1 x2 x3 x4 x5 x6 k53 hk53 (X6_court_80 t x1 x2 x5 k53 n) (fun x3 x4 x6 M h => ih x3 x4 x6 M h) (x5 + (1 : Int32)) x6 M h H locs ls hP hS (lv_sub hl [0, 1, 2, 3, 4, 5, 6] rfl)
set_option maxRecDepth 100000 in
set_option maxHeartbeats 4000000 in
theorem w_X6_court_53 {p : Program} {l : Launch} {e : Env} {s : State} {m : MethodId} {args : Array Value} {below : List Frame} {meth : Method} {c : Code} {D : va_G} {cI : ClassId} {ad : Nat → Nat} {L : List CDs} {r : Int32} {M' : Mem} (C0 : me_X p s m args meth c cX6_court 8 (some .int) wsX6_court RX6 D cI ad L) (t : Nat) (hT : is_X6 L t) (x1 : Int32) (x2 : Int32) : ∀ (n : Nat) (x3 : Int32) (x4 : Int32) (x5 : Int32) (M : Mem), X6_court_53 t x1 x2 n x3 x4 x5 M = some (r, M') → me_W p l e rmX6_court s m args below meth c D cI ad L (some (.int r)) M' 8 53 [(0, .ref (ad t)), (1, .int x1), (2, .int x2), (3, .int x3), (4, .int x4), (5, .int x5)] [] M := by
  obtain ⟨hx, hb, hr, hml, hown, hts, hlk, hK, hI⟩ := id C0
  intro n
  induction n with
  | zero =>
    intro x3 x4 x5 M h
    rw [X6_court_53] at h
    cases h
  | succ n ih =>
    intro x3 x4 x5 M h
    rw [X6_court_53] at h
    intro H locs ls hP hS hl
    refine lv_iload hx hb dX6_court_53 (lv_at hl 5 rfl) ?_
    refine lv_bipush (v := (64 : Int32)) hx hb dX6_court_55 (by decide) ?_
    refine lv_icmp_ge (tgt := 155) hx hb dX6_court_57 (by decide) (fun q => ?_) (fun q => ?_)
    · rw [if_pos q] at h
      refine lv_iload_n hx hb dX6_court_155 rfl (lv_at hl 3 rfl) ?_
      refine lv_if_ne (tgt := 162) hx hb dX6_court_156 (by decide) (fun q => ?_) (fun q => ?_)
      · rw [if_pos q] at h
        refine lv_iload hx hb dX6_court_162 (lv_at hl 4 rfl) ?_
        refine lv_istore (lv' := [(5, .int x4), (0, .ref (ad t)), (1, .int x1), (2, .int x2), (3, .int x3), (4, .int x4)]) hx hb dX6_court_164 hl (by decide) rfl (fun ls hl => ?_)
        refine lv_iload_n hx hb dX6_court_166 rfl (lv_at hl 4 rfl) ?_
        refine lv_istore (lv' := [(6, .int x3), (5, .int x4), (0, .ref (ad t)), (1, .int x1), (2, .int x2), (3, .int x3), (4, .int x4)]) hx hb dX6_court_167 hl (by decide) rfl (fun ls hl => ?_)
        exact w_X6_court_169 C0 t hT x2 x3 x4 FU x4 x3 M h H locs ls hP hS (lv_sub hl [4, 5, 6, 1, 0] rfl)
      · rw [if_neg (not_not_intro q)] at h
        refine lv_bipush (v := (-4 : Int32)) hx hb dX6_court_159 (by decide) ?_
        exact me_iret hx hb hr hlk hP hS h dX6_court_161
    · rw [if_neg q] at h
      refine lv_iload_n hx hb dX6_court_60 rfl (lv_at hl 1 rfl) ?_
      refine lv_if_le (tgt := 155) hx hb dX6_court_61 (by decide) (fun q => ?_) (fun q => ?_)
      · rw [if_pos q] at h
        refine lv_iload_n hx hb dX6_court_155 rfl (lv_at hl 3 rfl) ?_
        refine lv_if_ne (tgt := 162) hx hb dX6_court_156 (by decide) (fun q => ?_) (fun q => ?_)
        · rw [if_pos q] at h
          refine lv_iload hx hb dX6_court_162 (lv_at hl 4 rfl) ?_
          refine lv_istore (lv' := [(5, .int x4), (0, .ref (ad t)), (1, .int x1), (2, .int x2), (3, .int x3), (4, .int x4)]) hx hb dX6_court_164 hl (by decide) rfl (fun ls hl => ?_)
          refine lv_iload_n hx hb dX6_court_166 rfl (lv_at hl 4 rfl) ?_
          refine lv_istore (lv' := [(6, .int x3), (5, .int x4), (0, .ref (ad t)), (1, .int x1), (2, .int x2), (3, .int x3), (4, .int x4)]) hx hb dX6_court_167 hl (by decide) rfl (fun ls hl => ?_)
          exact w_X6_court_169 C0 t hT x2 x3 x4 FU x4 x3 M h H locs ls hP hS (lv_sub hl [4, 5, 6, 1, 0] rfl)
        · rw [if_neg (not_not_intro q)] at h
          refine lv_bipush (v := (-4 : Int32)) hx hb dX6_court_159 (by decide) ?_
          exact me_iret hx hb hr hlk hP hS h dX6_court_161
      · rw [if_neg q] at h
        refine lv_iload_n hx hb dX6_court_64 rfl (lv_at hl 1 rfl) ?_
        refine lv_iconst (v := (1 : Int32)) hx hb dX6_court_65 (by decide) ?_
        refine lv_icmp_ne (tgt := 74) hx hb dX6_court_66 (by decide) (fun q => ?_) (fun q => ?_)
        · rw [if_pos q] at h
          refine lv_iload hx hb dX6_court_74 (lv_at hl 5 rfl) ?_
          refine lv_iconst (v := (1 : Int32)) hx hb dX6_court_76 (by decide) ?_
          refine lv_iadd hx hb dX6_court_77 ?_
          refine lv_topi (fun x6_78 ev => ?_)
          replace h := s_let_inv h x6_78 ev
          refine lv_istore (lv' := [(6, .int x6_78), (0, .ref (ad t)), (1, .int x1), (2, .int x2), (3, .int x3), (4, .int x4), (5, .int x5)]) hx hb dX6_court_78 hl (by decide) rfl (fun ls hl => ?_)
          exact w_X6_court_80 C0 t hT x1 x2 x5 (X6_court_53 t x1 x2 n) (fun x3 x4 x5 M h => ih x3 x4 x5 M h) FU x3 x4 x6_78 M h H locs ls hP hS (lv_sub hl [1, 2, 3, 4, 5, 6, 0] rfl)
        · rw [if_neg (not_not_intro q)] at h
          refine lv_iload hx hb dX6_court_69 (lv_at hl 5 rfl) ?_
          refine lv_goto (tgt := 78) hx hb dX6_court_71 (by decide) ?_
          refine lv_istore (lv' := [(6, .int x5), (0, .ref (ad t)), (1, .int x1), (2, .int x2), (3, .int x3), (4, .int x4), (5, .int x5)]) hx hb dX6_court_78 hl (by decide) rfl (fun ls hl => ?_)
          exact w_X6_court_80 C0 t hT x1 x2 x5 (X6_court_53 t x1 x2 n) (fun x3 x4 x5 M h => ih x3 x4 x5 M h) FU x3 x4 x5 M h H locs ls hP hS (lv_sub hl [1, 2, 3, 4, 5, 6, 0] rfl)
set_option maxRecDepth 100000 in
set_option maxHeartbeats 4000000 in
theorem w_X6_court {p : Program} {l : Launch} {e : Env} {s : State} {m : MethodId} {args : Array Value} {below : List Frame} {meth : Method} {c : Code} {D : va_G} {cI : ClassId} {ad : Nat → Nat} {L : List CDs} {r : Int32} {M' : Mem} (C0 : me_X p s m args meth c cX6_court 8 (some .int) wsX6_court RX6 D cI ad L) (t : Nat) (hT : is_X6 L t) (x1 : Int32) (x2 : Int32) : ∀  (M : Mem), X6_court t x1 x2 M = some (r, M') → me_W p l e rmX6_court s m args below meth c D cI ad L (some (.int r)) M' 8 0 [(0, .ref (ad t)), (1, .int x1), (2, .int x2)] [] M := by
  obtain ⟨hx, hb, hr, hml, hown, hts, hlk, hK, hI⟩ := id C0
  intro M h
  unfold X6_court at h
  intro H locs ls hP hS hl
  refine lv_iload_n hx hb dX6_court_0 rfl (lv_at hl 1 rfl) ?_
  refine lv_i2l (v := (x1).toInt64) hx hb dX6_court_1 rfl ?_
  refine lv_lconst (v := (0 : Int64)) hx hb dX6_court_2 (by decide) ?_
  refine lv_ldc2 (v := (2 : Int64)) hx hb hown (hts _ kX6_court_c98) dX6_court_3 ?_
  obtain ⟨v6, M6, h1, h⟩ := s_call_inv h
  refine me_callSi (As := [.long ((x1).toInt64), .long (0 : Int64), .long (2 : Int64)]) (rest := []) ⟨hx, hb, hml, hown, hts⟩ (c_X6_in h1) (va_cwS 3 hts gX6_court_X6_in rfl rfl rfl hd_X6_in.2 ⟨(Nat.le_of_ble_eq_true rfl), (Nat.le_of_ble_eq_true rfl)⟩) hK hI hP hS rfl hl.1 rfl (Nat.le_of_ble_eq_true rfl) dX6_court_6 ⟨Nat.zero_le _, Nat.zero_le _⟩ (fun H locs hP hS => ?_)
  refine lv_if_eq (tgt := 22) hx hb dX6_court_9 (by decide) (fun q => ?_) (fun q => ?_)
  · rw [if_pos q] at h
    refine lv_iconst (v := (-1 : Int32)) hx hb dX6_court_22 (by decide) ?_
    exact me_iret hx hb hr hlk hP hS h dX6_court_23
  · rw [if_neg q] at h
    refine lv_iload_n hx hb dX6_court_12 rfl (lv_at hl 2 rfl) ?_
    refine lv_i2l (v := (x2).toInt64) hx hb dX6_court_13 rfl ?_
    refine lv_lconst (v := (0 : Int64)) hx hb dX6_court_14 (by decide) ?_
    refine lv_lconst (v := (1 : Int64)) hx hb dX6_court_15 (by decide) ?_
    obtain ⟨v16, M16, h1, h⟩ := s_call_inv h
    refine me_callSi (As := [.long ((x2).toInt64), .long (0 : Int64), .long (1 : Int64)]) (rest := []) ⟨hx, hb, hml, hown, hts⟩ (c_X6_in h1) (va_cwS 3 hts gX6_court_X6_in rfl rfl rfl hd_X6_in.2 ⟨(Nat.le_of_ble_eq_true rfl), (Nat.le_of_ble_eq_true rfl)⟩) hK hI hP hS rfl hl.1 rfl (Nat.le_of_ble_eq_true rfl) dX6_court_16 ⟨Nat.zero_le _, Nat.zero_le _⟩ (fun H locs hP hS => ?_)
    refine lv_if_ne (tgt := 24) hx hb dX6_court_19 (by decide) (fun q => ?_) (fun q => ?_)
    · rw [if_pos q] at h
      refine lv_iconst (v := (0 : Int32)) hx hb dX6_court_24 (by decide) ?_
      refine lv_istore_n (lv' := [(3, .int (0 : Int32)), (0, .ref (ad t)), (1, .int x1), (2, .int x2)]) hx hb dX6_court_25 rfl hl (by decide) rfl (fun ls hl => ?_)
      refine lv_iconst (v := (0 : Int32)) hx hb dX6_court_26 (by decide) ?_
      refine lv_istore (lv' := [(4, .int (0 : Int32)), (3, .int (0 : Int32)), (0, .ref (ad t)), (1, .int x1), (2, .int x2)]) hx hb dX6_court_27 hl (by decide) rfl (fun ls hl => ?_)
      refine lv_iload_n hx hb dX6_court_29 rfl (lv_at hl 3 rfl) ?_
      refine lv_if_ne (tgt := 50) hx hb dX6_court_30 (by decide) (fun q => ?_) (fun q => ?_)
      · rw [if_pos q] at h
        refine lv_iconst (v := (0 : Int32)) hx hb dX6_court_50 (by decide) ?_
        refine lv_istore (lv' := [(5, .int (0 : Int32)), (4, .int (0 : Int32)), (3, .int (0 : Int32)), (0, .ref (ad t)), (1, .int x1), (2, .int x2)]) hx hb dX6_court_51 hl (by decide) rfl (fun ls hl => ?_)
        exact w_X6_court_53 C0 t hT x1 x2 FU (0 : Int32) (0 : Int32) (0 : Int32) M16 h H locs ls hP hS (lv_sub hl [3, 4, 5, 2, 1, 0] rfl)
      · rw [if_neg (not_not_intro q)] at h
        refine lv_iconst (v := (1 : Int32)) hx hb dX6_court_33 (by decide) ?_
        refine lv_istore_n (lv' := [(3, .int (1 : Int32)), (4, .int (0 : Int32)), (0, .ref (ad t)), (1, .int x1), (2, .int x2)]) hx hb dX6_court_34 rfl hl (by decide) rfl (fun ls hl => ?_)
        refine lv_aload_n hx hb dX6_court_35 rfl (lv_at hl 2 rfl) ?_
        refine lv_iconst (v := (0 : Int32)) hx hb dX6_court_36 (by decide) ?_
        obtain ⟨v37, M37, h1, h⟩ := s_call_inv h
        refine me_callVi (As := [.int (0 : Int32)]) (rest := []) ⟨hx, hb, hml, hown, hts⟩ (c_X6_owedBehind hT h1) (cwV 1 hts gX6_court_X6_owedBehind rfl rfl rfl hd_X6_owedBehind ⟨(Nat.le_of_ble_eq_true rfl), (Nat.le_of_ble_eq_true rfl)⟩) hK hI hP hS hT.1 rfl rfl hl.1 rfl (Nat.le_of_ble_eq_true rfl) dX6_court_37 ⟨Nat.zero_le _, Nat.zero_le _⟩ (fun H locs hP hS => ?_)
        refine lv_if_ne (tgt := 47) hx hb dX6_court_40 (by decide) (fun q => ?_) (fun q => ?_)
        · rw [if_pos q] at h
          refine lv_iconst (v := (0 : Int32)) hx hb dX6_court_47 (by decide) ?_
          refine lv_istore (lv' := [(4, .int (0 : Int32)), (3, .int (1 : Int32)), (0, .ref (ad t)), (1, .int x1), (2, .int x2)]) hx hb dX6_court_48 hl (by decide) rfl (fun ls hl => ?_)
          refine lv_iconst (v := (0 : Int32)) hx hb dX6_court_50 (by decide) ?_
          refine lv_istore (lv' := [(5, .int (0 : Int32)), (4, .int (0 : Int32)), (3, .int (1 : Int32)), (0, .ref (ad t)), (1, .int x1), (2, .int x2)]) hx hb dX6_court_51 hl (by decide) rfl (fun ls hl => ?_)
          exact w_X6_court_53 C0 t hT x1 x2 FU (1 : Int32) (0 : Int32) (0 : Int32) M37 h H locs ls hP hS (lv_sub hl [3, 4, 5, 2, 1, 0] rfl)
        · rw [if_neg (not_not_intro q)] at h
          refine lv_iconst (v := (1 : Int32)) hx hb dX6_court_43 (by decide) ?_
          refine lv_goto (tgt := 48) hx hb dX6_court_44 (by decide) ?_
          refine lv_istore (lv' := [(4, .int (1 : Int32)), (3, .int (1 : Int32)), (0, .ref (ad t)), (1, .int x1), (2, .int x2)]) hx hb dX6_court_48 hl (by decide) rfl (fun ls hl => ?_)
          refine lv_iconst (v := (0 : Int32)) hx hb dX6_court_50 (by decide) ?_
          refine lv_istore (lv' := [(5, .int (0 : Int32)), (4, .int (1 : Int32)), (3, .int (1 : Int32)), (0, .ref (ad t)), (1, .int x1), (2, .int x2)]) hx hb dX6_court_51 hl (by decide) rfl (fun ls hl => ?_)
          exact w_X6_court_53 C0 t hT x1 x2 FU (1 : Int32) (1 : Int32) (0 : Int32) M37 h H locs ls hP hS (lv_sub hl [3, 4, 5, 2, 1, 0] rfl)
    · rw [if_neg (not_not_intro q)] at h
      refine lv_iconst (v := (-1 : Int32)) hx hb dX6_court_22 (by decide) ?_
      exact me_iret hx hb hr hlk hP hS h dX6_court_23
theorem c_X6_court {l : Launch} {D : va_G} {cI : ClassId} {ad : Nat → Nat} {L : List CDs} {t : Nat} (hT : is_X6 L t) {x1 : Int32} {x2 : Int32} {M M' : Mem} {r : Int32} (h : X6_court t x1 x2 M = some (r, M')) : me_Met l yX6_court wsX6_court rmX6_court D cI ad L [.ref (ad t), .int x1, .int x2] (some (.int r)) M M' :=
  me_ofW (by decide) rfl (Nat.le_of_ble_eq_true rfl) (fun p e s m below meth c C0 => w_X6_court C0 t hT x1 x2 M h)
abbrev rmX6_stranger : Room := { frames := 6, cells := 0, slots := 0, locals := 139 }
theorem kX6_stranger_f13 : (Cond.fieldLink RX6 13 "LadderOfBowsModel" "persons" "[I") ∈ wsX6_stranger := List.mem_of_getElem? (i := 1) rfl
theorem kX6_stranger_f16 : (Cond.fieldLink RX6 16 "LadderOfBowsModel" "kinds" "[I") ∈ wsX6_stranger := List.mem_of_getElem? (i := 2) rfl
theorem kX6_stranger_f49 : (Cond.fieldLink RX6 49 "LadderOfBowsModel" "alive" "[I") ∈ wsX6_stranger := List.mem_of_getElem? (i := 3) rfl
theorem kX6_stranger_f55 : (Cond.fieldLink RX6 55 "LadderOfBowsModel" "many" "[I") ∈ wsX6_stranger := List.mem_of_getElem? (i := 4) rfl
theorem in_X6_stranger_X6 : ∀ w ∈ wsX60, w ∈ wsX6_stranger := by decide +kernel
theorem hd_X6_stranger : yX6_stranger.cls = RX6 ∧ yX6_stranger.cls ≠ "java/lang/invoke/MethodHandle" ∧ yX6_stranger.cls ≠ "java/lang/invoke/VarHandle" ∧ (parseMethodDescriptor yX6_stranger.desc).map (fun d => d.parameters.length) = some 1 := by decide +kernel
set_option maxRecDepth 100000 in
set_option maxHeartbeats 4000000 in
theorem w_X6_stranger_101 {p : Program} {l : Launch} {e : Env} {s : State} {m : MethodId} {args : Array Value} {below : List Frame} {meth : Method} {c : Code} {D : va_G} {cI : ClassId} {ad : Nat → Nat} {L : List CDs} {r : Int32} {M' : Mem} (C0 : me_X p s m args meth c cX6_stranger 7 (some .int) wsX6_stranger RX6 D cI ad L) (t : Nat) (hT : is_X6 L t) (x1 : Int32) (x2 : Int32) (x3 : Int32) (x4 : Int32) (x5 : Int32) : ∀ (n : Nat) (x6 : Int32) (M : Mem), X6_stranger_101 t x1 x2 x3 x4 x5 n x6 M = some (r, M') → me_W p l e rmX6_stranger s m args below meth c D cI ad L (some (.int r)) M' 7 101 [(0, .ref (ad t)), (1, .int x1), (2, .int x2), (3, .int x3), (4, .int x4), (5, .int x5), (6, .int x6)] [] M := by
  obtain ⟨hx, hb, hr, hml, hown, hts, hlk, hK, hI⟩ := id C0
  intro n
  induction n with
  | zero =>
    intro x6 M h
    rw [X6_stranger_101] at h
    cases h
  | succ n ih =>
    intro x6 M h
    rw [X6_stranger_101] at h
    intro H locs ls hP hS hl
    refine lv_iload hx hb dX6_stranger_101 (lv_at hl 6 rfl) ?_
    refine lv_iload hx hb dX6_stranger_103 (lv_at hl 4 rfl) ?_
    refine lv_icmp_ge (tgt := 138) hx hb dX6_stranger_105 (by decide) (fun q => ?_) (fun q => ?_)
    · rw [if_pos q] at h
      refine lv_aload_n hx hb dX6_stranger_138 rfl (lv_at hl 0 rfl) ?_
      refine lv_iconst (v := (1 : Int32)) hx hb dX6_stranger_139 (by decide) ?_
      obtain ⟨v140, M140, h1, h⟩ := s_call_inv h
      refine me_callVi (As := [.int (1 : Int32)]) (rest := []) ⟨hx, hb, hml, hown, hts⟩ (c_X6_makePeace hT h1) (cwV 1 hts gX6_stranger_X6_makePeace rfl rfl rfl hd_X6_makePeace ⟨(Nat.le_of_ble_eq_true rfl), (Nat.le_of_ble_eq_true rfl)⟩) hK hI hP hS hT.1 rfl rfl hl.1 rfl (Nat.le_of_ble_eq_true rfl) dX6_stranger_140 ⟨Nat.zero_le _, Nat.zero_le _⟩ (fun H locs hP hS => ?_)
      refine lv_iload_n hx hb dX6_stranger_143 rfl (lv_at hl 2 rfl) ?_
      refine lv_isub hx hb dX6_stranger_144 ?_
      refine lv_topi (fun x6_145 ev => ?_)
      replace h := s_let_inv h x6_145 ev
      refine lv_istore (lv' := [(6, .int x6_145), (0, .ref (ad t)), (1, .int x1), (2, .int x2), (3, .int x3), (4, .int x4), (5, .int x5)]) hx hb dX6_stranger_145 hl (by decide) rfl (fun ls hl => ?_)
      refine lv_aload_n hx hb dX6_stranger_147 rfl (lv_at hl 1 rfl) ?_
      refine me_getr (ci := 6) (C := RX6) (T := TX6) (N := 22) hx hb hts in_X6_stranger_X6 hown hK hP hT.1 rfl 3 (by decide) (hts _ kX6_stranger_f16) rfl dX6_stranger_148 ?_
      refine lv_iload hx hb dX6_stranger_151 (lv_at hl 5 rfl) ?_
      refine lv_iload hx hb dX6_stranger_153 (lv_at hl 6 rfl) ?_
      obtain ⟨hi, h⟩ := s_ast_inv h
      refine me_ast hx hb hK hI hP hS hT.2.2.2.1 hi dX6_stranger_155 (fun H locs M155 eM hP hS => ?_)
      replace h := h M155 eM
      refine lv_iload_n hx hb dX6_stranger_156 rfl (lv_at hl 2 rfl) ?_
      refine lv_if_ne (tgt := 168) hx hb dX6_stranger_157 (by decide) (fun q => ?_) (fun q => ?_)
      · rw [if_pos q] at h
        refine lv_aload_n hx hb dX6_stranger_168 rfl (lv_at hl 1 rfl) ?_
        refine lv_iconst (v := (1 : Int32)) hx hb dX6_stranger_169 (by decide) ?_
        obtain ⟨v170, M170, h1, h⟩ := s_call_inv h
        refine me_callVi (As := [.int (1 : Int32)]) (rest := []) ⟨hx, hb, hml, hown, hts⟩ (c_X6_allOf hT h1) (cwV 1 hts gX6_stranger_X6_allOf rfl rfl rfl hd_X6_allOf ⟨(Nat.le_of_ble_eq_true rfl), (Nat.le_of_ble_eq_true rfl)⟩) hK hI hP hS hT.1 rfl rfl hl.1 rfl (Nat.le_of_ble_eq_true rfl) dX6_stranger_170 ⟨Nat.zero_le _, Nat.zero_le _⟩ (fun H locs hP hS => ?_)
        refine lv_iload_n hx hb dX6_stranger_173 rfl (lv_at hl 4 rfl) ?_
        refine lv_isub hx hb dX6_stranger_174 ?_
        refine lv_bipush (v := (100 : Int32)) hx hb dX6_stranger_175 (by decide) ?_
        refine lv_iadd hx hb dX6_stranger_177 ?_
        exact me_iret hx hb hr hlk hP hS h dX6_stranger_178
      · rw [if_neg (not_not_intro q)] at h
        refine lv_iload hx hb dX6_stranger_160 (lv_at hl 0 rfl) ?_
        refine lv_bipush (v := (100 : Int32)) hx hb dX6_stranger_162 (by decide) ?_
        refine lv_iadd hx hb dX6_stranger_164 ?_
        refine lv_goto (tgt := 178) hx hb dX6_stranger_165 (by decide) ?_
        exact me_iret hx hb hr hlk hP hS h dX6_stranger_178
    · rw [if_neg q] at h
      refine lv_aload_n hx hb dX6_stranger_108 rfl (lv_at hl 0 rfl) ?_
      refine lv_iconst (v := (1 : Int32)) hx hb dX6_stranger_109 (by decide) ?_
      refine lv_iload hx hb dX6_stranger_110 (lv_at hl 4 rfl) ?_
      refine lv_iload hx hb dX6_stranger_112 (lv_at hl 6 rfl) ?_
      refine lv_aload_n hx hb dX6_stranger_114 rfl (lv_at hl 0 rfl) ?_
      refine lv_iconst (v := (1 : Int32)) hx hb dX6_stranger_115 (by decide) ?_
      refine lv_iload hx hb dX6_stranger_116 (lv_at hl 6 rfl) ?_
      obtain ⟨v118, M118, h1, h⟩ := s_call_inv h
      refine me_callVi (As := [.int (1 : Int32), .int x6]) (rest := [.int x6, .int x4, .int (1 : Int32), .ref (ad t)]) ⟨hx, hb, hml, hown, hts⟩ (c_X6_isAlive hT h1) (cwV 2 hts gX6_stranger_X6_isAlive rfl rfl rfl hd_X6_isAlive ⟨(Nat.le_of_ble_eq_true rfl), (Nat.le_of_ble_eq_true rfl)⟩) hK hI hP hS hT.1 rfl rfl hl.1 rfl (Nat.le_of_ble_eq_true rfl) dX6_stranger_118 ⟨Nat.zero_le _, Nat.zero_le _⟩ (fun H locs hP hS => ?_)
      refine lv_if_eq (tgt := 128) hx hb dX6_stranger_121 (by decide) (fun q => ?_) (fun q => ?_)
      · rw [if_pos q] at h
        refine lv_iconst (v := (0 : Int32)) hx hb dX6_stranger_128 (by decide) ?_
        obtain ⟨u129, M129, h1, h⟩ := s_call_inv h
        refine me_callVv (As := [.int (1 : Int32), .int x4, .int x6, .int (0 : Int32)]) (rest := []) ⟨hx, hb, hml, hown, hts⟩ (c_X6_setDebt hT h1) (cwV 4 hts gX6_stranger_X6_setDebt rfl rfl rfl hd_X6_setDebt ⟨(Nat.le_of_ble_eq_true rfl), (Nat.le_of_ble_eq_true rfl)⟩) hK hI hP hS hT.1 rfl rfl hl.1 rfl (Nat.le_of_ble_eq_true rfl) dX6_stranger_129 ⟨Nat.zero_le _, Nat.zero_le _⟩ (fun H locs hP hS => ?_)
        refine lv_iinc (k := 6) (v := (x6 + (1 : Int32))) (lv' := [(6, .int (x6 + (1 : Int32))), (0, .ref (ad t)), (1, .int x1), (2, .int x2), (3, .int x3), (4, .int x4), (5, .int x5)]) hx hb dX6_stranger_132 hl rfl rfl (by decide) rfl (fun ls hl => ?_)
        refine lv_goto (tgt := 101) hx hb dX6_stranger_135 (by decide) ?_
        exact ih (x6 + (1 : Int32)) M129 h H locs ls hP hS (lv_sub hl [1, 2, 3, 4, 5, 6, 0] rfl)
      · rw [if_neg q] at h
        refine lv_iconst (v := (1 : Int32)) hx hb dX6_stranger_124 (by decide) ?_
        refine lv_goto (tgt := 129) hx hb dX6_stranger_125 (by decide) ?_
        obtain ⟨u129, M129, h1, h⟩ := s_call_inv h
        refine me_callVv (As := [.int (1 : Int32), .int x4, .int x6, .int (1 : Int32)]) (rest := []) ⟨hx, hb, hml, hown, hts⟩ (c_X6_setDebt hT h1) (cwV 4 hts gX6_stranger_X6_setDebt rfl rfl rfl hd_X6_setDebt ⟨(Nat.le_of_ble_eq_true rfl), (Nat.le_of_ble_eq_true rfl)⟩) hK hI hP hS hT.1 rfl rfl hl.1 rfl (Nat.le_of_ble_eq_true rfl) dX6_stranger_129 ⟨Nat.zero_le _, Nat.zero_le _⟩ (fun H locs hP hS => ?_)
        refine lv_iinc (k := 6) (v := (x6 + (1 : Int32))) (lv' := [(6, .int (x6 + (1 : Int32))), (0, .ref (ad t)), (1, .int x1), (2, .int x2), (3, .int x3), (4, .int x4), (5, .int x5)]) hx hb dX6_stranger_132 hl rfl rfl (by decide) rfl (fun ls hl => ?_)
        refine lv_goto (tgt := 101) hx hb dX6_stranger_135 (by decide) ?_
        exact ih (x6 + (1 : Int32)) M129 h H locs ls hP hS (lv_sub hl [1, 2, 3, 4, 5, 6, 0] rfl)
set_option maxRecDepth 100000 in
set_option maxHeartbeats 4000000 in
theorem w_X6_stranger {p : Program} {l : Launch} {e : Env} {s : State} {m : MethodId} {args : Array Value} {below : List Frame} {meth : Method} {c : Code} {D : va_G} {cI : ClassId} {ad : Nat → Nat} {L : List CDs} {r : Int32} {M' : Mem} (C0 : me_X p s m args meth c cX6_stranger 7 (some .int) wsX6_stranger RX6 D cI ad L) (t : Nat) (hT : is_X6 L t) (x1 : Int32) : ∀  (M : Mem), X6_stranger t x1 M = some (r, M') → me_W p l e rmX6_stranger s m args below meth c D cI ad L (some (.int r)) M' 7 0 [(0, .ref (ad t)), (1, .int x1)] [] M := by
  obtain ⟨hx, hb, hr, hml, hown, hts, hlk, hK, hI⟩ := id C0
  intro M h
  unfold X6_stranger at h
  intro H locs ls hP hS hl
  refine lv_iload_n hx hb dX6_stranger_0 rfl (lv_at hl 1 rfl) ?_
  refine lv_i2l (v := (x1).toInt64) hx hb dX6_stranger_1 rfl ?_
  refine lv_lconst (v := (0 : Int64)) hx hb dX6_stranger_2 (by decide) ?_
  refine lv_lconst (v := (1 : Int64)) hx hb dX6_stranger_3 (by decide) ?_
  obtain ⟨v4, M4, h1, h⟩ := s_call_inv h
  refine me_callSi (As := [.long ((x1).toInt64), .long (0 : Int64), .long (1 : Int64)]) (rest := []) ⟨hx, hb, hml, hown, hts⟩ (c_X6_in h1) (va_cwS 3 hts gX6_stranger_X6_in rfl rfl rfl hd_X6_in.2 ⟨(Nat.le_of_ble_eq_true rfl), (Nat.le_of_ble_eq_true rfl)⟩) hK hI hP hS rfl hl.1 rfl (Nat.le_of_ble_eq_true rfl) dX6_stranger_4 ⟨Nat.zero_le _, Nat.zero_le _⟩ (fun H locs hP hS => ?_)
  refine lv_if_ne (tgt := 12) hx hb dX6_stranger_7 (by decide) (fun q => ?_) (fun q => ?_)
  · rw [if_pos q] at h
    refine lv_aload_n hx hb dX6_stranger_12 rfl (lv_at hl 0 rfl) ?_
    refine me_getr (ci := 6) (C := RX6) (T := TX6) (N := 22) hx hb hts in_X6_stranger_X6 hown hK hP hT.1 rfl 2 (by decide) (hts _ kX6_stranger_f13) rfl dX6_stranger_13 ?_
    refine lv_iconst (v := (0 : Int32)) hx hb dX6_stranger_16 (by decide) ?_
    obtain ⟨hi, h⟩ := s_ald_inv h
    refine me_ald hx hb hK hP hT.2.2.1 hi dX6_stranger_17 (fun v17 ev => ?_)
    replace h := h v17 ev
    refine lv_bipush (v := (7 : Int32)) hx hb dX6_stranger_18 (by decide) ?_
    refine lv_icmp_ne (tgt := 26) hx hb dX6_stranger_20 (by decide) (fun q => ?_) (fun q => ?_)
    · rw [if_pos q] at h
      refine lv_aload_n hx hb dX6_stranger_26 rfl (lv_at hl 0 rfl) ?_
      refine lv_iconst (v := (0 : Int32)) hx hb dX6_stranger_27 (by decide) ?_
      refine lv_iconst (v := (1 : Int32)) hx hb dX6_stranger_28 (by decide) ?_
      obtain ⟨u29, M29, h1, h⟩ := s_call_inv h
      refine me_callVv (As := [.int (0 : Int32), .int (1 : Int32)]) (rest := []) ⟨hx, hb, hml, hown, hts⟩ (c_X6_copy hT h1) (cwV 2 hts gX6_stranger_X6_copy rfl rfl rfl hd_X6_copy ⟨(Nat.le_of_ble_eq_true rfl), (Nat.le_of_ble_eq_true rfl)⟩) hK hI hP hS hT.1 rfl rfl hl.1 rfl (Nat.le_of_ble_eq_true rfl) dX6_stranger_29 ⟨Nat.zero_le _, Nat.zero_le _⟩ (fun H locs hP hS => ?_)
      refine lv_aload_n hx hb dX6_stranger_32 rfl (lv_at hl 0 rfl) ?_
      refine lv_iconst (v := (1 : Int32)) hx hb dX6_stranger_33 (by decide) ?_
      obtain ⟨v34, M34, h1, h⟩ := s_call_inv h
      refine me_callVi (As := [.int (1 : Int32)]) (rest := []) ⟨hx, hb, hml, hown, hts⟩ (c_X6_makePeace hT h1) (cwV 1 hts gX6_stranger_X6_makePeace rfl rfl rfl hd_X6_makePeace ⟨(Nat.le_of_ble_eq_true rfl), (Nat.le_of_ble_eq_true rfl)⟩) hK hI hP hS hT.1 rfl rfl hl.1 rfl (Nat.le_of_ble_eq_true rfl) dX6_stranger_34 ⟨Nat.zero_le _, Nat.zero_le _⟩ (fun H locs hP hS => ?_)
      refine lv_istore_n (lv' := [(2, .int v34), (0, .ref (ad t)), (1, .int x1)]) hx hb dX6_stranger_37 rfl hl (by decide) rfl (fun ls hl => ?_)
      refine lv_aload_n hx hb dX6_stranger_38 rfl (lv_at hl 1 rfl) ?_
      refine lv_iconst (v := (1 : Int32)) hx hb dX6_stranger_39 (by decide) ?_
      obtain ⟨v40, M40, h1, h⟩ := s_call_inv h
      refine me_callVi (As := [.int (1 : Int32)]) (rest := []) ⟨hx, hb, hml, hown, hts⟩ (c_X6_allOf hT h1) (cwV 1 hts gX6_stranger_X6_allOf rfl rfl rfl hd_X6_allOf ⟨(Nat.le_of_ble_eq_true rfl), (Nat.le_of_ble_eq_true rfl)⟩) hK hI hP hS hT.1 rfl rfl hl.1 rfl (Nat.le_of_ble_eq_true rfl) dX6_stranger_40 ⟨Nat.zero_le _, Nat.zero_le _⟩ (fun H locs hP hS => ?_)
      refine lv_istore_n (lv' := [(3, .int v40), (2, .int v34), (0, .ref (ad t)), (1, .int x1)]) hx hb dX6_stranger_43 rfl hl (by decide) rfl (fun ls hl => ?_)
      refine lv_aload_n hx hb dX6_stranger_44 rfl (lv_at hl 2 rfl) ?_
      refine lv_iconst (v := (0 : Int32)) hx hb dX6_stranger_45 (by decide) ?_
      refine lv_iconst (v := (1 : Int32)) hx hb dX6_stranger_46 (by decide) ?_
      obtain ⟨u47, M47, h1, h⟩ := s_call_inv h
      refine me_callVv (As := [.int (0 : Int32), .int (1 : Int32)]) (rest := []) ⟨hx, hb, hml, hown, hts⟩ (c_X6_copy hT h1) (cwV 2 hts gX6_stranger_X6_copy rfl rfl rfl hd_X6_copy ⟨(Nat.le_of_ble_eq_true rfl), (Nat.le_of_ble_eq_true rfl)⟩) hK hI hP hS hT.1 rfl rfl hl.1 rfl (Nat.le_of_ble_eq_true rfl) dX6_stranger_47 ⟨Nat.zero_le _, Nat.zero_le _⟩ (fun H locs hP hS => ?_)
      refine lv_aload_n hx hb dX6_stranger_50 rfl (lv_at hl 2 rfl) ?_
      refine me_getr (ci := 6) (C := RX6) (T := TX6) (N := 22) hx hb hts in_X6_stranger_X6 hown hK hP hT.1 rfl 2 (by decide) (hts _ kX6_stranger_f13) rfl dX6_stranger_51 ?_
      refine lv_iconst (v := (0 : Int32)) hx hb dX6_stranger_54 (by decide) ?_
      obtain ⟨hi, h⟩ := s_ald_inv h
      refine me_ald hx hb hK hP hT.2.2.1 hi dX6_stranger_55 (fun v55 ev => ?_)
      replace h := h v55 ev
      refine lv_istore (lv' := [(4, .int v55), (3, .int v40), (2, .int v34), (0, .ref (ad t)), (1, .int x1)]) hx hb dX6_stranger_56 hl (by decide) rfl (fun ls hl => ?_)
      refine lv_aload_n hx hb dX6_stranger_58 rfl (lv_at hl 3 rfl) ?_
      refine me_getr (ci := 6) (C := RX6) (T := TX6) (N := 22) hx hb hts in_X6_stranger_X6 hown hK hP hT.1 rfl 3 (by decide) (hts _ kX6_stranger_f16) rfl dX6_stranger_59 ?_
      refine lv_iload hx hb dX6_stranger_62 (lv_at hl 0 rfl) ?_
      obtain ⟨hi, h⟩ := s_ald_inv h
      refine me_ald hx hb hK hP hT.2.2.2.1 hi dX6_stranger_64 (fun v64 ev => ?_)
      replace h := h v64 ev
      refine lv_istore (lv' := [(5, .int v64), (4, .int v55), (3, .int v40), (2, .int v34), (0, .ref (ad t)), (1, .int x1)]) hx hb dX6_stranger_65 hl (by decide) rfl (fun ls hl => ?_)
      refine lv_aload_n hx hb dX6_stranger_67 rfl (lv_at hl 4 rfl) ?_
      refine me_getr (ci := 6) (C := RX6) (T := TX6) (N := 22) hx hb hts in_X6_stranger_X6 hown hK hP hT.1 rfl 3 (by decide) (hts _ kX6_stranger_f16) rfl dX6_stranger_68 ?_
      refine lv_iload hx hb dX6_stranger_71 (lv_at hl 1 rfl) ?_
      refine lv_iconst (v := (0 : Int32)) hx hb dX6_stranger_73 (by decide) ?_
      obtain ⟨hi, h⟩ := s_ast_inv h
      refine me_ast hx hb hK hI hP hS hT.2.2.2.1 hi dX6_stranger_74 (fun H locs M74 eM hP hS => ?_)
      replace h := h M74 eM
      refine lv_aload_n hx hb dX6_stranger_75 rfl (lv_at hl 4 rfl) ?_
      refine me_getr (ci := 6) (C := RX6) (T := TX6) (N := 22) hx hb hts in_X6_stranger_X6 hown hK hP hT.1 rfl 17 (by decide) (hts _ kX6_stranger_f49) rfl dX6_stranger_76 ?_
      refine lv_iconst (v := (1 : Int32)) hx hb dX6_stranger_79 (by decide) ?_
      refine lv_dup2_11 hx hb dX6_stranger_80 rfl rfl ?_
      obtain ⟨hi, h⟩ := s_ald_inv h
      refine me_ald hx hb hK hP hT.2.2.2.2.2.2.2.2.2.2.2.2.2.2.1 hi dX6_stranger_81 (fun v81 ev => ?_)
      replace h := h v81 ev
      refine lv_iconst (v := (1 : Int32)) hx hb dX6_stranger_82 (by decide) ?_
      refine lv_iload hx hb dX6_stranger_83 (lv_at hl 1 rfl) ?_
      refine lv_ishl hx hb dX6_stranger_85 ?_
      refine lv_ior hx hb dX6_stranger_86 ?_
      obtain ⟨hi, h⟩ := s_ast_inv h
      refine me_ast hx hb hK hI hP hS hT.2.2.2.2.2.2.2.2.2.2.2.2.2.2.1 hi dX6_stranger_87 (fun H locs M87 eM hP hS => ?_)
      replace h := h M87 eM
      refine lv_aload_n hx hb dX6_stranger_88 rfl (lv_at hl 4 rfl) ?_
      refine me_getr (ci := 6) (C := RX6) (T := TX6) (N := 22) hx hb hts in_X6_stranger_X6 hown hK hP hT.1 rfl 19 (by decide) (hts _ kX6_stranger_f55) rfl dX6_stranger_89 ?_
      refine lv_iconst (v := (1 : Int32)) hx hb dX6_stranger_92 (by decide) ?_
      refine lv_dup2_11 hx hb dX6_stranger_93 rfl rfl ?_
      obtain ⟨hi, h⟩ := s_ald_inv h
      refine me_ald hx hb hK hP hT.2.2.2.2.2.2.2.2.2.2.2.2.2.2.2.2.1 hi dX6_stranger_94 (fun v94 ev => ?_)
      replace h := h v94 ev
      refine lv_iconst (v := (1 : Int32)) hx hb dX6_stranger_95 (by decide) ?_
      refine lv_iadd hx hb dX6_stranger_96 ?_
      obtain ⟨hi, h⟩ := s_ast_inv h
      refine me_ast hx hb hK hI hP hS hT.2.2.2.2.2.2.2.2.2.2.2.2.2.2.2.2.1 hi dX6_stranger_97 (fun H locs M97 eM hP hS => ?_)
      replace h := h M97 eM
      refine lv_iconst (v := (0 : Int32)) hx hb dX6_stranger_98 (by decide) ?_
      refine lv_istore (lv' := [(6, .int (0 : Int32)), (5, .int v64), (4, .int v55), (3, .int v40), (2, .int v34), (0, .ref (ad t)), (1, .int x1)]) hx hb dX6_stranger_99 hl (by decide) rfl (fun ls hl => ?_)
      exact w_X6_stranger_101 C0 t hT x1 v34 v40 v55 v64 FU (0 : Int32) M97 h H locs ls hP hS (lv_sub hl [5, 6, 4, 3, 2, 1, 0] rfl)
    · rw [if_neg (not_not_intro q)] at h
      refine lv_bipush (v := (-3 : Int32)) hx hb dX6_stranger_23 (by decide) ?_
      exact me_iret hx hb hr hlk hP hS h dX6_stranger_25
  · rw [if_neg (not_not_intro q)] at h
    refine lv_iconst (v := (-1 : Int32)) hx hb dX6_stranger_10 (by decide) ?_
    exact me_iret hx hb hr hlk hP hS h dX6_stranger_11
theorem c_X6_stranger {l : Launch} {D : va_G} {cI : ClassId} {ad : Nat → Nat} {L : List CDs} {t : Nat} (hT : is_X6 L t) {x1 : Int32} {M M' : Mem} {r : Int32} (h : X6_stranger t x1 M = some (r, M')) : me_Met l yX6_stranger wsX6_stranger rmX6_stranger D cI ad L [.ref (ad t), .int x1] (some (.int r)) M M' :=
  me_ofW (by decide) rfl (Nat.le_of_ble_eq_true rfl) (fun p e s m below meth c C0 => w_X6_stranger C0 t hT x1 M h)
abbrev rmX6_easter : Room := { frames := 6, cells := 0, slots := 0, locals := 139 }
theorem kX6_easter_f52 : (Cond.fieldLink RX6 52 "LadderOfBowsModel" "day" "[I") ∈ wsX6_easter := List.mem_of_getElem? (i := 1) rfl
theorem kX6_easter_f25 : (Cond.fieldLink RX6 25 "LadderOfBowsModel" "easters" "[I") ∈ wsX6_easter := List.mem_of_getElem? (i := 2) rfl
theorem in_X6_easter_X6 : ∀ w ∈ wsX60, w ∈ wsX6_easter := by decide +kernel
theorem hd_X6_easter : yX6_easter.cls = RX6 ∧ yX6_easter.cls ≠ "java/lang/invoke/MethodHandle" ∧ yX6_easter.cls ≠ "java/lang/invoke/VarHandle" ∧ (parseMethodDescriptor yX6_easter.desc).map (fun d => d.parameters.length) = some 0 := by decide +kernel
set_option maxRecDepth 100000 in
set_option maxHeartbeats 4000000 in
theorem w_X6_easter_6 {p : Program} {l : Launch} {e : Env} {s : State} {m : MethodId} {args : Array Value} {below : List Frame} {meth : Method} {c : Code} {D : va_G} {cI : ClassId} {ad : Nat → Nat} {L : List CDs} {r : Int32} {M' : Mem} (C0 : me_X p s m args meth c cX6_easter 1 (some .int) wsX6_easter RX6 D cI ad L) (t : Nat) (hT : is_X6 L t) : ∀ (n : Nat)  (M : Mem), X6_easter_6 t n M = some (r, M') → me_W p l e rmX6_easter s m args below meth c D cI ad L (some (.int r)) M' 1 6 [(0, .ref (ad t))] [] M := by
  obtain ⟨hx, hb, hr, hml, hown, hts, hlk, hK, hI⟩ := id C0
  intro n
  induction n with
  | zero =>
    intro M h
    rw [X6_easter_6] at h
    cases h
  | succ n ih =>
    intro M h
    rw [X6_easter_6] at h
    intro H locs ls hP hS hl
    refine lv_aload_n hx hb dX6_easter_6 rfl (lv_at hl 0 rfl) ?_
    refine me_getr (ci := 6) (C := RX6) (T := TX6) (N := 22) hx hb hts in_X6_easter_X6 hown hK hP hT.1 rfl 18 (by decide) (hts _ kX6_easter_f52) rfl dX6_easter_7 ?_
    refine lv_iconst (v := (1 : Int32)) hx hb dX6_easter_10 (by decide) ?_
    obtain ⟨hi, h⟩ := s_ald_inv h
    refine me_ald hx hb hK hP hT.2.2.2.2.2.2.2.2.2.2.2.2.2.2.2.1 hi dX6_easter_11 (fun v11 ev => ?_)
    replace h := h v11 ev
    refine lv_aload_n hx hb dX6_easter_12 rfl (lv_at hl 0 rfl) ?_
    refine me_getr (ci := 6) (C := RX6) (T := TX6) (N := 22) hx hb hts in_X6_easter_X6 hown hK hP hT.1 rfl 6 (by decide) (hts _ kX6_easter_f25) rfl dX6_easter_13 ?_
    refine lv_iconst (v := (0 : Int32)) hx hb dX6_easter_16 (by decide) ?_
    obtain ⟨hi, h⟩ := s_ald_inv h
    refine me_ald hx hb hK hP hT.2.2.2.2.2.2.1 hi dX6_easter_17 (fun v17 ev => ?_)
    replace h := h v17 ev
    refine lv_icmp_gt (tgt := 50) hx hb dX6_easter_18 (by decide) (fun q => ?_) (fun q => ?_)
    · rw [if_pos q] at h
      refine lv_bipush (v := (-4 : Int32)) hx hb dX6_easter_50 (by decide) ?_
      exact me_iret hx hb hr hlk hP hS h dX6_easter_52
    · rw [if_neg q] at h
      refine lv_aload_n hx hb dX6_easter_21 rfl (lv_at hl 0 rfl) ?_
      refine lv_iconst (v := (1 : Int32)) hx hb dX6_easter_22 (by decide) ?_
      obtain ⟨v23, M23, h1, h⟩ := s_call_inv h
      refine me_callVi (As := [.int (1 : Int32)]) (rest := []) ⟨hx, hb, hml, hown, hts⟩ (c_X6_makePeace hT h1) (cwV 1 hts gX6_easter_X6_makePeace rfl rfl rfl hd_X6_makePeace ⟨(Nat.le_of_ble_eq_true rfl), (Nat.le_of_ble_eq_true rfl)⟩) hK hI hP hS hT.1 rfl rfl hl.1 rfl (Nat.le_of_ble_eq_true rfl) dX6_easter_23 ⟨Nat.zero_le _, Nat.zero_le _⟩ (fun H locs hP hS => ?_)
      refine lv_pop hx hb dX6_easter_26 rfl ?_
      refine lv_aload_n hx hb dX6_easter_27 rfl (lv_at hl 0 rfl) ?_
      refine lv_iconst (v := (1 : Int32)) hx hb dX6_easter_28 (by decide) ?_
      obtain ⟨v29, M29, h1, h⟩ := s_call_inv h
      refine me_callVi (As := [.int (1 : Int32)]) (rest := []) ⟨hx, hb, hml, hown, hts⟩ (c_X6_allOf hT h1) (cwV 1 hts gX6_easter_X6_allOf rfl rfl rfl hd_X6_allOf ⟨(Nat.le_of_ble_eq_true rfl), (Nat.le_of_ble_eq_true rfl)⟩) hK hI hP hS hT.1 rfl rfl hl.1 rfl (Nat.le_of_ble_eq_true rfl) dX6_easter_29 ⟨Nat.zero_le _, Nat.zero_le _⟩ (fun H locs hP hS => ?_)
      refine lv_if_ne (tgt := 42) hx hb dX6_easter_32 (by decide) (fun q => ?_) (fun q => ?_)
      · rw [if_pos q] at h
        refine lv_aload_n hx hb dX6_easter_42 rfl (lv_at hl 0 rfl) ?_
        refine lv_iconst (v := (1 : Int32)) hx hb dX6_easter_43 (by decide) ?_
        obtain ⟨u44, M44, h1, h⟩ := s_call_inv h
        refine me_callVv (As := [.int (1 : Int32)]) (rest := []) ⟨hx, hb, hml, hown, hts⟩ (c_X6_goDay hT h1) (cwV 1 hts gX6_easter_X6_goDay rfl rfl rfl hd_X6_goDay ⟨(Nat.le_of_ble_eq_true rfl), (Nat.le_of_ble_eq_true rfl)⟩) hK hI hP hS hT.1 rfl rfl hl.1 rfl (Nat.le_of_ble_eq_true rfl) dX6_easter_44 ⟨Nat.zero_le _, Nat.zero_le _⟩ (fun H locs hP hS => ?_)
        refine lv_goto (tgt := 6) hx hb dX6_easter_47 (by decide) ?_
        exact ih  M44 h H locs ls hP hS (lv_sub hl [0] rfl)
      · rw [if_neg (not_not_intro q)] at h
        refine lv_aload_n hx hb dX6_easter_35 rfl (lv_at hl 0 rfl) ?_
        refine me_getr (ci := 6) (C := RX6) (T := TX6) (N := 22) hx hb hts in_X6_easter_X6 hown hK hP hT.1 rfl 18 (by decide) (hts _ kX6_easter_f52) rfl dX6_easter_36 ?_
        refine lv_iconst (v := (1 : Int32)) hx hb dX6_easter_39 (by decide) ?_
        obtain ⟨hi, h⟩ := s_ald_inv h
        refine me_ald hx hb hK hP hT.2.2.2.2.2.2.2.2.2.2.2.2.2.2.2.1 hi dX6_easter_40 (fun v40 ev => ?_)
        replace h := h v40 ev
        exact me_iret hx hb hr hlk hP hS h dX6_easter_41
set_option maxRecDepth 100000 in
set_option maxHeartbeats 4000000 in
theorem w_X6_easter {p : Program} {l : Launch} {e : Env} {s : State} {m : MethodId} {args : Array Value} {below : List Frame} {meth : Method} {c : Code} {D : va_G} {cI : ClassId} {ad : Nat → Nat} {L : List CDs} {r : Int32} {M' : Mem} (C0 : me_X p s m args meth c cX6_easter 1 (some .int) wsX6_easter RX6 D cI ad L) (t : Nat) (hT : is_X6 L t) : ∀  (M : Mem), X6_easter t M = some (r, M') → me_W p l e rmX6_easter s m args below meth c D cI ad L (some (.int r)) M' 1 0 [(0, .ref (ad t))] [] M := by
  obtain ⟨hx, hb, hr, hml, hown, hts, hlk, hK, hI⟩ := id C0
  intro M h
  unfold X6_easter at h
  intro H locs ls hP hS hl
  refine lv_aload_n hx hb dX6_easter_0 rfl (lv_at hl 0 rfl) ?_
  refine lv_iconst (v := (0 : Int32)) hx hb dX6_easter_1 (by decide) ?_
  refine lv_iconst (v := (1 : Int32)) hx hb dX6_easter_2 (by decide) ?_
  obtain ⟨u3, M3, h1, h⟩ := s_call_inv h
  refine me_callVv (As := [.int (0 : Int32), .int (1 : Int32)]) (rest := []) ⟨hx, hb, hml, hown, hts⟩ (c_X6_copy hT h1) (cwV 2 hts gX6_easter_X6_copy rfl rfl rfl hd_X6_copy ⟨(Nat.le_of_ble_eq_true rfl), (Nat.le_of_ble_eq_true rfl)⟩) hK hI hP hS hT.1 rfl rfl hl.1 rfl (Nat.le_of_ble_eq_true rfl) dX6_easter_3 ⟨Nat.zero_le _, Nat.zero_le _⟩ (fun H locs hP hS => ?_)
  exact w_X6_easter_6 C0 t hT FU M3 h H locs ls hP hS (lv_sub hl [0] rfl)
theorem c_X6_easter {l : Launch} {D : va_G} {cI : ClassId} {ad : Nat → Nat} {L : List CDs} {t : Nat} (hT : is_X6 L t)  {M M' : Mem} {r : Int32} (h : X6_easter t M = some (r, M')) : me_Met l yX6_easter wsX6_easter rmX6_easter D cI ad L [.ref (ad t)] (some (.int r)) M M' :=
  me_ofW (by decide) rfl (Nat.le_of_ble_eq_true rfl) (fun p e s m below meth c C0 => w_X6_easter C0 t hT M h)
abbrev rmX6_silent : Room := { frames := 1, cells := 0, slots := 0, locals := 25 }
theorem kX6_silent_c224 : (Cond.constantLong RX6 224 (3)) ∈ wsX6_silent := List.mem_of_getElem? (i := 1) rfl
theorem kX6_silent_f117 : (Cond.fieldLink RX6 117 "LadderOfBowsModel" "silents" "I") ∈ wsX6_silent := List.mem_of_getElem? (i := 2) rfl
theorem kX6_silent_f40 : (Cond.fieldLink RX6 40 "LadderOfBowsModel" "silentIn" "[I") ∈ wsX6_silent := List.mem_of_getElem? (i := 3) rfl
theorem in_X6_silent_X6 : ∀ w ∈ wsX60, w ∈ wsX6_silent := by decide +kernel
theorem hd_X6_silent : yX6_silent.cls = RX6 ∧ yX6_silent.cls ≠ "java/lang/invoke/MethodHandle" ∧ yX6_silent.cls ≠ "java/lang/invoke/VarHandle" ∧ (parseMethodDescriptor yX6_silent.desc).map (fun d => d.parameters.length) = some 1 := by decide +kernel
set_option maxRecDepth 100000 in
set_option maxHeartbeats 4000000 in
theorem w_X6_silent {p : Program} {l : Launch} {e : Env} {s : State} {m : MethodId} {args : Array Value} {below : List Frame} {meth : Method} {c : Code} {D : va_G} {cI : ClassId} {ad : Nat → Nat} {L : List CDs} {r : Int32} {M' : Mem} (C0 : me_X p s m args meth c cX6_silent 2 (some .int) wsX6_silent RX6 D cI ad L) (t : Nat) (hT : is_X6 L t) (x1 : Int32) : ∀  (M : Mem), X6_silent t x1 M = some (r, M') → me_W p l e rmX6_silent s m args below meth c D cI ad L (some (.int r)) M' 2 0 [(0, .ref (ad t)), (1, .int x1)] [] M := by
  obtain ⟨hx, hb, hr, hml, hown, hts, hlk, hK, hI⟩ := id C0
  intro M h
  unfold X6_silent at h
  intro H locs ls hP hS hl
  refine lv_iload_n hx hb dX6_silent_0 rfl (lv_at hl 1 rfl) ?_
  refine lv_i2l (v := (x1).toInt64) hx hb dX6_silent_1 rfl ?_
  refine lv_lconst (v := (0 : Int64)) hx hb dX6_silent_2 (by decide) ?_
  refine lv_ldc2 (v := (3 : Int64)) hx hb hown (hts _ kX6_silent_c224) dX6_silent_3 ?_
  obtain ⟨v6, M6, h1, h⟩ := s_call_inv h
  refine me_callSi (As := [.long ((x1).toInt64), .long (0 : Int64), .long (3 : Int64)]) (rest := []) ⟨hx, hb, hml, hown, hts⟩ (c_X6_in h1) (va_cwS 3 hts gX6_silent_X6_in rfl rfl rfl hd_X6_in.2 ⟨(Nat.le_of_ble_eq_true rfl), (Nat.le_of_ble_eq_true rfl)⟩) hK hI hP hS rfl hl.1 rfl (Nat.le_of_ble_eq_true rfl) dX6_silent_6 ⟨Nat.zero_le _, Nat.zero_le _⟩ (fun H locs hP hS => ?_)
  refine lv_if_ne (tgt := 14) hx hb dX6_silent_9 (by decide) (fun q => ?_) (fun q => ?_)
  · rw [if_pos q] at h
    refine lv_aload_n hx hb dX6_silent_14 rfl (lv_at hl 0 rfl) ?_
    refine me_get (ci := 6) (C := RX6) (T := TX6) (N := 22) hx hb hts in_X6_silent_X6 hown hK hP hT.1 rfl 12 (by decide) (hts _ kX6_silent_f117) rfl dX6_silent_15 ?_
    refine lv_bipush (v := (6 : Int32)) hx hb dX6_silent_18 (by decide) ?_
    refine lv_icmp_ne (tgt := 26) hx hb dX6_silent_20 (by decide) (fun q => ?_) (fun q => ?_)
    · rw [if_pos q] at h
      refine lv_aload_n hx hb dX6_silent_26 rfl (lv_at hl 0 rfl) ?_
      refine me_getr (ci := 6) (C := RX6) (T := TX6) (N := 22) hx hb hts in_X6_silent_X6 hown hK hP hT.1 rfl 13 (by decide) (hts _ kX6_silent_f40) rfl dX6_silent_27 ?_
      refine lv_aload_n hx hb dX6_silent_30 rfl (lv_at hl 0 rfl) ?_
      refine me_get (ci := 6) (C := RX6) (T := TX6) (N := 22) hx hb hts in_X6_silent_X6 hown hK hP hT.1 rfl 12 (by decide) (hts _ kX6_silent_f117) rfl dX6_silent_31 ?_
      refine lv_iload_n hx hb dX6_silent_34 rfl (lv_at hl 1 rfl) ?_
      obtain ⟨hi, h⟩ := s_ast_inv h
      refine me_ast hx hb hK hI hP hS hT.2.2.2.2.2.2.2.2.2.2.2.1 hi dX6_silent_35 (fun H locs M35 eM hP hS => ?_)
      replace h := h M35 eM
      refine lv_aload_n hx hb dX6_silent_36 rfl (lv_at hl 0 rfl) ?_
      refine lv_dup hx hb dX6_silent_37 rfl ?_
      refine me_get (ci := 6) (C := RX6) (T := TX6) (N := 22) hx hb hts in_X6_silent_X6 hown hK hP hT.1 rfl 12 (by decide) (hts _ kX6_silent_f117) rfl dX6_silent_38 ?_
      refine lv_iconst (v := (1 : Int32)) hx hb dX6_silent_41 (by decide) ?_
      refine lv_iadd hx hb dX6_silent_42 ?_
      refine me_put (ci := 6) (C := RX6) (T := TX6) (N := 22) hx hb hts in_X6_silent_X6 tyX6_ok nmX6 hown hK hI hP hS hT.1 rfl 12 (by decide) (hts _ kX6_silent_f117) rfl rfl rfl dX6_silent_43 (fun H locs M43 eM hP hS => ?_)
      replace h := s_put_inv h M43 eM
      refine lv_aload_n hx hb dX6_silent_46 rfl (lv_at hl 0 rfl) ?_
      refine me_get (ci := 6) (C := RX6) (T := TX6) (N := 22) hx hb hts in_X6_silent_X6 hown hK hP hT.1 rfl 12 (by decide) (hts _ kX6_silent_f117) rfl dX6_silent_47 ?_
      exact me_iret hx hb hr hlk hP hS h dX6_silent_50
    · rw [if_neg (not_not_intro q)] at h
      refine lv_bipush (v := (-3 : Int32)) hx hb dX6_silent_23 (by decide) ?_
      exact me_iret hx hb hr hlk hP hS h dX6_silent_25
  · rw [if_neg (not_not_intro q)] at h
    refine lv_iconst (v := (-1 : Int32)) hx hb dX6_silent_12 (by decide) ?_
    exact me_iret hx hb hr hlk hP hS h dX6_silent_13
theorem c_X6_silent {l : Launch} {D : va_G} {cI : ClassId} {ad : Nat → Nat} {L : List CDs} {t : Nat} (hT : is_X6 L t) {x1 : Int32} {M M' : Mem} {r : Int32} (h : X6_silent t x1 M = some (r, M')) : me_Met l yX6_silent wsX6_silent rmX6_silent D cI ad L [.ref (ad t), .int x1] (some (.int r)) M M' :=
  me_ofW (by decide) rfl (Nat.le_of_ble_eq_true rfl) (fun p e s m below meth c C0 => w_X6_silent C0 t hT x1 M h)
abbrev rmX6_forget : Room := { frames := 0, cells := 0, slots := 0, locals := 0 }
theorem kX6_forget_f117 : (Cond.fieldLink RX6 117 "LadderOfBowsModel" "silents" "I") ∈ wsX6_forget := List.mem_of_getElem? (i := 1) rfl
theorem in_X6_forget_X6 : ∀ w ∈ wsX60, w ∈ wsX6_forget := by decide +kernel
theorem hd_X6_forget : yX6_forget.cls = RX6 ∧ yX6_forget.cls ≠ "java/lang/invoke/MethodHandle" ∧ yX6_forget.cls ≠ "java/lang/invoke/VarHandle" ∧ (parseMethodDescriptor yX6_forget.desc).map (fun d => d.parameters.length) = some 0 := by decide +kernel
set_option maxRecDepth 100000 in
set_option maxHeartbeats 4000000 in
theorem w_X6_forget {p : Program} {l : Launch} {e : Env} {s : State} {m : MethodId} {args : Array Value} {below : List Frame} {meth : Method} {c : Code} {D : va_G} {cI : ClassId} {ad : Nat → Nat} {L : List CDs} {r : Int32} {M' : Mem} (C0 : me_X p s m args meth c cX6_forget 2 (some .int) wsX6_forget RX6 D cI ad L) (t : Nat) (hT : is_X6 L t) : ∀  (M : Mem), X6_forget t M = some (r, M') → me_W p l e rmX6_forget s m args below meth c D cI ad L (some (.int r)) M' 2 0 [(0, .ref (ad t))] [] M := by
  obtain ⟨hx, hb, hr, hml, hown, hts, hlk, hK, hI⟩ := id C0
  intro M h
  unfold X6_forget at h
  intro H locs ls hP hS hl
  refine lv_aload_n hx hb dX6_forget_0 rfl (lv_at hl 0 rfl) ?_
  refine me_get (ci := 6) (C := RX6) (T := TX6) (N := 22) hx hb hts in_X6_forget_X6 hown hK hP hT.1 rfl 12 (by decide) (hts _ kX6_forget_f117) rfl dX6_forget_1 ?_
  refine lv_topi (fun x1_4 ev => ?_)
  replace h := s_let_inv h x1_4 ev
  refine lv_istore_n (lv' := [(1, .int x1_4), (0, .ref (ad t))]) hx hb dX6_forget_4 rfl hl (by decide) rfl (fun ls hl => ?_)
  refine lv_aload_n hx hb dX6_forget_5 rfl (lv_at hl 1 rfl) ?_
  refine lv_iconst (v := (0 : Int32)) hx hb dX6_forget_6 (by decide) ?_
  refine me_put (ci := 6) (C := RX6) (T := TX6) (N := 22) hx hb hts in_X6_forget_X6 tyX6_ok nmX6 hown hK hI hP hS hT.1 rfl 12 (by decide) (hts _ kX6_forget_f117) rfl rfl rfl dX6_forget_7 (fun H locs M7 eM hP hS => ?_)
  replace h := s_put_inv h M7 eM
  refine lv_iload_n hx hb dX6_forget_10 rfl (lv_at hl 0 rfl) ?_
  exact me_iret hx hb hr hlk hP hS h dX6_forget_11
theorem c_X6_forget {l : Launch} {D : va_G} {cI : ClassId} {ad : Nat → Nat} {L : List CDs} {t : Nat} (hT : is_X6 L t)  {M M' : Mem} {r : Int32} (h : X6_forget t M = some (r, M')) : me_Met l yX6_forget wsX6_forget rmX6_forget D cI ad L [.ref (ad t)] (some (.int r)) M M' :=
  me_ofW (by decide) rfl (Nat.le_of_ble_eq_true rfl) (fun p e s m below meth c C0 => w_X6_forget C0 t hT M h)
abbrev rmX6_areSilent : Room := { frames := 3, cells := 0, slots := 0, locals := 66 }
theorem kX6_areSilent_f117 : (Cond.fieldLink RX6 117 "LadderOfBowsModel" "silents" "I") ∈ wsX6_areSilent := List.mem_of_getElem? (i := 1) rfl
theorem kX6_areSilent_f19 : (Cond.fieldLink RX6 19 "LadderOfBowsModel" "streets" "[I") ∈ wsX6_areSilent := List.mem_of_getElem? (i := 2) rfl
theorem kX6_areSilent_f40 : (Cond.fieldLink RX6 40 "LadderOfBowsModel" "silentIn" "[I") ∈ wsX6_areSilent := List.mem_of_getElem? (i := 3) rfl
theorem in_X6_areSilent_X6 : ∀ w ∈ wsX60, w ∈ wsX6_areSilent := by decide +kernel
theorem hd_X6_areSilent : yX6_areSilent.cls = RX6 ∧ yX6_areSilent.cls ≠ "java/lang/invoke/MethodHandle" ∧ yX6_areSilent.cls ≠ "java/lang/invoke/VarHandle" ∧ (parseMethodDescriptor yX6_areSilent.desc).map (fun d => d.parameters.length) = some 1 := by decide +kernel
set_option maxRecDepth 100000 in
set_option maxHeartbeats 4000000 in
theorem w_X6_areSilent_65 {p : Program} {l : Launch} {e : Env} {s : State} {m : MethodId} {args : Array Value} {below : List Frame} {meth : Method} {c : Code} {D : va_G} {cI : ClassId} {ad : Nat → Nat} {L : List CDs} {r : Int32} {M' : Mem} (C0 : me_X p s m args meth c cX6_areSilent 6 (some .boolean) wsX6_areSilent RX6 D cI ad L) (t : Nat) (hT : is_X6 L t) (x1 : Int32) (x2 : Int32) (x3 : Int32) (x4 : Int32) (k4 : Int32 → Int32 → Mem → Option (Int32 × Mem)) (hk4 : ∀ (x2 : Int32) (x3 : Int32) (M : Mem), k4 x2 x3 M = some (r, M') → me_W p l e rmX6_areSilent s m args below meth c D cI ad L (some (.int r)) M' 6 4 [(0, .ref (ad t)), (1, .int x1), (2, .int x2), (3, .int x3)] [] M) (k15 : Int32 → Int32 → Mem → Option (Int32 × Mem)) (hk15 : ∀ (x2 : Int32) (x4 : Int32) (M : Mem), k15 x2 x4 M = some (r, M') → me_W p l e rmX6_areSilent s m args below meth c D cI ad L (some (.int r)) M' 6 15 [(0, .ref (ad t)), (1, .int x1), (2, .int x2), (3, .int x3), (4, .int x4)] [] M) : ∀ (y0 : Int32) (M : Mem), X6_areSilent_65 t x1 x2 x3 x4 k4 k15 y0 M = some (r, M') → me_W p l e rmX6_areSilent s m args below meth c D cI ad L (some (.int r)) M' 6 65 [(0, .ref (ad t)), (1, .int x1), (2, .int x2), (3, .int x3), (4, .int x4)] [.int y0] M := by
  obtain ⟨hx, hb, hr, hml, hown, hts, hlk, hK, hI⟩ := id C0
  intro y0 M h
  unfold X6_areSilent_65 at h
  intro H locs ls hP hS hl
  refine lv_istore (lv' := [(5, .int y0), (0, .ref (ad t)), (1, .int x1), (2, .int x2), (3, .int x3), (4, .int x4)]) hx hb dX6_areSilent_65 hl (by decide) rfl (fun ls hl => ?_)
  refine lv_iload_n hx hb dX6_areSilent_67 rfl (lv_at hl 3 rfl) ?_
  refine lv_if_eq (tgt := 98) hx hb dX6_areSilent_68 (by decide) (fun q => ?_) (fun q => ?_)
  · rw [if_pos q] at h
    refine lv_iconst (v := (0 : Int32)) hx hb dX6_areSilent_98 (by decide) ?_
    refine lv_istore_n (lv' := [(2, .int (0 : Int32)), (5, .int y0), (0, .ref (ad t)), (1, .int x1), (3, .int x3), (4, .int x4)]) hx hb dX6_areSilent_99 rfl hl (by decide) rfl (fun ls hl => ?_)
    refine lv_iinc (k := 5) (v := (x4 + (1 : Int32))) (lv' := [(4, .int (x4 + (1 : Int32))), (2, .int (0 : Int32)), (5, .int y0), (0, .ref (ad t)), (1, .int x1), (3, .int x3)]) hx hb dX6_areSilent_100 hl rfl rfl (by decide) rfl (fun ls hl => ?_)
    refine lv_goto (tgt := 15) hx hb dX6_areSilent_103 (by decide) ?_
    exact hk15 (0 : Int32) (x4 + (1 : Int32)) M h H locs ls hP hS (lv_sub hl [3, 4, 1, 5, 0] rfl)
  · rw [if_neg q] at h
    refine lv_iload hx hb dX6_areSilent_71 (lv_at hl 0 rfl) ?_
    refine lv_if_eq (tgt := 94) hx hb dX6_areSilent_73 (by decide) (fun q => ?_) (fun q => ?_)
    · rw [if_pos q] at h
      refine lv_iconst (v := (1 : Int32)) hx hb dX6_areSilent_94 (by decide) ?_
      refine lv_goto (tgt := 99) hx hb dX6_areSilent_95 (by decide) ?_
      refine lv_istore_n (lv' := [(2, .int (1 : Int32)), (5, .int y0), (0, .ref (ad t)), (1, .int x1), (3, .int x3), (4, .int x4)]) hx hb dX6_areSilent_99 rfl hl (by decide) rfl (fun ls hl => ?_)
      refine lv_iinc (k := 5) (v := (x4 + (1 : Int32))) (lv' := [(4, .int (x4 + (1 : Int32))), (2, .int (1 : Int32)), (5, .int y0), (0, .ref (ad t)), (1, .int x1), (3, .int x3)]) hx hb dX6_areSilent_100 hl rfl rfl (by decide) rfl (fun ls hl => ?_)
      refine lv_goto (tgt := 15) hx hb dX6_areSilent_103 (by decide) ?_
      exact hk15 (1 : Int32) (x4 + (1 : Int32)) M h H locs ls hP hS (lv_sub hl [3, 4, 1, 5, 0] rfl)
    · rw [if_neg q] at h
      refine lv_aload_n hx hb dX6_areSilent_76 rfl (lv_at hl 1 rfl) ?_
      refine lv_iload_n hx hb dX6_areSilent_77 rfl (lv_at hl 2 rfl) ?_
      refine lv_iload hx hb dX6_areSilent_78 (lv_at hl 5 rfl) ?_
      refine lv_bipush (v := (8 : Int32)) hx hb dX6_areSilent_80 (by decide) ?_
      obtain ⟨hi, h⟩ := s_div_inv h
      refine lv_idiv hx hb dX6_areSilent_82 hi ?_
      refine lv_topi (fun v82 ev => ?_)
      replace h := h v82 ev
      refine lv_iload hx hb dX6_areSilent_83 (lv_at hl 5 rfl) ?_
      refine lv_bipush (v := (8 : Int32)) hx hb dX6_areSilent_85 (by decide) ?_
      obtain ⟨hi, h⟩ := s_rem_inv h
      refine lv_irem hx hb dX6_areSilent_87 hi ?_
      refine lv_topi (fun v87 ev => ?_)
      replace h := h v87 ev
      obtain ⟨v88, M88, h1, h⟩ := s_call_inv h
      refine me_callVi (As := [.int x1, .int v82, .int v87]) (rest := []) ⟨hx, hb, hml, hown, hts⟩ (c_X6_maySpeak hT h1) (cwV 3 hts gX6_areSilent_X6_maySpeak rfl rfl rfl hd_X6_maySpeak ⟨(Nat.le_of_ble_eq_true rfl), (Nat.le_of_ble_eq_true rfl)⟩) hK hI hP hS hT.1 rfl rfl hl.1 rfl (Nat.le_of_ble_eq_true rfl) dX6_areSilent_88 ⟨Nat.zero_le _, Nat.zero_le _⟩ (fun H locs hP hS => ?_)
      refine lv_if_ne (tgt := 98) hx hb dX6_areSilent_91 (by decide) (fun q => ?_) (fun q => ?_)
      · rw [if_pos q] at h
        refine lv_iconst (v := (0 : Int32)) hx hb dX6_areSilent_98 (by decide) ?_
        refine lv_istore_n (lv' := [(2, .int (0 : Int32)), (5, .int y0), (0, .ref (ad t)), (1, .int x1), (3, .int x3), (4, .int x4)]) hx hb dX6_areSilent_99 rfl hl (by decide) rfl (fun ls hl => ?_)
        refine lv_iinc (k := 5) (v := (x4 + (1 : Int32))) (lv' := [(4, .int (x4 + (1 : Int32))), (2, .int (0 : Int32)), (5, .int y0), (0, .ref (ad t)), (1, .int x1), (3, .int x3)]) hx hb dX6_areSilent_100 hl rfl rfl (by decide) rfl (fun ls hl => ?_)
        refine lv_goto (tgt := 15) hx hb dX6_areSilent_103 (by decide) ?_
        exact hk15 (0 : Int32) (x4 + (1 : Int32)) M88 h H locs ls hP hS (lv_sub hl [3, 4, 1, 5, 0] rfl)
      · rw [if_neg (not_not_intro q)] at h
        refine lv_iconst (v := (1 : Int32)) hx hb dX6_areSilent_94 (by decide) ?_
        refine lv_goto (tgt := 99) hx hb dX6_areSilent_95 (by decide) ?_
        refine lv_istore_n (lv' := [(2, .int (1 : Int32)), (5, .int y0), (0, .ref (ad t)), (1, .int x1), (3, .int x3), (4, .int x4)]) hx hb dX6_areSilent_99 rfl hl (by decide) rfl (fun ls hl => ?_)
        refine lv_iinc (k := 5) (v := (x4 + (1 : Int32))) (lv' := [(4, .int (x4 + (1 : Int32))), (2, .int (1 : Int32)), (5, .int y0), (0, .ref (ad t)), (1, .int x1), (3, .int x3)]) hx hb dX6_areSilent_100 hl rfl rfl (by decide) rfl (fun ls hl => ?_)
        refine lv_goto (tgt := 15) hx hb dX6_areSilent_103 (by decide) ?_
        exact hk15 (1 : Int32) (x4 + (1 : Int32)) M88 h H locs ls hP hS (lv_sub hl [3, 4, 1, 5, 0] rfl)
set_option maxRecDepth 100000 in
set_option maxHeartbeats 4000000 in
theorem w_X6_areSilent_15 {p : Program} {l : Launch} {e : Env} {s : State} {m : MethodId} {args : Array Value} {below : List Frame} {meth : Method} {c : Code} {D : va_G} {cI : ClassId} {ad : Nat → Nat} {L : List CDs} {r : Int32} {M' : Mem} (C0 : me_X p s m args meth c cX6_areSilent 6 (some .boolean) wsX6_areSilent RX6 D cI ad L) (t : Nat) (hT : is_X6 L t) (x1 : Int32) (x3 : Int32) (k4 : Int32 → Int32 → Mem → Option (Int32 × Mem)) (hk4 : ∀ (x2 : Int32) (x3 : Int32) (M : Mem), k4 x2 x3 M = some (r, M') → me_W p l e rmX6_areSilent s m args below meth c D cI ad L (some (.int r)) M' 6 4 [(0, .ref (ad t)), (1, .int x1), (2, .int x2), (3, .int x3)] [] M) : ∀ (n : Nat) (x2 : Int32) (x4 : Int32) (M : Mem), X6_areSilent_15 t x1 x3 k4 n x2 x4 M = some (r, M') → me_W p l e rmX6_areSilent s m args below meth c D cI ad L (some (.int r)) M' 6 15 [(0, .ref (ad t)), (1, .int x1), (2, .int x2), (3, .int x3), (4, .int x4)] [] M := by
  obtain ⟨hx, hb, hr, hml, hown, hts, hlk, hK, hI⟩ := id C0
  intro n
  induction n with
  | zero =>
    intro x2 x4 M h
    rw [X6_areSilent_15] at h
    cases h
  | succ n ih =>
    intro x2 x4 M h
    rw [X6_areSilent_15] at h
    intro H locs ls hP hS hl
    refine lv_iload hx hb dX6_areSilent_15 (lv_at hl 4 rfl) ?_
    refine lv_bipush (v := (64 : Int32)) hx hb dX6_areSilent_17 (by decide) ?_
    refine lv_icmp_ge (tgt := 106) hx hb dX6_areSilent_19 (by decide) (fun q => ?_) (fun q => ?_)
    · rw [if_pos q] at h
      refine lv_iinc (k := 3) (v := (x3 + (1 : Int32))) (lv' := [(3, .int (x3 + (1 : Int32))), (0, .ref (ad t)), (1, .int x1), (2, .int x2), (4, .int x4)]) hx hb dX6_areSilent_106 hl rfl rfl (by decide) rfl (fun ls hl => ?_)
      refine lv_goto (tgt := 4) hx hb dX6_areSilent_109 (by decide) ?_
      exact hk4 x2 (x3 + (1 : Int32)) M h H locs ls hP hS (lv_sub hl [1, 2, 3, 0] rfl)
    · rw [if_neg q] at h
      refine lv_aload_n hx hb dX6_areSilent_22 rfl (lv_at hl 0 rfl) ?_
      refine me_getr (ci := 6) (C := RX6) (T := TX6) (N := 22) hx hb hts in_X6_areSilent_X6 hown hK hP hT.1 rfl 4 (by decide) (hts _ kX6_areSilent_f19) rfl dX6_areSilent_23 ?_
      refine lv_iload hx hb dX6_areSilent_26 (lv_at hl 4 rfl) ?_
      refine lv_bipush (v := (8 : Int32)) hx hb dX6_areSilent_28 (by decide) ?_
      obtain ⟨hi, h⟩ := s_div_inv h
      refine lv_idiv hx hb dX6_areSilent_30 hi ?_
      refine lv_topi (fun v30 ev => ?_)
      replace h := h v30 ev
      obtain ⟨hi, h⟩ := s_ald_inv h
      refine me_ald hx hb hK hP hT.2.2.2.2.1 hi dX6_areSilent_31 (fun v31 ev => ?_)
      replace h := h v31 ev
      refine lv_aload_n hx hb dX6_areSilent_32 rfl (lv_at hl 0 rfl) ?_
      refine me_getr (ci := 6) (C := RX6) (T := TX6) (N := 22) hx hb hts in_X6_areSilent_X6 hown hK hP hT.1 rfl 13 (by decide) (hts _ kX6_areSilent_f40) rfl dX6_areSilent_33 ?_
      refine lv_iload_n hx hb dX6_areSilent_36 rfl (lv_at hl 3 rfl) ?_
      obtain ⟨hi, h⟩ := s_ald_inv h
      refine me_ald hx hb hK hP hT.2.2.2.2.2.2.2.2.2.2.2.1 hi dX6_areSilent_37 (fun v37 ev => ?_)
      replace h := h v37 ev
      refine lv_icmp_ne (tgt := 64) hx hb dX6_areSilent_38 (by decide) (fun q => ?_) (fun q => ?_)
      · rw [if_pos q] at h
        refine lv_iconst (v := (0 : Int32)) hx hb dX6_areSilent_64 (by decide) ?_
        exact w_X6_areSilent_65 C0 t hT x1 x2 x3 x4 k4 hk4 (X6_areSilent_15 t x1 x3 k4 n) (fun x2 x4 M h => ih x2 x4 M h) (0 : Int32) M h H locs ls hP hS (lv_sub hl [0, 1, 2, 3, 4] rfl)
      · rw [if_neg (not_not_intro q)] at h
        refine lv_aload_n hx hb dX6_areSilent_41 rfl (lv_at hl 0 rfl) ?_
        refine me_getr (ci := 6) (C := RX6) (T := TX6) (N := 22) hx hb hts in_X6_areSilent_X6 hown hK hP hT.1 rfl 4 (by decide) (hts _ kX6_areSilent_f19) rfl dX6_areSilent_42 ?_
        refine lv_iload hx hb dX6_areSilent_45 (lv_at hl 4 rfl) ?_
        refine lv_bipush (v := (8 : Int32)) hx hb dX6_areSilent_47 (by decide) ?_
        obtain ⟨hi, h⟩ := s_rem_inv h
        refine lv_irem hx hb dX6_areSilent_49 hi ?_
        refine lv_topi (fun v49 ev => ?_)
        replace h := h v49 ev
        obtain ⟨hi, h⟩ := s_ald_inv h
        refine me_ald hx hb hK hP hT.2.2.2.2.1 hi dX6_areSilent_50 (fun v50 ev => ?_)
        replace h := h v50 ev
        refine lv_aload_n hx hb dX6_areSilent_51 rfl (lv_at hl 0 rfl) ?_
        refine me_getr (ci := 6) (C := RX6) (T := TX6) (N := 22) hx hb hts in_X6_areSilent_X6 hown hK hP hT.1 rfl 13 (by decide) (hts _ kX6_areSilent_f40) rfl dX6_areSilent_52 ?_
        refine lv_iload_n hx hb dX6_areSilent_55 rfl (lv_at hl 3 rfl) ?_
        obtain ⟨hi, h⟩ := s_ald_inv h
        refine me_ald hx hb hK hP hT.2.2.2.2.2.2.2.2.2.2.2.1 hi dX6_areSilent_56 (fun v56 ev => ?_)
        replace h := h v56 ev
        refine lv_icmp_ne (tgt := 64) hx hb dX6_areSilent_57 (by decide) (fun q => ?_) (fun q => ?_)
        · rw [if_pos q] at h
          refine lv_iconst (v := (0 : Int32)) hx hb dX6_areSilent_64 (by decide) ?_
          exact w_X6_areSilent_65 C0 t hT x1 x2 x3 x4 k4 hk4 (X6_areSilent_15 t x1 x3 k4 n) (fun x2 x4 M h => ih x2 x4 M h) (0 : Int32) M h H locs ls hP hS (lv_sub hl [0, 1, 2, 3, 4] rfl)
        · rw [if_neg (not_not_intro q)] at h
          refine lv_iconst (v := (1 : Int32)) hx hb dX6_areSilent_60 (by decide) ?_
          refine lv_goto (tgt := 65) hx hb dX6_areSilent_61 (by decide) ?_
          exact w_X6_areSilent_65 C0 t hT x1 x2 x3 x4 k4 hk4 (X6_areSilent_15 t x1 x3 k4 n) (fun x2 x4 M h => ih x2 x4 M h) (1 : Int32) M h H locs ls hP hS (lv_sub hl [0, 1, 2, 3, 4] rfl)
set_option maxRecDepth 100000 in
set_option maxHeartbeats 4000000 in
theorem w_X6_areSilent_4 {p : Program} {l : Launch} {e : Env} {s : State} {m : MethodId} {args : Array Value} {below : List Frame} {meth : Method} {c : Code} {D : va_G} {cI : ClassId} {ad : Nat → Nat} {L : List CDs} {r : Int32} {M' : Mem} (C0 : me_X p s m args meth c cX6_areSilent 6 (some .boolean) wsX6_areSilent RX6 D cI ad L) (t : Nat) (hT : is_X6 L t) (x1 : Int32) : ∀ (n : Nat) (x2 : Int32) (x3 : Int32) (M : Mem), X6_areSilent_4 t x1 n x2 x3 M = some (r, M') → me_W p l e rmX6_areSilent s m args below meth c D cI ad L (some (.int r)) M' 6 4 [(0, .ref (ad t)), (1, .int x1), (2, .int x2), (3, .int x3)] [] M := by
  obtain ⟨hx, hb, hr, hml, hown, hts, hlk, hK, hI⟩ := id C0
  intro n
  induction n with
  | zero =>
    intro x2 x3 M h
    rw [X6_areSilent_4] at h
    cases h
  | succ n ih =>
    intro x2 x3 M h
    rw [X6_areSilent_4] at h
    intro H locs ls hP hS hl
    refine lv_iload_n hx hb dX6_areSilent_4 rfl (lv_at hl 3 rfl) ?_
    refine lv_aload_n hx hb dX6_areSilent_5 rfl (lv_at hl 0 rfl) ?_
    refine me_get (ci := 6) (C := RX6) (T := TX6) (N := 22) hx hb hts in_X6_areSilent_X6 hown hK hP hT.1 rfl 12 (by decide) (hts _ kX6_areSilent_f117) rfl dX6_areSilent_6 ?_
    refine lv_icmp_ge (tgt := 112) hx hb dX6_areSilent_9 (by decide) (fun q => ?_) (fun q => ?_)
    · rw [if_pos q] at h
      refine lv_iload_n hx hb dX6_areSilent_112 rfl (lv_at hl 2 rfl) ?_
      exact me_zret hx hb hr hlk hP hS h dX6_areSilent_113
    · rw [if_neg q] at h
      refine lv_iconst (v := (0 : Int32)) hx hb dX6_areSilent_12 (by decide) ?_
      refine lv_istore (lv' := [(4, .int (0 : Int32)), (0, .ref (ad t)), (1, .int x1), (2, .int x2), (3, .int x3)]) hx hb dX6_areSilent_13 hl (by decide) rfl (fun ls hl => ?_)
      exact w_X6_areSilent_15 C0 t hT x1 x3 (X6_areSilent_4 t x1 n) (fun x2 x3 M h => ih x2 x3 M h) FU x2 (0 : Int32) M h H locs ls hP hS (lv_sub hl [1, 2, 3, 4, 0] rfl)
set_option maxRecDepth 100000 in
set_option maxHeartbeats 4000000 in
theorem w_X6_areSilent {p : Program} {l : Launch} {e : Env} {s : State} {m : MethodId} {args : Array Value} {below : List Frame} {meth : Method} {c : Code} {D : va_G} {cI : ClassId} {ad : Nat → Nat} {L : List CDs} {r : Int32} {M' : Mem} (C0 : me_X p s m args meth c cX6_areSilent 6 (some .boolean) wsX6_areSilent RX6 D cI ad L) (t : Nat) (hT : is_X6 L t) (x1 : Int32) : ∀  (M : Mem), X6_areSilent t x1 M = some (r, M') → me_W p l e rmX6_areSilent s m args below meth c D cI ad L (some (.int r)) M' 6 0 [(0, .ref (ad t)), (1, .int x1)] [] M := by
  obtain ⟨hx, hb, hr, hml, hown, hts, hlk, hK, hI⟩ := id C0
  intro M h
  unfold X6_areSilent at h
  intro H locs ls hP hS hl
  refine lv_iconst (v := (1 : Int32)) hx hb dX6_areSilent_0 (by decide) ?_
  refine lv_istore_n (lv' := [(2, .int (1 : Int32)), (0, .ref (ad t)), (1, .int x1)]) hx hb dX6_areSilent_1 rfl hl (by decide) rfl (fun ls hl => ?_)
  refine lv_iconst (v := (0 : Int32)) hx hb dX6_areSilent_2 (by decide) ?_
  refine lv_istore_n (lv' := [(3, .int (0 : Int32)), (2, .int (1 : Int32)), (0, .ref (ad t)), (1, .int x1)]) hx hb dX6_areSilent_3 rfl hl (by decide) rfl (fun ls hl => ?_)
  exact w_X6_areSilent_4 C0 t hT x1 FU (1 : Int32) (0 : Int32) M h H locs ls hP hS (lv_sub hl [2, 3, 1, 0] rfl)
theorem c_X6_areSilent {l : Launch} {D : va_G} {cI : ClassId} {ad : Nat → Nat} {L : List CDs} {t : Nat} (hT : is_X6 L t) {x1 : Int32} {M M' : Mem} {r : Int32} (h : X6_areSilent t x1 M = some (r, M')) : me_Met l yX6_areSilent wsX6_areSilent rmX6_areSilent D cI ad L [.ref (ad t), .int x1] (some (.int r)) M M' :=
  me_ofW (by decide) rfl (Nat.le_of_ble_eq_true rfl) (fun p e s m below meth c C0 => w_X6_areSilent C0 t hT x1 M h)
