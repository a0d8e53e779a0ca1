/-! ===== the constructors of the leaves ===== -/
theorem at_ap {L0 r : List CDs} {o : CDs} : (L0 ++ o :: r)[L0.length]? = some o := by rw [List.getElem?_append_right (Nat.le_refl _), Nat.sub_self]; rfl
theorem set_ap {L0 r : List CDs} {o x : CDs} : (L0 ++ o :: r).set L0.length x = L0 ++ x :: r := by rw [List.set_append_right _ _ (Nat.le_refl _), Nat.sub_self]; rfl
abbrev rmX0_init : Room := { frames := 1, cells := 3, slots := 120, locals := 20 }
theorem in_X0_init : ∀ w ∈ wsX00, w ∈ wsX0_init := by decide +kernel
set_option maxRecDepth 100000 in
set_option maxHeartbeats 4000000 in
theorem c_X0_init {l : Launch} {D : va_G} {cI : ClassId} {b : Nat} {L0 : List CDs} {M : Mem} (hz : ∀ c, L0.length ≤ c → c < L0.length + 4 → M c = fun _ => 0) : mk_Met l yX0_init wsX0_init rmX0_init D cI b [.ref (bd b L0.length)] none (L0 ++ [.inr (0, [some none, some none, some none, none])]) (L0 ++ [.inr (0, [some (some (L0.length + 1)), some (some (L0.length + 2)), some (some (L0.length + 3)), none]), .inl 40, .inl 40, .inl 40]) M M 3 120 := by
  refine Met.ofW (cc := cX0_init) (maxL := 1) (ret := none) (by decide) rfl ?_
  intro p e s m args below meth c s₁ B hml hv
  obtain ⟨rfl, hsz0, hP, hK⟩ := hv
  have hx := B.exec
  have hb := B.bytes
  have hr := B.returns
  have hts := atoms_spec (ws := wsX0_init) B.pre
  have hown : s.vm.findClass RX0 = some m.cls := findClass_of_methodNamed B.named
  have hlocks := B.notSynchronized
  have hin : meth.name = "<init>" := (name_of_methodNamed B.named B.method).1
  simp only [List.length_append, List.length_cons, List.length_nil] at hsz0
  have hbs : b ≤ s.heap.size := by omega
  have hS : va_S (bA b) s.heap s.heap [] := va_S.rf
  have hl := lv_entry ([.ref (bd b L0.length)]) (n := 1) (Nat.le_of_ble_eq_true rfl)
  rw [lg_entry_eq]
  generalize (lg_sl ([.ref (bd b L0.length)]) ++ List.replicate (1 - (lg_sl ([.ref (bd b L0.length)])).length) Slot.unset).toArray = ls at hl ⊢
  have hl : lv_has ls 1 [(0, .ref (bd b L0.length))] := hl
  refine lv_aload_n hx hb dX0_init_0 rfl (lv_at hl 0 rfl) ?_
  refine W.objInit hx hb hown (hts (.methodLink RX0 3 objectInit) (List.mem_of_getElem? (i := 1) rfl)) (hts (.instanceMethod objectInit) (List.mem_of_getElem? (i := 2) rfl)) (hts _ (List.mem_of_getElem? (i := 3) rfl)) rfl (by rw [hml]; exact hl.1) rfl dX0_init_1 (Nat.le_of_ble_eq_true rfl) (Nat.le_of_ble_eq_true rfl) ?_
  refine W.eq (g2 := F0 m 4 ls []) rfl ?_
  refine lv_aload_n hx hb dX0_init_4 rfl (lv_at hl 0 rfl) ?_
  refine lv_bipush (v := 40) hx hb dX0_init_5 (by decide) ?_
  refine me_sz hP hS hbs (by simp only [List.length_append, List.length_cons, List.length_nil]; omega) (fun hsz => ?_)
  refine me_newa (k := L0.length + 1) (N := 40) (L1 := L0 ++ [.inr (0, [some none, some none, some none, none]), .inl 40]) hx hb (hts _ (List.mem_of_getElem? (i := 4) rfl)) hK hP hS hsz (by simp only [List.length_append, List.length_cons, List.length_nil]) (hz _ (by omega) (by omega)) (by decide) (by decide) (by rw [List.append_assoc]; rfl) (by decide) (Nat.le_of_ble_eq_true rfl) (Nat.le_of_ble_eq_true rfl) dX0_init_7 (fun H hP hS => ?_)
  refine me_putF (ci := 0) (C := RX0) (T := TX0) (N := 4) (q := L0.length + 1) (ty := (.array .int)) hx hb hts in_X0_init tyX0_ok nmX0 hown hK bd_inj bd_A hP hS at_ap rfl 0 (by decide) (hts _ (List.mem_of_getElem? (i := 5) rfl)) rfl hin rfl rfl rfl rfl (Nat.lt_of_lt_of_le (Nat.lt_succ_self _) (Nat.le_of_ble_eq_true rfl)) dX0_init_9 (fun H locs hP hS => ?_)
  rw [set_ap] at hP
  have hP : va_P D vwCl (me_ws cI (bd b) (L0 ++ [.inr (0, [some (some (L0.length + 1)), some none, some none, none]), .inl 40]) M) H := hP
  refine lv_aload_n hx hb dX0_init_12 rfl (lv_at hl 0 rfl) ?_
  refine lv_bipush (v := 40) hx hb dX0_init_13 (by decide) ?_
  refine me_sz hP hS hbs (by simp only [List.length_append, List.length_cons, List.length_nil]; omega) (fun hsz => ?_)
  refine me_newa (k := L0.length + 2) (N := 40) (L1 := L0 ++ [.inr (0, [some (some (L0.length + 1)), some none, some none, none]), .inl 40, .inl 40]) hx hb (hts _ (List.mem_of_getElem? (i := 4) rfl)) hK hP hS hsz (by simp only [List.length_append, List.length_cons, List.length_nil]) (hz _ (by omega) (by omega)) (by decide) (by decide) (by rw [List.append_assoc]; rfl) (by decide) (Nat.le_of_ble_eq_true rfl) (Nat.le_of_ble_eq_true rfl) dX0_init_15 (fun H hP hS => ?_)
  refine me_putF (ci := 0) (C := RX0) (T := TX0) (N := 4) (q := L0.length + 2) (ty := (.array .int)) hx hb hts in_X0_init tyX0_ok nmX0 hown hK bd_inj bd_A hP hS at_ap rfl 1 (by decide) (hts _ (List.mem_of_getElem? (i := 6) rfl)) rfl hin rfl rfl rfl rfl (Nat.lt_of_lt_of_le (Nat.lt_succ_self _) (Nat.le_of_ble_eq_true rfl)) dX0_init_17 (fun H locs hP hS => ?_)
  rw [set_ap] at hP
  have hP : va_P D vwCl (me_ws cI (bd b) (L0 ++ [.inr (0, [some (some (L0.length + 1)), some (some (L0.length + 2)), some none, none]), .inl 40, .inl 40]) M) H := hP
  refine lv_aload_n hx hb dX0_init_20 rfl (lv_at hl 0 rfl) ?_
  refine lv_bipush (v := 40) hx hb dX0_init_21 (by decide) ?_
  refine me_sz hP hS hbs (by simp only [List.length_append, List.length_cons, List.length_nil]; omega) (fun hsz => ?_)
  refine me_newa (k := L0.length + 3) (N := 40) (L1 := L0 ++ [.inr (0, [some (some (L0.length + 1)), some (some (L0.length + 2)), some none, none]), .inl 40, .inl 40, .inl 40]) hx hb (hts _ (List.mem_of_getElem? (i := 4) rfl)) hK hP hS hsz (by simp only [List.length_append, List.length_cons, List.length_nil]) (hz _ (by omega) (by omega)) (by decide) (by decide) (by rw [List.append_assoc]; rfl) (by decide) (Nat.le_of_ble_eq_true rfl) (Nat.le_of_ble_eq_true rfl) dX0_init_23 (fun H hP hS => ?_)
  refine me_putF (ci := 0) (C := RX0) (T := TX0) (N := 4) (q := L0.length + 3) (ty := (.array .int)) hx hb hts in_X0_init tyX0_ok nmX0 hown hK bd_inj bd_A hP hS at_ap rfl 2 (by decide) (hts _ (List.mem_of_getElem? (i := 7) rfl)) rfl hin rfl rfl rfl rfl (Nat.lt_of_lt_of_le (Nat.lt_succ_self _) (Nat.le_of_ble_eq_true rfl)) dX0_init_25 (fun H locs hP hS => ?_)
  rw [set_ap] at hP
  have hP : va_P D vwCl (me_ws cI (bd b) (L0 ++ [.inr (0, [some (some (L0.length + 1)), some (some (L0.length + 2)), some (some (L0.length + 3)), none]), .inl 40, .inl 40, .inl 40]) M) H := hP
  refine W.widen (k := 3) (n := 120) (Nat.le_of_ble_eq_true rfl) (Nat.le_of_ble_eq_true rfl) ?_
  exact W.vret hx hb hr (fun t ht hW => ⟨⟨rfl, by rw [ht]; exact hP⟩, hS.F ht⟩) hS.2.2 dX0_init_28
abbrev rmX1_init : Room := { frames := 1, cells := 1, slots := 200, locals := 20 }
theorem in_X1_init : ∀ w ∈ wsX10, w ∈ wsX1_init := by decide +kernel
set_option maxRecDepth 100000 in
set_option maxHeartbeats 4000000 in
theorem c_X1_init {l : Launch} {D : va_G} {cI : ClassId} {b : Nat} {L0 : List CDs} {M : Mem} (hz : ∀ c, L0.length ≤ c → c < L0.length + 2 → M c = fun _ => 0) : mk_Met l yX1_init wsX1_init rmX1_init D cI b [.ref (bd b L0.length)] none (L0 ++ [.inr (1, [some none, none])]) (L0 ++ [.inr (1, [some (some (L0.length + 1)), none]), .inl 200]) M M 1 200 := by
  refine Met.ofW (cc := cX1_init) (maxL := 1) (ret := none) (by decide) rfl ?_
  intro p e s m args below meth c s₁ B hml hv
  obtain ⟨rfl, hsz0, hP, hK⟩ := hv
  have hx := B.exec
  have hb := B.bytes
  have hr := B.returns
  have hts := atoms_spec (ws := wsX1_init) B.pre
  have hown : s.vm.findClass RX1 = some m.cls := findClass_of_methodNamed B.named
  have hlocks := B.notSynchronized
  have hin : meth.name = "<init>" := (name_of_methodNamed B.named B.method).1
  simp only [List.length_append, List.length_cons, List.length_nil] at hsz0
  have hbs : b ≤ s.heap.size := by omega
  have hS : va_S (bA b) s.heap s.heap [] := va_S.rf
  have hl := lv_entry ([.ref (bd b L0.length)]) (n := 1) (Nat.le_of_ble_eq_true rfl)
  rw [lg_entry_eq]
  generalize (lg_sl ([.ref (bd b L0.length)]) ++ List.replicate (1 - (lg_sl ([.ref (bd b L0.length)])).length) Slot.unset).toArray = ls at hl ⊢
  have hl : lv_has ls 1 [(0, .ref (bd b L0.length))] := hl
  refine lv_aload_n hx hb dX1_init_0 rfl (lv_at hl 0 rfl) ?_
  refine W.objInit hx hb hown (hts (.methodLink RX1 3 objectInit) (List.mem_of_getElem? (i := 1) rfl)) (hts (.instanceMethod objectInit) (List.mem_of_getElem? (i := 2) rfl)) (hts _ (List.mem_of_getElem? (i := 3) rfl)) rfl (by rw [hml]; exact hl.1) rfl dX1_init_1 (Nat.le_of_ble_eq_true rfl) (Nat.le_of_ble_eq_true rfl) ?_
  refine W.eq (g2 := F0 m 4 ls []) rfl ?_
  refine lv_aload_n hx hb dX1_init_4 rfl (lv_at hl 0 rfl) ?_
  refine lv_sipush (v := 200) hx hb dX1_init_5 (by decide) ?_
  refine me_sz hP hS hbs (by simp only [List.length_append, List.length_cons, List.length_nil]; omega) (fun hsz => ?_)
  refine me_newa (k := L0.length + 1) (N := 200) (L1 := L0 ++ [.inr (1, [some none, none]), .inl 200]) hx hb (hts _ (List.mem_of_getElem? (i := 4) rfl)) hK hP hS hsz (by simp only [List.length_append, List.length_cons, List.length_nil]) (hz _ (by omega) (by omega)) (by decide) (by decide) (by rw [List.append_assoc]; rfl) (by decide) (Nat.le_of_ble_eq_true rfl) (Nat.le_of_ble_eq_true rfl) dX1_init_8 (fun H hP hS => ?_)
  refine me_putF (ci := 1) (C := RX1) (T := TX1) (N := 2) (q := L0.length + 1) (ty := (.array .int)) hx hb hts in_X1_init tyX1_ok nmX1 hown hK bd_inj bd_A hP hS at_ap rfl 0 (by decide) (hts _ (List.mem_of_getElem? (i := 5) rfl)) rfl hin rfl rfl rfl rfl (Nat.lt_of_lt_of_le (Nat.lt_succ_self _) (Nat.le_of_ble_eq_true rfl)) dX1_init_10 (fun H locs hP hS => ?_)
  rw [set_ap] at hP
  have hP : va_P D vwCl (me_ws cI (bd b) (L0 ++ [.inr (1, [some (some (L0.length + 1)), none]), .inl 200]) M) H := hP
  refine W.widen (k := 1) (n := 200) (Nat.le_of_ble_eq_true rfl) (Nat.le_of_ble_eq_true rfl) ?_
  exact W.vret hx hb hr (fun t ht hW => ⟨⟨rfl, by rw [ht]; exact hP⟩, hS.F ht⟩) hS.2.2 dX1_init_13
abbrev rmX2_init : Room := { frames := 1, cells := 2, slots := 135, locals := 20 }
theorem in_X2_init : ∀ w ∈ wsX20, w ∈ wsX2_init := by decide +kernel
set_option maxRecDepth 100000 in
set_option maxHeartbeats 4000000 in
theorem c_X2_init {l : Launch} {D : va_G} {cI : ClassId} {b : Nat} {L0 : List CDs} {M : Mem} (hz : ∀ c, L0.length ≤ c → c < L0.length + 3 → M c = fun _ => 0) : mk_Met l yX2_init wsX2_init rmX2_init D cI b [.ref (bd b L0.length)] none (L0 ++ [.inr (2, [some none, some none, none])]) (L0 ++ [.inr (2, [some (some (L0.length + 1)), some (some (L0.length + 2)), none]), .inl 7, .inl 128]) M M 2 135 := by
  refine Met.ofW (cc := cX2_init) (maxL := 1) (ret := none) (by decide) rfl ?_
  intro p e s m args below meth c s₁ B hml hv
  obtain ⟨rfl, hsz0, hP, hK⟩ := hv
  have hx := B.exec
  have hb := B.bytes
  have hr := B.returns
  have hts := atoms_spec (ws := wsX2_init) B.pre
  have hown : s.vm.findClass RX2 = some m.cls := findClass_of_methodNamed B.named
  have hlocks := B.notSynchronized
  have hin : meth.name = "<init>" := (name_of_methodNamed B.named B.method).1
  simp only [List.length_append, List.length_cons, List.length_nil] at hsz0
  have hbs : b ≤ s.heap.size := by omega
  have hS : va_S (bA b) s.heap s.heap [] := va_S.rf
  have hl := lv_entry ([.ref (bd b L0.length)]) (n := 1) (Nat.le_of_ble_eq_true rfl)
  rw [lg_entry_eq]
  generalize (lg_sl ([.ref (bd b L0.length)]) ++ List.replicate (1 - (lg_sl ([.ref (bd b L0.length)])).length) Slot.unset).toArray = ls at hl ⊢
  have hl : lv_has ls 1 [(0, .ref (bd b L0.length))] := hl
  refine lv_aload_n hx hb dX2_init_0 rfl (lv_at hl 0 rfl) ?_
  refine W.objInit hx hb hown (hts (.methodLink RX2 3 objectInit) (List.mem_of_getElem? (i := 1) rfl)) (hts (.instanceMethod objectInit) (List.mem_of_getElem? (i := 2) rfl)) (hts _ (List.mem_of_getElem? (i := 3) rfl)) rfl (by rw [hml]; exact hl.1) rfl dX2_init_1 (Nat.le_of_ble_eq_true rfl) (Nat.le_of_ble_eq_true rfl) ?_
  refine W.eq (g2 := F0 m 4 ls []) rfl ?_
  refine lv_aload_n hx hb dX2_init_4 rfl (lv_at hl 0 rfl) ?_
  refine lv_bipush (v := 7) hx hb dX2_init_5 (by decide) ?_
  refine me_sz hP hS hbs (by simp only [List.length_append, List.length_cons, List.length_nil]; omega) (fun hsz => ?_)
  refine me_newa (k := L0.length + 1) (N := 7) (L1 := L0 ++ [.inr (2, [some none, some none, none]), .inl 7]) hx hb (hts _ (List.mem_of_getElem? (i := 4) rfl)) hK hP hS hsz (by simp only [List.length_append, List.length_cons, List.length_nil]) (hz _ (by omega) (by omega)) (by decide) (by decide) (by rw [List.append_assoc]; rfl) (by decide) (Nat.le_of_ble_eq_true rfl) (Nat.le_of_ble_eq_true rfl) dX2_init_7 (fun H hP hS => ?_)
  refine me_putF (ci := 2) (C := RX2) (T := TX2) (N := 3) (q := L0.length + 1) (ty := (.array .int)) hx hb hts in_X2_init tyX2_ok nmX2 hown hK bd_inj bd_A hP hS at_ap rfl 0 (by decide) (hts _ (List.mem_of_getElem? (i := 5) rfl)) rfl hin rfl rfl rfl rfl (Nat.lt_of_lt_of_le (Nat.lt_succ_self _) (Nat.le_of_ble_eq_true rfl)) dX2_init_9 (fun H locs hP hS => ?_)
  rw [set_ap] at hP
  have hP : va_P D vwCl (me_ws cI (bd b) (L0 ++ [.inr (2, [some (some (L0.length + 1)), some none, none]), .inl 7]) M) H := hP
  refine lv_aload_n hx hb dX2_init_12 rfl (lv_at hl 0 rfl) ?_
  refine lv_sipush (v := 128) hx hb dX2_init_13 (by decide) ?_
  refine me_sz hP hS hbs (by simp only [List.length_append, List.length_cons, List.length_nil]; omega) (fun hsz => ?_)
  refine me_newa (k := L0.length + 2) (N := 128) (L1 := L0 ++ [.inr (2, [some (some (L0.length + 1)), some none, none]), .inl 7, .inl 128]) hx hb (hts _ (List.mem_of_getElem? (i := 4) rfl)) hK hP hS hsz (by simp only [List.length_append, List.length_cons, List.length_nil]) (hz _ (by omega) (by omega)) (by decide) (by decide) (by rw [List.append_assoc]; rfl) (by decide) (Nat.le_of_ble_eq_true rfl) (Nat.le_of_ble_eq_true rfl) dX2_init_16 (fun H hP hS => ?_)
  refine me_putF (ci := 2) (C := RX2) (T := TX2) (N := 3) (q := L0.length + 2) (ty := (.array .int)) hx hb hts in_X2_init tyX2_ok nmX2 hown hK bd_inj bd_A hP hS at_ap rfl 1 (by decide) (hts _ (List.mem_of_getElem? (i := 6) rfl)) rfl hin rfl rfl rfl rfl (Nat.lt_of_lt_of_le (Nat.lt_succ_self _) (Nat.le_of_ble_eq_true rfl)) dX2_init_18 (fun H locs hP hS => ?_)
  rw [set_ap] at hP
  have hP : va_P D vwCl (me_ws cI (bd b) (L0 ++ [.inr (2, [some (some (L0.length + 1)), some (some (L0.length + 2)), none]), .inl 7, .inl 128]) M) H := hP
  refine W.widen (k := 2) (n := 135) (Nat.le_of_ble_eq_true rfl) (Nat.le_of_ble_eq_true rfl) ?_
  exact W.vret hx hb hr (fun t ht hW => ⟨⟨rfl, by rw [ht]; exact hP⟩, hS.F ht⟩) hS.2.2 dX2_init_21
abbrev rmX3_init : Room := { frames := 1, cells := 1, slots := 3, locals := 20 }
theorem in_X3_init : ∀ w ∈ wsX30, w ∈ wsX3_init := by decide +kernel
set_option maxRecDepth 100000 in
set_option maxHeartbeats 4000000 in
theorem c_X3_init {l : Launch} {D : va_G} {cI : ClassId} {b : Nat} {L0 : List CDs} {M : Mem} (hz : ∀ c, L0.length ≤ c → c < L0.length + 2 → M c = fun _ => 0) : mk_Met l yX3_init wsX3_init rmX3_init D cI b [.ref (bd b L0.length)] none (L0 ++ [.inr (3, [some none])]) (L0 ++ [.inr (3, [some (some (L0.length + 1))]), .inl 3]) M M 1 3 := by
  refine Met.ofW (cc := cX3_init) (maxL := 1) (ret := none) (by decide) rfl ?_
  intro p e s m args below meth c s₁ B hml hv
  obtain ⟨rfl, hsz0, hP, hK⟩ := hv
  have hx := B.exec
  have hb := B.bytes
  have hr := B.returns
  have hts := atoms_spec (ws := wsX3_init) B.pre
  have hown : s.vm.findClass RX3 = some m.cls := findClass_of_methodNamed B.named
  have hlocks := B.notSynchronized
  have hin : meth.name = "<init>" := (name_of_methodNamed B.named B.method).1
  simp only [List.length_append, List.length_cons, List.length_nil] at hsz0
  have hbs : b ≤ s.heap.size := by omega
  have hS : va_S (bA b) s.heap s.heap [] := va_S.rf
  have hl := lv_entry ([.ref (bd b L0.length)]) (n := 1) (Nat.le_of_ble_eq_true rfl)
  rw [lg_entry_eq]
  generalize (lg_sl ([.ref (bd b L0.length)]) ++ List.replicate (1 - (lg_sl ([.ref (bd b L0.length)])).length) Slot.unset).toArray = ls at hl ⊢
  have hl : lv_has ls 1 [(0, .ref (bd b L0.length))] := hl
  refine lv_aload_n hx hb dX3_init_0 rfl (lv_at hl 0 rfl) ?_
  refine W.objInit hx hb hown (hts (.methodLink RX3 3 objectInit) (List.mem_of_getElem? (i := 1) rfl)) (hts (.instanceMethod objectInit) (List.mem_of_getElem? (i := 2) rfl)) (hts _ (List.mem_of_getElem? (i := 3) rfl)) rfl (by rw [hml]; exact hl.1) rfl dX3_init_1 (Nat.le_of_ble_eq_true rfl) (Nat.le_of_ble_eq_true rfl) ?_
  refine W.eq (g2 := F0 m 4 ls []) rfl ?_
  refine lv_aload_n hx hb dX3_init_4 rfl (lv_at hl 0 rfl) ?_
  refine lv_iconst (v := 3) hx hb dX3_init_5 (by decide) ?_
  refine me_sz hP hS hbs (by simp only [List.length_append, List.length_cons, List.length_nil]; omega) (fun hsz => ?_)
  refine me_newa (k := L0.length + 1) (N := 3) (L1 := L0 ++ [.inr (3, [some none]), .inl 3]) hx hb (hts _ (List.mem_of_getElem? (i := 4) rfl)) hK hP hS hsz (by simp only [List.length_append, List.length_cons, List.length_nil]) (hz _ (by omega) (by omega)) (by decide) (by decide) (by rw [List.append_assoc]; rfl) (by decide) (Nat.le_of_ble_eq_true rfl) (Nat.le_of_ble_eq_true rfl) dX3_init_6 (fun H hP hS => ?_)
  refine me_putF (ci := 3) (C := RX3) (T := TX3) (N := 1) (q := L0.length + 1) (ty := (.array .int)) hx hb hts in_X3_init tyX3_ok nmX3 hown hK bd_inj bd_A hP hS at_ap rfl 0 (by decide) (hts _ (List.mem_of_getElem? (i := 5) rfl)) rfl hin rfl rfl rfl rfl (Nat.lt_of_lt_of_le (Nat.lt_succ_self _) (Nat.le_of_ble_eq_true rfl)) dX3_init_8 (fun H locs hP hS => ?_)
  rw [set_ap] at hP
  have hP : va_P D vwCl (me_ws cI (bd b) (L0 ++ [.inr (3, [some (some (L0.length + 1))]), .inl 3]) M) H := hP
  refine W.widen (k := 1) (n := 3) (Nat.le_of_ble_eq_true rfl) (Nat.le_of_ble_eq_true rfl) ?_
  exact W.vret hx hb hr (fun t ht hW => ⟨⟨rfl, by rw [ht]; exact hP⟩, hS.F ht⟩) hS.2.2 dX3_init_11
abbrev rmX4_init : Room := { frames := 1, cells := 4, slots := 88, locals := 20 }
theorem in_X4_init : ∀ w ∈ wsX40, w ∈ wsX4_init := by decide +kernel
set_option maxRecDepth 100000 in
set_option maxHeartbeats 4000000 in
theorem c_X4_init {l : Launch} {D : va_G} {cI : ClassId} {b : Nat} {L0 : List CDs} {M : Mem} (hz : ∀ c, L0.length ≤ c → c < L0.length + 5 → M c = fun _ => 0) : mk_Met l yX4_init wsX4_init rmX4_init D cI b [.ref (bd b L0.length)] none (L0 ++ [.inr (4, [none, none, none, none, some none, some none, some none, some none])]) (L0 ++ [.inr (4, [none, none, none, none, some (some (L0.length + 1)), some (some (L0.length + 2)), some (some (L0.length + 3)), some (some (L0.length + 4))]), .inl 8, .inl 8, .inl 64, .inl 8]) M M 4 88 := by
  refine Met.ofW (cc := cX4_init) (maxL := 1) (ret := none) (by decide) rfl ?_
  intro p e s m args below meth c s₁ B hml hv
  obtain ⟨rfl, hsz0, hP, hK⟩ := hv
  have hx := B.exec
  have hb := B.bytes
  have hr := B.returns
  have hts := atoms_spec (ws := wsX4_init) B.pre
  have hown : s.vm.findClass RX4 = some m.cls := findClass_of_methodNamed B.named
  have hlocks := B.notSynchronized
  have hin : meth.name = "<init>" := (name_of_methodNamed B.named B.method).1
  simp only [List.length_append, List.length_cons, List.length_nil] at hsz0
  have hbs : b ≤ s.heap.size := by omega
  have hS : va_S (bA b) s.heap s.heap [] := va_S.rf
  have hl := lv_entry ([.ref (bd b L0.length)]) (n := 1) (Nat.le_of_ble_eq_true rfl)
  rw [lg_entry_eq]
  generalize (lg_sl ([.ref (bd b L0.length)]) ++ List.replicate (1 - (lg_sl ([.ref (bd b L0.length)])).length) Slot.unset).toArray = ls at hl ⊢
  have hl : lv_has ls 1 [(0, .ref (bd b L0.length))] := hl
  refine lv_aload_n hx hb dX4_init_0 rfl (lv_at hl 0 rfl) ?_
  refine W.objInit hx hb hown (hts (.methodLink RX4 3 objectInit) (List.mem_of_getElem? (i := 1) rfl)) (hts (.instanceMethod objectInit) (List.mem_of_getElem? (i := 2) rfl)) (hts _ (List.mem_of_getElem? (i := 3) rfl)) rfl (by rw [hml]; exact hl.1) rfl dX4_init_1 (Nat.le_of_ble_eq_true rfl) (Nat.le_of_ble_eq_true rfl) ?_
  refine W.eq (g2 := F0 m 4 ls []) rfl ?_
  refine lv_aload_n hx hb dX4_init_4 rfl (lv_at hl 0 rfl) ?_
  refine lv_bipush (v := 8) hx hb dX4_init_5 (by decide) ?_
  refine me_sz hP hS hbs (by simp only [List.length_append, List.length_cons, List.length_nil]; omega) (fun hsz => ?_)
  refine me_newa (k := L0.length + 1) (N := 8) (L1 := L0 ++ [.inr (4, [none, none, none, none, some none, some none, some none, some none]), .inl 8]) hx hb (hts _ (List.mem_of_getElem? (i := 4) rfl)) hK hP hS hsz (by simp only [List.length_append, List.length_cons, List.length_nil]) (hz _ (by omega) (by omega)) (by decide) (by decide) (by rw [List.append_assoc]; rfl) (by decide) (Nat.le_of_ble_eq_true rfl) (Nat.le_of_ble_eq_true rfl) dX4_init_7 (fun H hP hS => ?_)
  refine me_putF (ci := 4) (C := RX4) (T := TX4) (N := 8) (q := L0.length + 1) (ty := (.array .int)) hx hb hts in_X4_init tyX4_ok nmX4 hown hK bd_inj bd_A hP hS at_ap rfl 4 (by decide) (hts _ (List.mem_of_getElem? (i := 5) rfl)) rfl hin rfl rfl rfl rfl (Nat.lt_of_lt_of_le (Nat.lt_succ_self _) (Nat.le_of_ble_eq_true rfl)) dX4_init_9 (fun H locs hP hS => ?_)
  rw [set_ap] at hP
  have hP : va_P D vwCl (me_ws cI (bd b) (L0 ++ [.inr (4, [none, none, none, none, some (some (L0.length + 1)), some none, some none, some none]), .inl 8]) M) H := hP
  refine lv_aload_n hx hb dX4_init_12 rfl (lv_at hl 0 rfl) ?_
  refine lv_bipush (v := 8) hx hb dX4_init_13 (by decide) ?_
  refine me_sz hP hS hbs (by simp only [List.length_append, List.length_cons, List.length_nil]; omega) (fun hsz => ?_)
  refine me_newa (k := L0.length + 2) (N := 8) (L1 := L0 ++ [.inr (4, [none, none, none, none, some (some (L0.length + 1)), some none, some none, some none]), .inl 8, .inl 8]) hx hb (hts _ (List.mem_of_getElem? (i := 4) rfl)) hK hP hS hsz (by simp only [List.length_append, List.length_cons, List.length_nil]) (hz _ (by omega) (by omega)) (by decide) (by decide) (by rw [List.append_assoc]; rfl) (by decide) (Nat.le_of_ble_eq_true rfl) (Nat.le_of_ble_eq_true rfl) dX4_init_15 (fun H hP hS => ?_)
  refine me_putF (ci := 4) (C := RX4) (T := TX4) (N := 8) (q := L0.length + 2) (ty := (.array .int)) hx hb hts in_X4_init tyX4_ok nmX4 hown hK bd_inj bd_A hP hS at_ap rfl 5 (by decide) (hts _ (List.mem_of_getElem? (i := 6) rfl)) rfl hin rfl rfl rfl rfl (Nat.lt_of_lt_of_le (Nat.lt_succ_self _) (Nat.le_of_ble_eq_true rfl)) dX4_init_17 (fun H locs hP hS => ?_)
  rw [set_ap] at hP
  have hP : va_P D vwCl (me_ws cI (bd b) (L0 ++ [.inr (4, [none, none, none, none, some (some (L0.length + 1)), some (some (L0.length + 2)), some none, some none]), .inl 8, .inl 8]) M) H := hP
  refine lv_aload_n hx hb dX4_init_20 rfl (lv_at hl 0 rfl) ?_
  refine lv_bipush (v := 64) hx hb dX4_init_21 (by decide) ?_
  refine me_sz hP hS hbs (by simp only [List.length_append, List.length_cons, List.length_nil]; omega) (fun hsz => ?_)
  refine me_newa (k := L0.length + 3) (N := 64) (L1 := L0 ++ [.inr (4, [none, none, none, none, some (some (L0.length + 1)), some (some (L0.length + 2)), some none, some none]), .inl 8, .inl 8, .inl 64]) hx hb (hts _ (List.mem_of_getElem? (i := 4) rfl)) hK hP hS hsz (by simp only [List.length_append, List.length_cons, List.length_nil]) (hz _ (by omega) (by omega)) (by decide) (by decide) (by rw [List.append_assoc]; rfl) (by decide) (Nat.le_of_ble_eq_true rfl) (Nat.le_of_ble_eq_true rfl) dX4_init_23 (fun H hP hS => ?_)
  refine me_putF (ci := 4) (C := RX4) (T := TX4) (N := 8) (q := L0.length + 3) (ty := (.array .int)) hx hb hts in_X4_init tyX4_ok nmX4 hown hK bd_inj bd_A hP hS at_ap rfl 6 (by decide) (hts _ (List.mem_of_getElem? (i := 7) rfl)) rfl hin rfl rfl rfl rfl (Nat.lt_of_lt_of_le (Nat.lt_succ_self _) (Nat.le_of_ble_eq_true rfl)) dX4_init_25 (fun H locs hP hS => ?_)
  rw [set_ap] at hP
  have hP : va_P D vwCl (me_ws cI (bd b) (L0 ++ [.inr (4, [none, none, none, none, some (some (L0.length + 1)), some (some (L0.length + 2)), some (some (L0.length + 3)), some none]), .inl 8, .inl 8, .inl 64]) M) H := hP
  refine lv_aload_n hx hb dX4_init_28 rfl (lv_at hl 0 rfl) ?_
  refine lv_bipush (v := 8) hx hb dX4_init_29 (by decide) ?_
  refine me_sz hP hS hbs (by simp only [List.length_append, List.length_cons, List.length_nil]; omega) (fun hsz => ?_)
  refine me_newa (k := L0.length + 4) (N := 8) (L1 := L0 ++ [.inr (4, [none, none, none, none, some (some (L0.length + 1)), some (some (L0.length + 2)), some (some (L0.length + 3)), some none]), .inl 8, .inl 8, .inl 64, .inl 8]) hx hb (hts _ (List.mem_of_getElem? (i := 4) rfl)) hK hP hS hsz (by simp only [List.length_append, List.length_cons, List.length_nil]) (hz _ (by omega) (by omega)) (by decide) (by decide) (by rw [List.append_assoc]; rfl) (by decide) (Nat.le_of_ble_eq_true rfl) (Nat.le_of_ble_eq_true rfl) dX4_init_31 (fun H hP hS => ?_)
  refine me_putF (ci := 4) (C := RX4) (T := TX4) (N := 8) (q := L0.length + 4) (ty := (.array .int)) hx hb hts in_X4_init tyX4_ok nmX4 hown hK bd_inj bd_A hP hS at_ap rfl 7 (by decide) (hts _ (List.mem_of_getElem? (i := 8) rfl)) rfl hin rfl rfl rfl rfl (Nat.lt_of_lt_of_le (Nat.lt_succ_self _) (Nat.le_of_ble_eq_true rfl)) dX4_init_33 (fun H locs hP hS => ?_)
  rw [set_ap] at hP
  have hP : va_P D vwCl (me_ws cI (bd b) (L0 ++ [.inr (4, [none, none, none, none, some (some (L0.length + 1)), some (some (L0.length + 2)), some (some (L0.length + 3)), some (some (L0.length + 4))]), .inl 8, .inl 8, .inl 64, .inl 8]) M) H := hP
  refine W.widen (k := 4) (n := 88) (Nat.le_of_ble_eq_true rfl) (Nat.le_of_ble_eq_true rfl) ?_
  exact W.vret hx hb hr (fun t ht hW => ⟨⟨rfl, by rw [ht]; exact hP⟩, hS.F ht⟩) hS.2.2 dX4_init_36
