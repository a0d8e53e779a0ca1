/-! ===== the reference, made ===== -/
def X6_made (t : Nat) : Mem → Option (Unit × Mem) := fun M =>
  s_call (X6_noTown t (0 : Int32) M) fun _ M =>
  s_call (X6_addPerson t (0 : Int32) (0 : Int32) (0 : Int32) M) fun _ M =>
  s_call (X6_addPerson t (0 : Int32) (0 : Int32) (1 : Int32) M) fun _ M =>
  s_call (X6_addPerson t (0 : Int32) (1 : Int32) (0 : Int32) M) fun _ M =>
  s_call (X6_addPerson t (0 : Int32) (2 : Int32) (1 : Int32) M) fun _ M =>
  s_call (X6_addPerson t (0 : Int32) (3 : Int32) (0 : Int32) M) fun _ M =>
  s_ast M (t + 5) 128 (1 : Int32) (1 : Int32) fun M =>
  s_ast M (t + 5) 128 (10 : Int32) (2 : Int32) fun M =>
  s_ast M (t + 5) 128 (16 : Int32) (1 : Int32) fun M =>
  s_ast M (t + 5) 128 (28 : Int32) (3 : Int32) fun M =>
  s_ast M (t + 5) 128 (35 : Int32) (1 : Int32) fun M =>
  s_call (X6_begin t M) fun _ M =>
  some ((), M)
theorem at_apk {L0 r : List CDs} {i : Nat} : (L0 ++ r)[L0.length + i]? = r[i]? := by rw [List.getElem?_append_right (by omega), Nat.add_sub_cancel_left]
def L_X6 (N : Nat) : List CDs := [.inr (6, [none, some (some (N + 1)), some (some (N + 2)), some (some (N + 3)), some (some (N + 4)), some (some (N + 5)), some (some (N + 6)), some (some (N + 7)), some (some (N + 8)), some (some (N + 9)), some (some (N + 10)), none, none, some (some (N + 11)), none, some (some (N + 12)), some (some (N + 13)), some (some (N + 14)), some (some (N + 15)), some (some (N + 16)), some (some (N + 17)), some (some (N + 18))]), .inl 200, .inl 2, .inl 16, .inl 16, .inl 128, .inl 2, .inl 3, .inl 120, .inl 120, .inl 120, .inl 6, .inl 3, .inl 192, .inl 3, .inl 3, .inl 3, .inl 8, .inl 128]
theorem is_X6_made {L0 r : List CDs} : is_X6 (L0 ++ (L_X6 L0.length ++ r)) L0.length := ⟨at_ap, by rw [at_apk]; rfl, by rw [at_apk]; rfl, by rw [at_apk]; rfl, by rw [at_apk]; rfl, by rw [at_apk]; rfl, by rw [at_apk]; rfl, by rw [at_apk]; rfl, by rw [at_apk]; rfl, by rw [at_apk]; rfl, by rw [at_apk]; rfl, by rw [at_apk]; rfl, by rw [at_apk]; rfl, by rw [at_apk]; rfl, by rw [at_apk]; rfl, by rw [at_apk]; rfl, by rw [at_apk]; rfl, by rw [at_apk]; rfl, by rw [at_apk]; rfl⟩
abbrev rmX6_init : Room := { frames := 8, cells := 18, slots := 1073, locals := 300 }
theorem in_X6_init : ∀ w ∈ wsX60, w ∈ wsX6_init := by decide +kernel
set_option maxRecDepth 100000 in
set_option maxHeartbeats 4000000 in
theorem c_X6_init {l : Launch} {D : va_G} {cI : ClassId} {b : Nat} {L0 : List CDs} {M M' : Mem} (hz : ∀ c, L0.length ≤ c → c < L0.length + 19 → M c = fun _ => 0) (h : X6_made L0.length M = some ((), M')) : mk_Met l yX6_init wsX6_init rmX6_init D cI b [.ref (bd b L0.length)] none (L0 ++ [.inr (6, [none, some none, some none, some none, some none, some none, some none, some none, some none, some none, some none, none, none, some none, none, some none, some none, some none, some none, some none, some none, some none])]) (L0 ++ L_X6 L0.length) M M' 18 1073 := by
  have h6 : is_X6 (L0 ++ L_X6 L0.length) L0.length := by
    have := is_X6_made (L0 := L0) (r := [])
    rw [List.append_nil] at this
    exact this
  refine Met.ofW (cc := cX6_init) (maxL := 1) (ret := none) (by decide) rfl ?_
  intro p e s m args below meth c s₁ B hml hv
  obtain ⟨rfl, hsz0, hP, hK⟩ := hv
  have hx := B.exec
  have hb := B.bytes
  have hr := B.returns
  have hts := atoms_spec (ws := wsX6_init) B.pre
  have hown : s.vm.findClass RX6 = some m.cls := findClass_of_methodNamed B.named
  have hlocks := B.notSynchronized
  have hin : meth.name = "<init>" := (name_of_methodNamed B.named B.method).1
  simp only [List.length_append, List.length_cons, List.length_nil] at hsz0
  have hbs : b ≤ s.heap.size := by omega
  have hS : va_S (bA b) s.heap s.heap [] := va_S.rf
  have hl := lv_entry ([.ref (bd b L0.length)]) (n := 1) (Nat.le_of_ble_eq_true rfl)
  rw [lg_entry_eq]
  generalize (lg_sl ([.ref (bd b L0.length)]) ++ List.replicate (1 - (lg_sl ([.ref (bd b L0.length)])).length) Slot.unset).toArray = ls at hl ⊢
  have hl : lv_has ls 1 [(0, .ref (bd b L0.length))] := hl
  refine lv_aload_n hx hb dX6_init_0 rfl (lv_at hl 0 rfl) ?_
  refine W.objInit hx hb hown (hts (.methodLink RX6 1 objectInit) (List.mem_of_getElem? (i := 1) rfl)) (hts (.instanceMethod objectInit) (List.mem_of_getElem? (i := 2) rfl)) (hts _ (List.mem_of_getElem? (i := 3) rfl)) rfl (by rw [hml]; exact hl.1) rfl dX6_init_1 (Nat.le_of_ble_eq_true rfl) (Nat.le_of_ble_eq_true rfl) ?_
  refine W.eq (g2 := F0 m 4 ls []) rfl ?_
  refine lv_aload_n hx hb dX6_init_4 rfl (lv_at hl 0 rfl) ?_
  refine lv_sipush (v := 200) hx hb dX6_init_5 (by decide) ?_
  refine me_sz hP hS hbs (by simp only [List.length_append, List.length_cons, List.length_nil]; omega) (fun hsz => ?_)
  refine me_newa (k := L0.length + 1) (N := 200) (L1 := L0 ++ [.inr (6, [none, some none, some none, some none, some none, some none, some none, some none, some none, some none, some none, none, none, some none, none, some none, some none, some none, some none, some none, some none, some none]), .inl 200]) hx hb (hts _ (List.mem_of_getElem? (i := 4) rfl)) hK hP hS hsz (by simp only [List.length_append, List.length_cons, List.length_nil]) (hz _ (by omega) (by omega)) (by decide) (by decide) (by rw [List.append_assoc]; rfl) (by decide) (Nat.le_of_ble_eq_true rfl) (Nat.le_of_ble_eq_true rfl) dX6_init_8 (fun H hP hS => ?_)
  refine me_putF (ci := 6) (C := RX6) (T := TX6) (N := 22) (q := L0.length + 1) (ty := (.array .int)) hx hb hts in_X6_init tyX6_ok nmX6 hown hK bd_inj bd_A hP hS at_ap rfl 1 (by decide) (hts _ (List.mem_of_getElem? (i := 5) rfl)) rfl hin rfl rfl rfl rfl (Nat.lt_of_lt_of_le (Nat.lt_succ_self _) (Nat.le_of_ble_eq_true rfl)) dX6_init_10 (fun H locs hP hS => ?_)
  rw [set_ap] at hP
  have hP : va_P D vwCl (me_ws cI (bd b) (L0 ++ [.inr (6, [none, some (some (L0.length + 1)), some none, some none, some none, some none, some none, some none, some none, some none, some none, none, none, some none, none, some none, some none, some none, some none, some none, some none, some none]), .inl 200]) M) H := hP
  refine lv_aload_n hx hb dX6_init_13 rfl (lv_at hl 0 rfl) ?_
  refine lv_iconst (v := 2) hx hb dX6_init_14 (by decide) ?_
  refine me_sz hP hS hbs (by simp only [List.length_append, List.length_cons, List.length_nil]; omega) (fun hsz => ?_)
  refine me_newa (k := L0.length + 2) (N := 2) (L1 := L0 ++ [.inr (6, [none, some (some (L0.length + 1)), some none, some none, some none, some none, some none, some none, some none, some none, some none, none, none, some none, none, some none, some none, some none, some none, some none, some none, some none]), .inl 200, .inl 2]) hx hb (hts _ (List.mem_of_getElem? (i := 4) rfl)) hK hP hS hsz (by simp only [List.length_append, List.length_cons, List.length_nil]) (hz _ (by omega) (by omega)) (by decide) (by decide) (by rw [List.append_assoc]; rfl) (by decide) (Nat.le_of_ble_eq_true rfl) (Nat.le_of_ble_eq_true rfl) dX6_init_15 (fun H hP hS => ?_)
  refine me_putF (ci := 6) (C := RX6) (T := TX6) (N := 22) (q := L0.length + 2) (ty := (.array .int)) hx hb hts in_X6_init tyX6_ok nmX6 hown hK bd_inj bd_A hP hS at_ap rfl 2 (by decide) (hts _ (List.mem_of_getElem? (i := 6) rfl)) rfl hin rfl rfl rfl rfl (Nat.lt_of_lt_of_le (Nat.lt_succ_self _) (Nat.le_of_ble_eq_true rfl)) dX6_init_17 (fun H locs hP hS => ?_)
  rw [set_ap] at hP
  have hP : va_P D vwCl (me_ws cI (bd b) (L0 ++ [.inr (6, [none, some (some (L0.length + 1)), some (some (L0.length + 2)), some none, some none, some none, some none, some none, some none, some none, some none, none, none, some none, none, some none, some none, some none, some none, some none, some none, some none]), .inl 200, .inl 2]) M) H := hP
  refine lv_aload_n hx hb dX6_init_20 rfl (lv_at hl 0 rfl) ?_
  refine lv_bipush (v := 16) hx hb dX6_init_21 (by decide) ?_
  refine me_sz hP hS hbs (by simp only [List.length_append, List.length_cons, List.length_nil]; omega) (fun hsz => ?_)
  refine me_newa (k := L0.length + 3) (N := 16) (L1 := L0 ++ [.inr (6, [none, some (some (L0.length + 1)), some (some (L0.length + 2)), some none, some none, some none, some none, some none, some none, some none, some none, none, none, some none, none, some none, some none, some none, some none, some none, some none, some none]), .inl 200, .inl 2, .inl 16]) hx hb (hts _ (List.mem_of_getElem? (i := 4) rfl)) hK hP hS hsz (by simp only [List.length_append, List.length_cons, List.length_nil]) (hz _ (by omega) (by omega)) (by decide) (by decide) (by rw [List.append_assoc]; rfl) (by decide) (Nat.le_of_ble_eq_true rfl) (Nat.le_of_ble_eq_true rfl) dX6_init_23 (fun H hP hS => ?_)
  refine me_putF (ci := 6) (C := RX6) (T := TX6) (N := 22) (q := L0.length + 3) (ty := (.array .int)) hx hb hts in_X6_init tyX6_ok nmX6 hown hK bd_inj bd_A hP hS at_ap rfl 3 (by decide) (hts _ (List.mem_of_getElem? (i := 7) rfl)) rfl hin rfl rfl rfl rfl (Nat.lt_of_lt_of_le (Nat.lt_succ_self _) (Nat.le_of_ble_eq_true rfl)) dX6_init_25 (fun H locs hP hS => ?_)
  rw [set_ap] at hP
  have hP : va_P D vwCl (me_ws cI (bd b) (L0 ++ [.inr (6, [none, some (some (L0.length + 1)), some (some (L0.length + 2)), some (some (L0.length + 3)), some none, some none, some none, some none, some none, some none, some none, none, none, some none, none, some none, some none, some none, some none, some none, some none, some none]), .inl 200, .inl 2, .inl 16]) M) H := hP
  refine lv_aload_n hx hb dX6_init_28 rfl (lv_at hl 0 rfl) ?_
  refine lv_bipush (v := 16) hx hb dX6_init_29 (by decide) ?_
  refine me_sz hP hS hbs (by simp only [List.length_append, List.length_cons, List.length_nil]; omega) (fun hsz => ?_)
  refine me_newa (k := L0.length + 4) (N := 16) (L1 := L0 ++ [.inr (6, [none, some (some (L0.length + 1)), some (some (L0.length + 2)), some (some (L0.length + 3)), some none, some none, some none, some none, some none, some none, some none, none, none, some none, none, some none, some none, some none, some none, some none, some none, some none]), .inl 200, .inl 2, .inl 16, .inl 16]) hx hb (hts _ (List.mem_of_getElem? (i := 4) rfl)) hK hP hS hsz (by simp only [List.length_append, List.length_cons, List.length_nil]) (hz _ (by omega) (by omega)) (by decide) (by decide) (by rw [List.append_assoc]; rfl) (by decide) (Nat.le_of_ble_eq_true rfl) (Nat.le_of_ble_eq_true rfl) dX6_init_31 (fun H hP hS => ?_)
  refine me_putF (ci := 6) (C := RX6) (T := TX6) (N := 22) (q := L0.length + 4) (ty := (.array .int)) hx hb hts in_X6_init tyX6_ok nmX6 hown hK bd_inj bd_A hP hS at_ap rfl 4 (by decide) (hts _ (List.mem_of_getElem? (i := 8) rfl)) rfl hin rfl rfl rfl rfl (Nat.lt_of_lt_of_le (Nat.lt_succ_self _) (Nat.le_of_ble_eq_true rfl)) dX6_init_33 (fun H locs hP hS => ?_)
  rw [set_ap] at hP
  have hP : va_P D vwCl (me_ws cI (bd b) (L0 ++ [.inr (6, [none, some (some (L0.length + 1)), some (some (L0.length + 2)), some (some (L0.length + 3)), some (some (L0.length + 4)), some none, some none, some none, some none, some none, some none, none, none, some none, none, some none, some none, some none, some none, some none, some none, some none]), .inl 200, .inl 2, .inl 16, .inl 16]) M) H := hP
  refine lv_aload_n hx hb dX6_init_36 rfl (lv_at hl 0 rfl) ?_
  refine lv_sipush (v := 128) hx hb dX6_init_37 (by decide) ?_
  refine me_sz hP hS hbs (by simp only [List.length_append, List.length_cons, List.length_nil]; omega) (fun hsz => ?_)
  refine me_newa (k := L0.length + 5) (N := 128) (L1 := L0 ++ [.inr (6, [none, some (some (L0.length + 1)), some (some (L0.length + 2)), some (some (L0.length + 3)), some (some (L0.length + 4)), some none, some none, some none, some none, some none, some none, none, none, some none, none, some none, some none, some none, some none, some none, some none, some none]), .inl 200, .inl 2, .inl 16, .inl 16, .inl 128]) hx hb (hts _ (List.mem_of_getElem? (i := 4) rfl)) hK hP hS hsz (by simp only [List.length_append, List.length_cons, List.length_nil]) (hz _ (by omega) (by omega)) (by decide) (by decide) (by rw [List.append_assoc]; rfl) (by decide) (Nat.le_of_ble_eq_true rfl) (Nat.le_of_ble_eq_true rfl) dX6_init_40 (fun H hP hS => ?_)
  refine me_putF (ci := 6) (C := RX6) (T := TX6) (N := 22) (q := L0.length + 5) (ty := (.array .int)) hx hb hts in_X6_init tyX6_ok nmX6 hown hK bd_inj bd_A hP hS at_ap rfl 5 (by decide) (hts _ (List.mem_of_getElem? (i := 9) rfl)) rfl hin rfl rfl rfl rfl (Nat.lt_of_lt_of_le (Nat.lt_succ_self _) (Nat.le_of_ble_eq_true rfl)) dX6_init_42 (fun H locs hP hS => ?_)
  rw [set_ap] at hP
  have hP : va_P D vwCl (me_ws cI (bd b) (L0 ++ [.inr (6, [none, some (some (L0.length + 1)), some (some (L0.length + 2)), some (some (L0.length + 3)), some (some (L0.length + 4)), some (some (L0.length + 5)), some none, some none, some none, some none, some none, none, none, some none, none, some none, some none, some none, some none, some none, some none, some none]), .inl 200, .inl 2, .inl 16, .inl 16, .inl 128]) M) H := hP
  refine lv_aload_n hx hb dX6_init_45 rfl (lv_at hl 0 rfl) ?_
  refine lv_iconst (v := 2) hx hb dX6_init_46 (by decide) ?_
  refine me_sz hP hS hbs (by simp only [List.length_append, List.length_cons, List.length_nil]; omega) (fun hsz => ?_)
  refine me_newa (k := L0.length + 6) (N := 2) (L1 := L0 ++ [.inr (6, [none, some (some (L0.length + 1)), some (some (L0.length + 2)), some (some (L0.length + 3)), some (some (L0.length + 4)), some (some (L0.length + 5)), some none, some none, some none, some none, some none, none, none, some none, none, some none, some none, some none, some none, some none, some none, some none]), .inl 200, .inl 2, .inl 16, .inl 16, .inl 128, .inl 2]) hx hb (hts _ (List.mem_of_getElem? (i := 4) rfl)) hK hP hS hsz (by simp only [List.length_append, List.length_cons, List.length_nil]) (hz _ (by omega) (by omega)) (by decide) (by decide) (by rw [List.append_assoc]; rfl) (by decide) (Nat.le_of_ble_eq_true rfl) (Nat.le_of_ble_eq_true rfl) dX6_init_47 (fun H hP hS => ?_)
  refine me_putF (ci := 6) (C := RX6) (T := TX6) (N := 22) (q := L0.length + 6) (ty := (.array .int)) hx hb hts in_X6_init tyX6_ok nmX6 hown hK bd_inj bd_A hP hS at_ap rfl 6 (by decide) (hts _ (List.mem_of_getElem? (i := 10) rfl)) rfl hin rfl rfl rfl rfl (Nat.lt_of_lt_of_le (Nat.lt_succ_self _) (Nat.le_of_ble_eq_true rfl)) dX6_init_49 (fun H locs hP hS => ?_)
  rw [set_ap] at hP
  have hP : va_P D vwCl (me_ws cI (bd b) (L0 ++ [.inr (6, [none, some (some (L0.length + 1)), some (some (L0.length + 2)), some (some (L0.length + 3)), some (some (L0.length + 4)), some (some (L0.length + 5)), some (some (L0.length + 6)), some none, some none, some none, some none, none, none, some none, none, some none, some none, some none, some none, some none, some none, some none]), .inl 200, .inl 2, .inl 16, .inl 16, .inl 128, .inl 2]) M) H := hP
  refine lv_aload_n hx hb dX6_init_52 rfl (lv_at hl 0 rfl) ?_
  refine lv_iconst (v := 3) hx hb dX6_init_53 (by decide) ?_
  refine me_sz hP hS hbs (by simp only [List.length_append, List.length_cons, List.length_nil]; omega) (fun hsz => ?_)
  refine me_newa (k := L0.length + 7) (N := 3) (L1 := L0 ++ [.inr (6, [none, some (some (L0.length + 1)), some (some (L0.length + 2)), some (some (L0.length + 3)), some (some (L0.length + 4)), some (some (L0.length + 5)), some (some (L0.length + 6)), some none, some none, some none, some none, none, none, some none, none, some none, some none, some none, some none, some none, some none, some none]), .inl 200, .inl 2, .inl 16, .inl 16, .inl 128, .inl 2, .inl 3]) hx hb (hts _ (List.mem_of_getElem? (i := 4) rfl)) hK hP hS hsz (by simp only [List.length_append, List.length_cons, List.length_nil]) (hz _ (by omega) (by omega)) (by decide) (by decide) (by rw [List.append_assoc]; rfl) (by decide) (Nat.le_of_ble_eq_true rfl) (Nat.le_of_ble_eq_true rfl) dX6_init_54 (fun H hP hS => ?_)
  refine me_putF (ci := 6) (C := RX6) (T := TX6) (N := 22) (q := L0.length + 7) (ty := (.array .int)) hx hb hts in_X6_init tyX6_ok nmX6 hown hK bd_inj bd_A hP hS at_ap rfl 7 (by decide) (hts _ (List.mem_of_getElem? (i := 11) rfl)) rfl hin rfl rfl rfl rfl (Nat.lt_of_lt_of_le (Nat.lt_succ_self _) (Nat.le_of_ble_eq_true rfl)) dX6_init_56 (fun H locs hP hS => ?_)
  rw [set_ap] at hP
  have hP : va_P D vwCl (me_ws cI (bd b) (L0 ++ [.inr (6, [none, some (some (L0.length + 1)), some (some (L0.length + 2)), some (some (L0.length + 3)), some (some (L0.length + 4)), some (some (L0.length + 5)), some (some (L0.length + 6)), some (some (L0.length + 7)), some none, some none, some none, none, none, some none, none, some none, some none, some none, some none, some none, some none, some none]), .inl 200, .inl 2, .inl 16, .inl 16, .inl 128, .inl 2, .inl 3]) M) H := hP
  refine lv_aload_n hx hb dX6_init_59 rfl (lv_at hl 0 rfl) ?_
  refine lv_bipush (v := 120) hx hb dX6_init_60 (by decide) ?_
  refine me_sz hP hS hbs (by simp only [List.length_append, List.length_cons, List.length_nil]; omega) (fun hsz => ?_)
  refine me_newa (k := L0.length + 8) (N := 120) (L1 := L0 ++ [.inr (6, [none, some (some (L0.length + 1)), some (some (L0.length + 2)), some (some (L0.length + 3)), some (some (L0.length + 4)), some (some (L0.length + 5)), some (some (L0.length + 6)), some (some (L0.length + 7)), some none, some none, some none, none, none, some none, none, some none, some none, some none, some none, some none, some none, some none]), .inl 200, .inl 2, .inl 16, .inl 16, .inl 128, .inl 2, .inl 3, .inl 120]) hx hb (hts _ (List.mem_of_getElem? (i := 4) rfl)) hK hP hS hsz (by simp only [List.length_append, List.length_cons, List.length_nil]) (hz _ (by omega) (by omega)) (by decide) (by decide) (by rw [List.append_assoc]; rfl) (by decide) (Nat.le_of_ble_eq_true rfl) (Nat.le_of_ble_eq_true rfl) dX6_init_62 (fun H hP hS => ?_)
  refine me_putF (ci := 6) (C := RX6) (T := TX6) (N := 22) (q := L0.length + 8) (ty := (.array .int)) hx hb hts in_X6_init tyX6_ok nmX6 hown hK bd_inj bd_A hP hS at_ap rfl 8 (by decide) (hts _ (List.mem_of_getElem? (i := 12) rfl)) rfl hin rfl rfl rfl rfl (Nat.lt_of_lt_of_le (Nat.lt_succ_self _) (Nat.le_of_ble_eq_true rfl)) dX6_init_64 (fun H locs hP hS => ?_)
  rw [set_ap] at hP
  have hP : va_P D vwCl (me_ws cI (bd b) (L0 ++ [.inr (6, [none, some (some (L0.length + 1)), some (some (L0.length + 2)), some (some (L0.length + 3)), some (some (L0.length + 4)), some (some (L0.length + 5)), some (some (L0.length + 6)), some (some (L0.length + 7)), some (some (L0.length + 8)), some none, some none, none, none, some none, none, some none, some none, some none, some none, some none, some none, some none]), .inl 200, .inl 2, .inl 16, .inl 16, .inl 128, .inl 2, .inl 3, .inl 120]) M) H := hP
  refine lv_aload_n hx hb dX6_init_67 rfl (lv_at hl 0 rfl) ?_
  refine lv_bipush (v := 120) hx hb dX6_init_68 (by decide) ?_
  refine me_sz hP hS hbs (by simp only [List.length_append, List.length_cons, List.length_nil]; omega) (fun hsz => ?_)
  refine me_newa (k := L0.length + 9) (N := 120) (L1 := L0 ++ [.inr (6, [none, some (some (L0.length + 1)), some (some (L0.length + 2)), some (some (L0.length + 3)), some (some (L0.length + 4)), some (some (L0.length + 5)), some (some (L0.length + 6)), some (some (L0.length + 7)), some (some (L0.length + 8)), some none, some none, none, none, some none, none, some none, some none, some none, some none, some none, some none, some none]), .inl 200, .inl 2, .inl 16, .inl 16, .inl 128, .inl 2, .inl 3, .inl 120, .inl 120]) hx hb (hts _ (List.mem_of_getElem? (i := 4) rfl)) hK hP hS hsz (by simp only [List.length_append, List.length_cons, List.length_nil]) (hz _ (by omega) (by omega)) (by decide) (by decide) (by rw [List.append_assoc]; rfl) (by decide) (Nat.le_of_ble_eq_true rfl) (Nat.le_of_ble_eq_true rfl) dX6_init_70 (fun H hP hS => ?_)
  refine me_putF (ci := 6) (C := RX6) (T := TX6) (N := 22) (q := L0.length + 9) (ty := (.array .int)) hx hb hts in_X6_init tyX6_ok nmX6 hown hK bd_inj bd_A hP hS at_ap rfl 9 (by decide) (hts _ (List.mem_of_getElem? (i := 13) rfl)) rfl hin rfl rfl rfl rfl (Nat.lt_of_lt_of_le (Nat.lt_succ_self _) (Nat.le_of_ble_eq_true rfl)) dX6_init_72 (fun H locs hP hS => ?_)
  rw [set_ap] at hP
  have hP : va_P D vwCl (me_ws cI (bd b) (L0 ++ [.inr (6, [none, some (some (L0.length + 1)), some (some (L0.length + 2)), some (some (L0.length + 3)), some (some (L0.length + 4)), some (some (L0.length + 5)), some (some (L0.length + 6)), some (some (L0.length + 7)), some (some (L0.length + 8)), some (some (L0.length + 9)), some none, none, none, some none, none, some none, some none, some none, some none, some none, some none, some none]), .inl 200, .inl 2, .inl 16, .inl 16, .inl 128, .inl 2, .inl 3, .inl 120, .inl 120]) M) H := hP
  refine lv_aload_n hx hb dX6_init_75 rfl (lv_at hl 0 rfl) ?_
  refine lv_bipush (v := 120) hx hb dX6_init_76 (by decide) ?_
  refine me_sz hP hS hbs (by simp only [List.length_append, List.length_cons, List.length_nil]; omega) (fun hsz => ?_)
  refine me_newa (k := L0.length + 10) (N := 120) (L1 := L0 ++ [.inr (6, [none, some (some (L0.length + 1)), some (some (L0.length + 2)), some (some (L0.length + 3)), some (some (L0.length + 4)), some (some (L0.length + 5)), some (some (L0.length + 6)), some (some (L0.length + 7)), some (some (L0.length + 8)), some (some (L0.length + 9)), some none, none, none, some none, none, some none, some none, some none, some none, some none, some none, some none]), .inl 200, .inl 2, .inl 16, .inl 16, .inl 128, .inl 2, .inl 3, .inl 120, .inl 120, .inl 120]) hx hb (hts _ (List.mem_of_getElem? (i := 4) rfl)) hK hP hS hsz (by simp only [List.length_append, List.length_cons, List.length_nil]) (hz _ (by omega) (by omega)) (by decide) (by decide) (by rw [List.append_assoc]; rfl) (by decide) (Nat.le_of_ble_eq_true rfl) (Nat.le_of_ble_eq_true rfl) dX6_init_78 (fun H hP hS => ?_)
  refine me_putF (ci := 6) (C := RX6) (T := TX6) (N := 22) (q := L0.length + 10) (ty := (.array .int)) hx hb hts in_X6_init tyX6_ok nmX6 hown hK bd_inj bd_A hP hS at_ap rfl 10 (by decide) (hts _ (List.mem_of_getElem? (i := 14) rfl)) rfl hin rfl rfl rfl rfl (Nat.lt_of_lt_of_le (Nat.lt_succ_self _) (Nat.le_of_ble_eq_true rfl)) dX6_init_80 (fun H locs hP hS => ?_)
  rw [set_ap] at hP
  have hP : va_P D vwCl (me_ws cI (bd b) (L0 ++ [.inr (6, [none, some (some (L0.length + 1)), some (some (L0.length + 2)), some (some (L0.length + 3)), some (some (L0.length + 4)), some (some (L0.length + 5)), some (some (L0.length + 6)), some (some (L0.length + 7)), some (some (L0.length + 8)), some (some (L0.length + 9)), some (some (L0.length + 10)), none, none, some none, none, some none, some none, some none, some none, some none, some none, some none]), .inl 200, .inl 2, .inl 16, .inl 16, .inl 128, .inl 2, .inl 3, .inl 120, .inl 120, .inl 120]) M) H := hP
  refine lv_aload_n hx hb dX6_init_83 rfl (lv_at hl 0 rfl) ?_
  refine lv_bipush (v := 6) hx hb dX6_init_84 (by decide) ?_
  refine me_sz hP hS hbs (by simp only [List.length_append, List.length_cons, List.length_nil]; omega) (fun hsz => ?_)
  refine me_newa (k := L0.length + 11) (N := 6) (L1 := L0 ++ [.inr (6, [none, some (some (L0.length + 1)), some (some (L0.length + 2)), some (some (L0.length + 3)), some (some (L0.length + 4)), some (some (L0.length + 5)), some (some (L0.length + 6)), some (some (L0.length + 7)), some (some (L0.length + 8)), some (some (L0.length + 9)), some (some (L0.length + 10)), none, none, some none, none, some none, some none, some none, some none, some none, some none, some none]), .inl 200, .inl 2, .inl 16, .inl 16, .inl 128, .inl 2, .inl 3, .inl 120, .inl 120, .inl 120, .inl 6]) hx hb (hts _ (List.mem_of_getElem? (i := 4) rfl)) hK hP hS hsz (by simp only [List.length_append, List.length_cons, List.length_nil]) (hz _ (by omega) (by omega)) (by decide) (by decide) (by rw [List.append_assoc]; rfl) (by decide) (Nat.le_of_ble_eq_true rfl) (Nat.le_of_ble_eq_true rfl) dX6_init_86 (fun H hP hS => ?_)
  refine me_putF (ci := 6) (C := RX6) (T := TX6) (N := 22) (q := L0.length + 11) (ty := (.array .int)) hx hb hts in_X6_init tyX6_ok nmX6 hown hK bd_inj bd_A hP hS at_ap rfl 13 (by decide) (hts _ (List.mem_of_getElem? (i := 15) rfl)) rfl hin rfl rfl rfl rfl (Nat.lt_of_lt_of_le (Nat.lt_succ_self _) (Nat.le_of_ble_eq_true rfl)) dX6_init_88 (fun H locs hP hS => ?_)
  rw [set_ap] at hP
  have hP : va_P D vwCl (me_ws cI (bd b) (L0 ++ [.inr (6, [none, some (some (L0.length + 1)), some (some (L0.length + 2)), some (some (L0.length + 3)), some (some (L0.length + 4)), some (some (L0.length + 5)), some (some (L0.length + 6)), some (some (L0.length + 7)), some (some (L0.length + 8)), some (some (L0.length + 9)), some (some (L0.length + 10)), none, none, some (some (L0.length + 11)), none, some none, some none, some none, some none, some none, some none, some none]), .inl 200, .inl 2, .inl 16, .inl 16, .inl 128, .inl 2, .inl 3, .inl 120, .inl 120, .inl 120, .inl 6]) M) H := hP
  refine lv_aload_n hx hb dX6_init_91 rfl (lv_at hl 0 rfl) ?_
  refine lv_iconst (v := 3) hx hb dX6_init_92 (by decide) ?_
  refine me_sz hP hS hbs (by simp only [List.length_append, List.length_cons, List.length_nil]; omega) (fun hsz => ?_)
  refine me_newa (k := L0.length + 12) (N := 3) (L1 := L0 ++ [.inr (6, [none, some (some (L0.length + 1)), some (some (L0.length + 2)), some (some (L0.length + 3)), some (some (L0.length + 4)), some (some (L0.length + 5)), some (some (L0.length + 6)), some (some (L0.length + 7)), some (some (L0.length + 8)), some (some (L0.length + 9)), some (some (L0.length + 10)), none, none, some (some (L0.length + 11)), none, some none, some none, some none, some none, some none, some none, some none]), .inl 200, .inl 2, .inl 16, .inl 16, .inl 128, .inl 2, .inl 3, .inl 120, .inl 120, .inl 120, .inl 6, .inl 3]) hx hb (hts _ (List.mem_of_getElem? (i := 4) rfl)) hK hP hS hsz (by simp only [List.length_append, List.length_cons, List.length_nil]) (hz _ (by omega) (by omega)) (by decide) (by decide) (by rw [List.append_assoc]; rfl) (by decide) (Nat.le_of_ble_eq_true rfl) (Nat.le_of_ble_eq_true rfl) dX6_init_93 (fun H hP hS => ?_)
  refine me_putF (ci := 6) (C := RX6) (T := TX6) (N := 22) (q := L0.length + 12) (ty := (.array .int)) hx hb hts in_X6_init tyX6_ok nmX6 hown hK bd_inj bd_A hP hS at_ap rfl 15 (by decide) (hts _ (List.mem_of_getElem? (i := 16) rfl)) rfl hin rfl rfl rfl rfl (Nat.lt_of_lt_of_le (Nat.lt_succ_self _) (Nat.le_of_ble_eq_true rfl)) dX6_init_95 (fun H locs hP hS => ?_)
  rw [set_ap] at hP
  have hP : va_P D vwCl (me_ws cI (bd b) (L0 ++ [.inr (6, [none, some (some (L0.length + 1)), some (some (L0.length + 2)), some (some (L0.length + 3)), some (some (L0.length + 4)), some (some (L0.length + 5)), some (some (L0.length + 6)), some (some (L0.length + 7)), some (some (L0.length + 8)), some (some (L0.length + 9)), some (some (L0.length + 10)), none, none, some (some (L0.length + 11)), none, some (some (L0.length + 12)), some none, some none, some none, some none, some none, some none]), .inl 200, .inl 2, .inl 16, .inl 16, .inl 128, .inl 2, .inl 3, .inl 120, .inl 120, .inl 120, .inl 6, .inl 3]) M) H := hP
  refine lv_aload_n hx hb dX6_init_98 rfl (lv_at hl 0 rfl) ?_
  refine lv_sipush (v := 192) hx hb dX6_init_99 (by decide) ?_
  refine me_sz hP hS hbs (by simp only [List.length_append, List.length_cons, List.length_nil]; omega) (fun hsz => ?_)
  refine me_newa (k := L0.length + 13) (N := 192) (L1 := L0 ++ [.inr (6, [none, some (some (L0.length + 1)), some (some (L0.length + 2)), some (some (L0.length + 3)), some (some (L0.length + 4)), some (some (L0.length + 5)), some (some (L0.length + 6)), some (some (L0.length + 7)), some (some (L0.length + 8)), some (some (L0.length + 9)), some (some (L0.length + 10)), none, none, some (some (L0.length + 11)), none, some (some (L0.length + 12)), some none, some none, some none, some none, some none, some none]), .inl 200, .inl 2, .inl 16, .inl 16, .inl 128, .inl 2, .inl 3, .inl 120, .inl 120, .inl 120, .inl 6, .inl 3, .inl 192]) hx hb (hts _ (List.mem_of_getElem? (i := 4) rfl)) hK hP hS hsz (by simp only [List.length_append, List.length_cons, List.length_nil]) (hz _ (by omega) (by omega)) (by decide) (by decide) (by rw [List.append_assoc]; rfl) (by decide) (Nat.le_of_ble_eq_true rfl) (Nat.le_of_ble_eq_true rfl) dX6_init_102 (fun H hP hS => ?_)
  refine me_putF (ci := 6) (C := RX6) (T := TX6) (N := 22) (q := L0.length + 13) (ty := (.array .int)) hx hb hts in_X6_init tyX6_ok nmX6 hown hK bd_inj bd_A hP hS at_ap rfl 16 (by decide) (hts _ (List.mem_of_getElem? (i := 17) rfl)) rfl hin rfl rfl rfl rfl (Nat.lt_of_lt_of_le (Nat.lt_succ_self _) (Nat.le_of_ble_eq_true rfl)) dX6_init_104 (fun H locs hP hS => ?_)
  rw [set_ap] at hP
  have hP : va_P D vwCl (me_ws cI (bd b) (L0 ++ [.inr (6, [none, some (some (L0.length + 1)), some (some (L0.length + 2)), some (some (L0.length + 3)), some (some (L0.length + 4)), some (some (L0.length + 5)), some (some (L0.length + 6)), some (some (L0.length + 7)), some (some (L0.length + 8)), some (some (L0.length + 9)), some (some (L0.length + 10)), none, none, some (some (L0.length + 11)), none, some (some (L0.length + 12)), some (some (L0.length + 13)), some none, some none, some none, some none, some none]), .inl 200, .inl 2, .inl 16, .inl 16, .inl 128, .inl 2, .inl 3, .inl 120, .inl 120, .inl 120, .inl 6, .inl 3, .inl 192]) M) H := hP
  refine lv_aload_n hx hb dX6_init_107 rfl (lv_at hl 0 rfl) ?_
  refine lv_iconst (v := 3) hx hb dX6_init_108 (by decide) ?_
  refine me_sz hP hS hbs (by simp only [List.length_append, List.length_cons, List.length_nil]; omega) (fun hsz => ?_)
  refine me_newa (k := L0.length + 14) (N := 3) (L1 := L0 ++ [.inr (6, [none, some (some (L0.length + 1)), some (some (L0.length + 2)), some (some (L0.length + 3)), some (some (L0.length + 4)), some (some (L0.length + 5)), some (some (L0.length + 6)), some (some (L0.length + 7)), some (some (L0.length + 8)), some (some (L0.length + 9)), some (some (L0.length + 10)), none, none, some (some (L0.length + 11)), none, some (some (L0.length + 12)), some (some (L0.length + 13)), some none, some none, some none, some none, some none]), .inl 200, .inl 2, .inl 16, .inl 16, .inl 128, .inl 2, .inl 3, .inl 120, .inl 120, .inl 120, .inl 6, .inl 3, .inl 192, .inl 3]) hx hb (hts _ (List.mem_of_getElem? (i := 4) rfl)) hK hP hS hsz (by simp only [List.length_append, List.length_cons, List.length_nil]) (hz _ (by omega) (by omega)) (by decide) (by decide) (by rw [List.append_assoc]; rfl) (by decide) (Nat.le_of_ble_eq_true rfl) (Nat.le_of_ble_eq_true rfl) dX6_init_109 (fun H hP hS => ?_)
  refine me_putF (ci := 6) (C := RX6) (T := TX6) (N := 22) (q := L0.length + 14) (ty := (.array .int)) hx hb hts in_X6_init tyX6_ok nmX6 hown hK bd_inj bd_A hP hS at_ap rfl 17 (by decide) (hts _ (List.mem_of_getElem? (i := 18) rfl)) rfl hin rfl rfl rfl rfl (Nat.lt_of_lt_of_le (Nat.lt_succ_self _) (Nat.le_of_ble_eq_true rfl)) dX6_init_111 (fun H locs hP hS => ?_)
  rw [set_ap] at hP
  have hP : va_P D vwCl (me_ws cI (bd b) (L0 ++ [.inr (6, [none, some (some (L0.length + 1)), some (some (L0.length + 2)), some (some (L0.length + 3)), some (some (L0.length + 4)), some (some (L0.length + 5)), some (some (L0.length + 6)), some (some (L0.length + 7)), some (some (L0.length + 8)), some (some (L0.length + 9)), some (some (L0.length + 10)), none, none, some (some (L0.length + 11)), none, some (some (L0.length + 12)), some (some (L0.length + 13)), some (some (L0.length + 14)), some none, some none, some none, some none]), .inl 200, .inl 2, .inl 16, .inl 16, .inl 128, .inl 2, .inl 3, .inl 120, .inl 120, .inl 120, .inl 6, .inl 3, .inl 192, .inl 3]) M) H := hP
  refine lv_aload_n hx hb dX6_init_114 rfl (lv_at hl 0 rfl) ?_
  refine lv_iconst (v := 3) hx hb dX6_init_115 (by decide) ?_
  refine me_sz hP hS hbs (by simp only [List.length_append, List.length_cons, List.length_nil]; omega) (fun hsz => ?_)
  refine me_newa (k := L0.length + 15) (N := 3) (L1 := L0 ++ [.inr (6, [none, some (some (L0.length + 1)), some (some (L0.length + 2)), some (some (L0.length + 3)), some (some (L0.length + 4)), some (some (L0.length + 5)), some (some (L0.length + 6)), some (some (L0.length + 7)), some (some (L0.length + 8)), some (some (L0.length + 9)), some (some (L0.length + 10)), none, none, some (some (L0.length + 11)), none, some (some (L0.length + 12)), some (some (L0.length + 13)), some (some (L0.length + 14)), some none, some none, some none, some none]), .inl 200, .inl 2, .inl 16, .inl 16, .inl 128, .inl 2, .inl 3, .inl 120, .inl 120, .inl 120, .inl 6, .inl 3, .inl 192, .inl 3, .inl 3]) hx hb (hts _ (List.mem_of_getElem? (i := 4) rfl)) hK hP hS hsz (by simp only [List.length_append, List.length_cons, List.length_nil]) (hz _ (by omega) (by omega)) (by decide) (by decide) (by rw [List.append_assoc]; rfl) (by decide) (Nat.le_of_ble_eq_true rfl) (Nat.le_of_ble_eq_true rfl) dX6_init_116 (fun H hP hS => ?_)
  refine me_putF (ci := 6) (C := RX6) (T := TX6) (N := 22) (q := L0.length + 15) (ty := (.array .int)) hx hb hts in_X6_init tyX6_ok nmX6 hown hK bd_inj bd_A hP hS at_ap rfl 18 (by decide) (hts _ (List.mem_of_getElem? (i := 19) rfl)) rfl hin rfl rfl rfl rfl (Nat.lt_of_lt_of_le (Nat.lt_succ_self _) (Nat.le_of_ble_eq_true rfl)) dX6_init_118 (fun H locs hP hS => ?_)
  rw [set_ap] at hP
  have hP : va_P D vwCl (me_ws cI (bd b) (L0 ++ [.inr (6, [none, some (some (L0.length + 1)), some (some (L0.length + 2)), some (some (L0.length + 3)), some (some (L0.length + 4)), some (some (L0.length + 5)), some (some (L0.length + 6)), some (some (L0.length + 7)), some (some (L0.length + 8)), some (some (L0.length + 9)), some (some (L0.length + 10)), none, none, some (some (L0.length + 11)), none, some (some (L0.length + 12)), some (some (L0.length + 13)), some (some (L0.length + 14)), some (some (L0.length + 15)), some none, some none, some none]), .inl 200, .inl 2, .inl 16, .inl 16, .inl 128, .inl 2, .inl 3, .inl 120, .inl 120, .inl 120, .inl 6, .inl 3, .inl 192, .inl 3, .inl 3]) M) H := hP
  refine lv_aload_n hx hb dX6_init_121 rfl (lv_at hl 0 rfl) ?_
  refine lv_iconst (v := 3) hx hb dX6_init_122 (by decide) ?_
  refine me_sz hP hS hbs (by simp only [List.length_append, List.length_cons, List.length_nil]; omega) (fun hsz => ?_)
  refine me_newa (k := L0.length + 16) (N := 3) (L1 := L0 ++ [.inr (6, [none, some (some (L0.length + 1)), some (some (L0.length + 2)), some (some (L0.length + 3)), some (some (L0.length + 4)), some (some (L0.length + 5)), some (some (L0.length + 6)), some (some (L0.length + 7)), some (some (L0.length + 8)), some (some (L0.length + 9)), some (some (L0.length + 10)), none, none, some (some (L0.length + 11)), none, some (some (L0.length + 12)), some (some (L0.length + 13)), some (some (L0.length + 14)), some (some (L0.length + 15)), some none, some none, some none]), .inl 200, .inl 2, .inl 16, .inl 16, .inl 128, .inl 2, .inl 3, .inl 120, .inl 120, .inl 120, .inl 6, .inl 3, .inl 192, .inl 3, .inl 3, .inl 3]) hx hb (hts _ (List.mem_of_getElem? (i := 4) rfl)) hK hP hS hsz (by simp only [List.length_append, List.length_cons, List.length_nil]) (hz _ (by omega) (by omega)) (by decide) (by decide) (by rw [List.append_assoc]; rfl) (by decide) (Nat.le_of_ble_eq_true rfl) (Nat.le_of_ble_eq_true rfl) dX6_init_123 (fun H hP hS => ?_)
  refine me_putF (ci := 6) (C := RX6) (T := TX6) (N := 22) (q := L0.length + 16) (ty := (.array .int)) hx hb hts in_X6_init tyX6_ok nmX6 hown hK bd_inj bd_A hP hS at_ap rfl 19 (by decide) (hts _ (List.mem_of_getElem? (i := 20) rfl)) rfl hin rfl rfl rfl rfl (Nat.lt_of_lt_of_le (Nat.lt_succ_self _) (Nat.le_of_ble_eq_true rfl)) dX6_init_125 (fun H locs hP hS => ?_)
  rw [set_ap] at hP
  have hP : va_P D vwCl (me_ws cI (bd b) (L0 ++ [.inr (6, [none, some (some (L0.length + 1)), some (some (L0.length + 2)), some (some (L0.length + 3)), some (some (L0.length + 4)), some (some (L0.length + 5)), some (some (L0.length + 6)), some (some (L0.length + 7)), some (some (L0.length + 8)), some (some (L0.length + 9)), some (some (L0.length + 10)), none, none, some (some (L0.length + 11)), none, some (some (L0.length + 12)), some (some (L0.length + 13)), some (some (L0.length + 14)), some (some (L0.length + 15)), some (some (L0.length + 16)), some none, some none]), .inl 200, .inl 2, .inl 16, .inl 16, .inl 128, .inl 2, .inl 3, .inl 120, .inl 120, .inl 120, .inl 6, .inl 3, .inl 192, .inl 3, .inl 3, .inl 3]) M) H := hP
  refine lv_aload_n hx hb dX6_init_128 rfl (lv_at hl 0 rfl) ?_
  refine lv_bipush (v := 8) hx hb dX6_init_129 (by decide) ?_
  refine me_sz hP hS hbs (by simp only [List.length_append, List.length_cons, List.length_nil]; omega) (fun hsz => ?_)
  refine me_newa (k := L0.length + 17) (N := 8) (L1 := L0 ++ [.inr (6, [none, some (some (L0.length + 1)), some (some (L0.length + 2)), some (some (L0.length + 3)), some (some (L0.length + 4)), some (some (L0.length + 5)), some (some (L0.length + 6)), some (some (L0.length + 7)), some (some (L0.length + 8)), some (some (L0.length + 9)), some (some (L0.length + 10)), none, none, some (some (L0.length + 11)), none, some (some (L0.length + 12)), some (some (L0.length + 13)), some (some (L0.length + 14)), some (some (L0.length + 15)), some (some (L0.length + 16)), some none, some none]), .inl 200, .inl 2, .inl 16, .inl 16, .inl 128, .inl 2, .inl 3, .inl 120, .inl 120, .inl 120, .inl 6, .inl 3, .inl 192, .inl 3, .inl 3, .inl 3, .inl 8]) hx hb (hts _ (List.mem_of_getElem? (i := 4) rfl)) hK hP hS hsz (by simp only [List.length_append, List.length_cons, List.length_nil]) (hz _ (by omega) (by omega)) (by decide) (by decide) (by rw [List.append_assoc]; rfl) (by decide) (Nat.le_of_ble_eq_true rfl) (Nat.le_of_ble_eq_true rfl) dX6_init_131 (fun H hP hS => ?_)
  refine me_putF (ci := 6) (C := RX6) (T := TX6) (N := 22) (q := L0.length + 17) (ty := (.array .int)) hx hb hts in_X6_init tyX6_ok nmX6 hown hK bd_inj bd_A hP hS at_ap rfl 20 (by decide) (hts _ (List.mem_of_getElem? (i := 21) rfl)) rfl hin rfl rfl rfl rfl (Nat.lt_of_lt_of_le (Nat.lt_succ_self _) (Nat.le_of_ble_eq_true rfl)) dX6_init_133 (fun H locs hP hS => ?_)
  rw [set_ap] at hP
  have hP : va_P D vwCl (me_ws cI (bd b) (L0 ++ [.inr (6, [none, some (some (L0.length + 1)), some (some (L0.length + 2)), some (some (L0.length + 3)), some (some (L0.length + 4)), some (some (L0.length + 5)), some (some (L0.length + 6)), some (some (L0.length + 7)), some (some (L0.length + 8)), some (some (L0.length + 9)), some (some (L0.length + 10)), none, none, some (some (L0.length + 11)), none, some (some (L0.length + 12)), some (some (L0.length + 13)), some (some (L0.length + 14)), some (some (L0.length + 15)), some (some (L0.length + 16)), some (some (L0.length + 17)), some none]), .inl 200, .inl 2, .inl 16, .inl 16, .inl 128, .inl 2, .inl 3, .inl 120, .inl 120, .inl 120, .inl 6, .inl 3, .inl 192, .inl 3, .inl 3, .inl 3, .inl 8]) M) H := hP
  refine lv_aload_n hx hb dX6_init_136 rfl (lv_at hl 0 rfl) ?_
  refine lv_sipush (v := 128) hx hb dX6_init_137 (by decide) ?_
  refine me_sz hP hS hbs (by simp only [List.length_append, List.length_cons, List.length_nil]; omega) (fun hsz => ?_)
  refine me_newa (k := L0.length + 18) (N := 128) (L1 := L0 ++ [.inr (6, [none, some (some (L0.length + 1)), some (some (L0.length + 2)), some (some (L0.length + 3)), some (some (L0.length + 4)), some (some (L0.length + 5)), some (some (L0.length + 6)), some (some (L0.length + 7)), some (some (L0.length + 8)), some (some (L0.length + 9)), some (some (L0.length + 10)), none, none, some (some (L0.length + 11)), none, some (some (L0.length + 12)), some (some (L0.length + 13)), some (some (L0.length + 14)), some (some (L0.length + 15)), some (some (L0.length + 16)), some (some (L0.length + 17)), some none]), .inl 200, .inl 2, .inl 16, .inl 16, .inl 128, .inl 2, .inl 3, .inl 120, .inl 120, .inl 120, .inl 6, .inl 3, .inl 192, .inl 3, .inl 3, .inl 3, .inl 8, .inl 128]) hx hb (hts _ (List.mem_of_getElem? (i := 4) rfl)) hK hP hS hsz (by simp only [List.length_append, List.length_cons, List.length_nil]) (hz _ (by omega) (by omega)) (by decide) (by decide) (by rw [List.append_assoc]; rfl) (by decide) (Nat.le_of_ble_eq_true rfl) (Nat.le_of_ble_eq_true rfl) dX6_init_140 (fun H hP hS => ?_)
  refine me_putF (ci := 6) (C := RX6) (T := TX6) (N := 22) (q := L0.length + 18) (ty := (.array .int)) hx hb hts in_X6_init tyX6_ok nmX6 hown hK bd_inj bd_A hP hS at_ap rfl 21 (by decide) (hts _ (List.mem_of_getElem? (i := 22) rfl)) rfl hin rfl rfl rfl rfl (Nat.lt_of_lt_of_le (Nat.lt_succ_self _) (Nat.le_of_ble_eq_true rfl)) dX6_init_142 (fun H locs hP hS => ?_)
  rw [set_ap] at hP
  have hP : va_P D vwCl (me_ws cI (bd b) (L0 ++ [.inr (6, [none, some (some (L0.length + 1)), some (some (L0.length + 2)), some (some (L0.length + 3)), some (some (L0.length + 4)), some (some (L0.length + 5)), some (some (L0.length + 6)), some (some (L0.length + 7)), some (some (L0.length + 8)), some (some (L0.length + 9)), some (some (L0.length + 10)), none, none, some (some (L0.length + 11)), none, some (some (L0.length + 12)), some (some (L0.length + 13)), some (some (L0.length + 14)), some (some (L0.length + 15)), some (some (L0.length + 16)), some (some (L0.length + 17)), some (some (L0.length + 18))]), .inl 200, .inl 2, .inl 16, .inl 16, .inl 128, .inl 2, .inl 3, .inl 120, .inl 120, .inl 120, .inl 6, .inl 3, .inl 192, .inl 3, .inl 3, .inl 3, .inl 8, .inl 128]) M) H := hP
  have hS := bA_me (L := L0 ++ [.inr (6, [none, some (some (L0.length + 1)), some (some (L0.length + 2)), some (some (L0.length + 3)), some (some (L0.length + 4)), some (some (L0.length + 5)), some (some (L0.length + 6)), some (some (L0.length + 7)), some (some (L0.length + 8)), some (some (L0.length + 9)), some (some (L0.length + 10)), none, none, some (some (L0.length + 11)), none, some (some (L0.length + 12)), some (some (L0.length + 13)), some (some (L0.length + 14)), some (some (L0.length + 15)), some (some (L0.length + 16)), some (some (L0.length + 17)), some (some (L0.length + 18))]), .inl 200, .inl 2, .inl 16, .inl 16, .inl 128, .inl 2, .inl 3, .inl 120, .inl 120, .inl 120, .inl 6, .inl 3, .inl 192, .inl 3, .inl 3, .inl 3, .inl 8, .inl 128]) hS
  refine W.widen (k := 18) (n := 1073) (Nat.le_of_ble_eq_true rfl) (Nat.le_of_ble_eq_true rfl) ?_
  unfold X6_made at h
  refine lv_aload_n hx hb dX6_init_145 rfl (lv_at hl 0 rfl) ?_
  refine lv_iconst (v := 0) hx hb dX6_init_146 (by decide) ?_
  obtain ⟨v1, M1, h1, h⟩ := s_call_inv h
  refine me_callVb (As := [.int 0]) (rest := []) ⟨hx, hb, hml, hown, hts⟩ (c_X6_noTown h6 h1) (cwV 1 hts gX6_init_X6_noTown rfl rfl rfl hd_X6_noTown ⟨(Nat.le_of_ble_eq_true rfl), (Nat.le_of_ble_eq_true rfl)⟩) hK bd_inj hP hS hbs h6.1 rfl rfl hl.1 rfl (Nat.le_of_ble_eq_true rfl) dX6_init_147 ⟨Nat.le_of_ble_eq_true rfl, Nat.le_of_ble_eq_true rfl⟩ (fun H locs hP hS => ?_)
  refine W.eq (g2 := F0 m 150 ls []) rfl ?_
  refine lv_aload_n hx hb dX6_init_150 rfl (lv_at hl 0 rfl) ?_
  refine lv_iconst (v := 0) hx hb dX6_init_151 (by decide) ?_
  refine lv_iconst (v := 0) hx hb dX6_init_152 (by decide) ?_
  refine lv_iconst (v := 0) hx hb dX6_init_153 (by decide) ?_
  obtain ⟨v2, M2, h1, h⟩ := s_call_inv h
  refine me_callVb (As := [.int 0, .int 0, .int 0]) (rest := []) ⟨hx, hb, hml, hown, hts⟩ (c_X6_addPerson h6 h1) (cwV 3 hts gX6_init_X6_addPerson rfl rfl rfl hd_X6_addPerson ⟨(Nat.le_of_ble_eq_true rfl), (Nat.le_of_ble_eq_true rfl)⟩) hK bd_inj hP hS hbs h6.1 rfl rfl hl.1 rfl (Nat.le_of_ble_eq_true rfl) dX6_init_154 ⟨Nat.le_of_ble_eq_true rfl, Nat.le_of_ble_eq_true rfl⟩ (fun H locs hP hS => ?_)
  refine W.eq (g2 := F0 m 157 ls []) rfl ?_
  refine lv_aload_n hx hb dX6_init_157 rfl (lv_at hl 0 rfl) ?_
  refine lv_iconst (v := 0) hx hb dX6_init_158 (by decide) ?_
  refine lv_iconst (v := 0) hx hb dX6_init_159 (by decide) ?_
  refine lv_iconst (v := 1) hx hb dX6_init_160 (by decide) ?_
  obtain ⟨v3, M3, h1, h⟩ := s_call_inv h
  refine me_callVb (As := [.int 0, .int 0, .int 1]) (rest := []) ⟨hx, hb, hml, hown, hts⟩ (c_X6_addPerson h6 h1) (cwV 3 hts gX6_init_X6_addPerson rfl rfl rfl hd_X6_addPerson ⟨(Nat.le_of_ble_eq_true rfl), (Nat.le_of_ble_eq_true rfl)⟩) hK bd_inj hP hS hbs h6.1 rfl rfl hl.1 rfl (Nat.le_of_ble_eq_true rfl) dX6_init_161 ⟨Nat.le_of_ble_eq_true rfl, Nat.le_of_ble_eq_true rfl⟩ (fun H locs hP hS => ?_)
  refine W.eq (g2 := F0 m 164 ls []) rfl ?_
  refine lv_aload_n hx hb dX6_init_164 rfl (lv_at hl 0 rfl) ?_
  refine lv_iconst (v := 0) hx hb dX6_init_165 (by decide) ?_
  refine lv_iconst (v := 1) hx hb dX6_init_166 (by decide) ?_
  refine lv_iconst (v := 0) hx hb dX6_init_167 (by decide) ?_
  obtain ⟨v4, M4, h1, h⟩ := s_call_inv h
  refine me_callVb (As := [.int 0, .int 1, .int 0]) (rest := []) ⟨hx, hb, hml, hown, hts⟩ (c_X6_addPerson h6 h1) (cwV 3 hts gX6_init_X6_addPerson rfl rfl rfl hd_X6_addPerson ⟨(Nat.le_of_ble_eq_true rfl), (Nat.le_of_ble_eq_true rfl)⟩) hK bd_inj hP hS hbs h6.1 rfl rfl hl.1 rfl (Nat.le_of_ble_eq_true rfl) dX6_init_168 ⟨Nat.le_of_ble_eq_true rfl, Nat.le_of_ble_eq_true rfl⟩ (fun H locs hP hS => ?_)
  refine W.eq (g2 := F0 m 171 ls []) rfl ?_
  refine lv_aload_n hx hb dX6_init_171 rfl (lv_at hl 0 rfl) ?_
  refine lv_iconst (v := 0) hx hb dX6_init_172 (by decide) ?_
  refine lv_iconst (v := 2) hx hb dX6_init_173 (by decide) ?_
  refine lv_iconst (v := 1) hx hb dX6_init_174 (by decide) ?_
  obtain ⟨v5, M5, h1, h⟩ := s_call_inv h
  refine me_callVb (As := [.int 0, .int 2, .int 1]) (rest := []) ⟨hx, hb, hml, hown, hts⟩ (c_X6_addPerson h6 h1) (cwV 3 hts gX6_init_X6_addPerson rfl rfl rfl hd_X6_addPerson ⟨(Nat.le_of_ble_eq_true rfl), (Nat.le_of_ble_eq_true rfl)⟩) hK bd_inj hP hS hbs h6.1 rfl rfl hl.1 rfl (Nat.le_of_ble_eq_true rfl) dX6_init_175 ⟨Nat.le_of_ble_eq_true rfl, Nat.le_of_ble_eq_true rfl⟩ (fun H locs hP hS => ?_)
  refine W.eq (g2 := F0 m 178 ls []) rfl ?_
  refine lv_aload_n hx hb dX6_init_178 rfl (lv_at hl 0 rfl) ?_
  refine lv_iconst (v := 0) hx hb dX6_init_179 (by decide) ?_
  refine lv_iconst (v := 3) hx hb dX6_init_180 (by decide) ?_
  refine lv_iconst (v := 0) hx hb dX6_init_181 (by decide) ?_
  obtain ⟨v6, M6, h1, h⟩ := s_call_inv h
  refine me_callVb (As := [.int 0, .int 3, .int 0]) (rest := []) ⟨hx, hb, hml, hown, hts⟩ (c_X6_addPerson h6 h1) (cwV 3 hts gX6_init_X6_addPerson rfl rfl rfl hd_X6_addPerson ⟨(Nat.le_of_ble_eq_true rfl), (Nat.le_of_ble_eq_true rfl)⟩) hK bd_inj hP hS hbs h6.1 rfl rfl hl.1 rfl (Nat.le_of_ble_eq_true rfl) dX6_init_182 ⟨Nat.le_of_ble_eq_true rfl, Nat.le_of_ble_eq_true rfl⟩ (fun H locs hP hS => ?_)
  refine W.eq (g2 := F0 m 185 ls []) rfl ?_
  refine lv_aload_n hx hb dX6_init_185 rfl (lv_at hl 0 rfl) ?_
  refine me_getr (ci := 6) (C := RX6) (T := TX6) (N := 22) hx hb hts in_X6_init hown hK hP h6.1 rfl 5 (by decide) (hts _ (List.mem_of_getElem? (i := 9) rfl)) rfl dX6_init_186 ?_
  refine lv_iconst (v := 1) hx hb dX6_init_189 (by decide) ?_
  refine lv_iconst (v := 1) hx hb dX6_init_190 (by decide) ?_
  obtain ⟨hin7, h⟩ := s_ast_inv h
  refine me_ast hx hb hK bd_inj hP hS h6.2.2.2.2.2.1 hin7 dX6_init_191 (fun H locs M7 eM hP hS => ?_)
  replace h := h M7 eM
  refine lv_aload_n hx hb dX6_init_192 rfl (lv_at hl 0 rfl) ?_
  refine me_getr (ci := 6) (C := RX6) (T := TX6) (N := 22) hx hb hts in_X6_init hown hK hP h6.1 rfl 5 (by decide) (hts _ (List.mem_of_getElem? (i := 9) rfl)) rfl dX6_init_193 ?_
  refine lv_bipush (v := 10) hx hb dX6_init_196 (by decide) ?_
  refine lv_iconst (v := 2) hx hb dX6_init_198 (by decide) ?_
  obtain ⟨hin8, h⟩ := s_ast_inv h
  refine me_ast hx hb hK bd_inj hP hS h6.2.2.2.2.2.1 hin8 dX6_init_199 (fun H locs M8 eM hP hS => ?_)
  replace h := h M8 eM
  refine lv_aload_n hx hb dX6_init_200 rfl (lv_at hl 0 rfl) ?_
  refine me_getr (ci := 6) (C := RX6) (T := TX6) (N := 22) hx hb hts in_X6_init hown hK hP h6.1 rfl 5 (by decide) (hts _ (List.mem_of_getElem? (i := 9) rfl)) rfl dX6_init_201 ?_
  refine lv_bipush (v := 16) hx hb dX6_init_204 (by decide) ?_
  refine lv_iconst (v := 1) hx hb dX6_init_206 (by decide) ?_
  obtain ⟨hin9, h⟩ := s_ast_inv h
  refine me_ast hx hb hK bd_inj hP hS h6.2.2.2.2.2.1 hin9 dX6_init_207 (fun H locs M9 eM hP hS => ?_)
  replace h := h M9 eM
  refine lv_aload_n hx hb dX6_init_208 rfl (lv_at hl 0 rfl) ?_
  refine me_getr (ci := 6) (C := RX6) (T := TX6) (N := 22) hx hb hts in_X6_init hown hK hP h6.1 rfl 5 (by decide) (hts _ (List.mem_of_getElem? (i := 9) rfl)) rfl dX6_init_209 ?_
  refine lv_bipush (v := 28) hx hb dX6_init_212 (by decide) ?_
  refine lv_iconst (v := 3) hx hb dX6_init_214 (by decide) ?_
  obtain ⟨hin10, h⟩ := s_ast_inv h
  refine me_ast hx hb hK bd_inj hP hS h6.2.2.2.2.2.1 hin10 dX6_init_215 (fun H locs M10 eM hP hS => ?_)
  replace h := h M10 eM
  refine lv_aload_n hx hb dX6_init_216 rfl (lv_at hl 0 rfl) ?_
  refine me_getr (ci := 6) (C := RX6) (T := TX6) (N := 22) hx hb hts in_X6_init hown hK hP h6.1 rfl 5 (by decide) (hts _ (List.mem_of_getElem? (i := 9) rfl)) rfl dX6_init_217 ?_
  refine lv_bipush (v := 35) hx hb dX6_init_220 (by decide) ?_
  refine lv_iconst (v := 1) hx hb dX6_init_222 (by decide) ?_
  obtain ⟨hin11, h⟩ := s_ast_inv h
  refine me_ast hx hb hK bd_inj hP hS h6.2.2.2.2.2.1 hin11 dX6_init_223 (fun H locs M11 eM hP hS => ?_)
  replace h := h M11 eM
  refine lv_aload_n hx hb dX6_init_224 rfl (lv_at hl 0 rfl) ?_
  obtain ⟨v12, M12, h1, h⟩ := s_call_inv h
  refine me_callVb (As := []) (rest := []) ⟨hx, hb, hml, hown, hts⟩ (c_X6_begin h6 h1) (cwV 0 hts gX6_init_X6_begin rfl rfl rfl hd_X6_begin ⟨(Nat.le_of_ble_eq_true rfl), (Nat.le_of_ble_eq_true rfl)⟩) hK bd_inj hP hS hbs h6.1 rfl rfl hl.1 rfl (Nat.le_of_ble_eq_true rfl) dX6_init_225 ⟨Nat.le_of_ble_eq_true rfl, Nat.le_of_ble_eq_true rfl⟩ (fun H locs hP hS => ?_)
  refine W.eq (g2 := F0 m 228 ls []) rfl ?_
  cases h
  have hS := me_bA hS
  exact W.vret hx hb hr (fun t ht hW => ⟨⟨rfl, by rw [ht]; exact hP⟩, hS.F ht⟩) hS.2.2 dX6_init_228
