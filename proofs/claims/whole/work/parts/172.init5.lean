/-! ===== the class, made: a field a lemma ===== -/
section CALLE
variable {p : Program} {l : Launch} {e : Env} {R : Room} {s : State} {m : MethodId} {args : Array Value} {below : List Frame} {meth : Method} {c : Code} {H : Heap} {locs : List Loc} {cells slots : Nat} {Q : State → Prop}
variable {cc : ByteArray} {pc : Nat} {ls : Array Slot} {rest : List Value} {D : va_G} {cI : ClassId} {L : List CDs} {M : Mem}
variable {y : MethodName} {bytes : ByteArray} {maxL nL n index : Nat} {ret : Option FieldType} {ws Ts : List Cond} {rm : Room} {own : String} {As : List Value} {M' : Mem} {ans : Option Value} {aK aV : Nat → Nat}
theorem mkE_callS (S : CallFix p m c cc nL s args Ts own) {b mc ms : Nat} {L' : List CDs} (hM : mkE_Met l y ws rm (fs_E (bA b) aK aV) D cI b As ans L L' M M' mc ms) (cw : CallB R s args own index y bytes maxL ret ws rm mc ms n ∧ (Cond.static y).before args s = true) (hE : fs_E (bA b) aK aV s)
    (hK : va_K D vwCl [(cI, .int)] s) (hP : va_P D vwCl (me_ws cI (bd b) L M) H) (hS : va_S (bA b) s.heap H locs) (hsz : H.size = bd b L.length) (hn : As.length = n) (hsize : ls.size = nL) {st0 : List Value} (hst : st0 = As.reverse ++ rest) (hW : (rest.map fun v => v.category).sum ≤ 8) (hdg : decode cc pc = .ok (.invokestatic index, 3)) (hf : cells + mc ≤ R.cells ∧ slots + ms ≤ R.slots)
    (kk : ∀ (H1 : Heap) (locs1 : List Loc), va_P D vwCl (me_ws cI (bd b) L' M') H1 → va_S (bA b) s.heap H1 locs1 → W p l e R s m args below meth c H1 locs1 (cells + mc) (slots + ms) Q (F0 m (pc + 3) ls (ans.toList ++ rest))) : W p l e R s m args below meth c H locs cells slots Q (F0 m pc ls st0) :=
  mk_runb (va_runS S hM cw ⟨mkE_blind, fun U hU hW => ⟨rfl, ⟨by rw [hU]; exact hsz, by rw [hU]; exact hP, va_K.moved hW.alike hK⟩, hE.go hS hU hW⟩⟩ rfl hn hsize hst (lv_room hW) hdg hf) hS kk
theorem mkE_callI (S : CallFix p m c cc nL s args Ts own) {b k mc ms : Nat} {L' : List CDs} (hM : mkE_Met l y ws rm (fs_E (bA b) aK aV) D cI b (.ref (bd b k) :: As) none L L' M M' mc ms) (cw : CallB R s args own index y bytes maxL none ws rm mc ms n ∧ y.name = "<init>" ∧ (Cond.instanceMethod y).before args s = true) (hE : fs_E (bA b) aK aV s)
    (hK : va_K D vwCl [(cI, .int)] s) (hP : va_P D vwCl (me_ws cI (bd b) L M) H) (hS : va_S (bA b) s.heap H locs) (hsz : H.size = bd b L.length) (hn : As.length = n) (hsize : ls.size = nL) {st0 : List Value} (hst : st0 = As.reverse ++ .ref (bd b k) :: rest) (hW : (rest.map fun v => v.category).sum ≤ 8) (hdg : decode cc pc = .ok (.invokespecial index, 3)) (hf : cells + mc ≤ R.cells ∧ slots + ms ≤ R.slots)
    (kk : ∀ (H1 : Heap) (locs1 : List Loc), va_P D vwCl (me_ws cI (bd b) L' M') H1 → va_S (bA b) s.heap H1 locs1 → W p l e R s m args below meth c H1 locs1 (cells + mc) (slots + ms) Q (F0 m (pc + 3) ls rest)) : W p l e R s m args below meth c H locs cells slots Q (F0 m pc ls st0) :=
  mk_runb (va_runI S hM cw ⟨mkE_blind, fun U hU hW => ⟨rfl, ⟨by rw [hU]; exact hsz, by rw [hU]; exact hP, va_K.moved hW.alike hK⟩, hE.go hS hU hW⟩⟩ rfl hn hsize hst (lv_room hW) hdg hf) hS kk
end CALLE
theorem in_X5_init_X0 : ∀ w ∈ wsX00, w ∈ wsX5_init := by decide +kernel
theorem in_X5_init_X1 : ∀ w ∈ wsX10, w ∈ wsX5_init := by decide +kernel
theorem in_X5_init_X2 : ∀ w ∈ wsX20, w ∈ wsX5_init := by decide +kernel
theorem in_X5_init_X3 : ∀ w ∈ wsX30, w ∈ wsX5_init := by decide +kernel
theorem in_X5_init_X4 : ∀ w ∈ wsX40, w ∈ wsX5_init := by decide +kernel
theorem in_X5_init_X5 : ∀ w ∈ wsX50, w ∈ wsX5_init := by decide +kernel
theorem im_X5_init_X0 : Cond.instanceMethod yX0_init ∈ wsX5_init := by decide +kernel
theorem im_X5_init_X1 : Cond.instanceMethod yX1_init ∈ wsX5_init := by decide +kernel
theorem im_X5_init_X2 : Cond.instanceMethod yX2_init ∈ wsX5_init := by decide +kernel
theorem im_X5_init_X3 : Cond.instanceMethod yX3_init ∈ wsX5_init := by decide +kernel
theorem im_X5_init_X4 : Cond.instanceMethod yX4_init ∈ wsX5_init := by decide +kernel
abbrev rmX5_init : Room := { frames := 6, cells := 43, slots := 1480, locals := 160 }
def i5_X (p : Program) (s : State) (m : MethodId) (args : Array Value) (meth : Method) (c : Code) (D : va_G) (cI : ClassId) (b : Nat) (aK aV : Nat → Nat) : Prop := CallFix p m c cX5_init 1 s args wsX5_init RX5 ∧ va_K D vwCl [(cI, .int)] s ∧ fs_E (bA b) aK aV s ∧ s.heap.size = b + 1 ∧ meth.name = "<init>"
section I5
variable {p : Program} {l : Launch} {e : Env} {s : State} {m : MethodId} {args : Array Value} {below : List Frame} {meth : Method} {c : Code} {H : Heap} {locs : List Loc} {Q : State → Prop} {ls : Array Slot} {D : va_G} {cI : ClassId} {b : Nat} {aK aV : Nat → Nat} {M M' : Mem} {fl : List (Option (Option Nat))} {R : List CDs} {n j ix pc cells slots : Nat}
set_option maxRecDepth 100000 in
set_option maxHeartbeats 4000000 in
theorem i5_X0 (C0 : i5_X p s m args meth c D cI b aK aV) (hn : R.length + 1 = n) (hce : cells + 1 = n) (hz : ∀ c, n ≤ c → c < n + 4 → M c = fun _ => 0) (hc1 : cells + 4 ≤ 43) (hs1 : slots + 124 ≤ 1480) (hjl : j < fl.length) (hj : j < 13) (hlink : Cond.fieldLink RX5 ix (TX5 j).1 (TX5 j).2.1 (TX5 j).2.2.1 ∈ wsX5_init) (hfin : (TX5 j).2.2.2 = true) (hdecl : (TX5 j).1 = RX5) (hty : tyX5 j = .object "LadderOfBows$Acts") (d0 : decode cX5_init pc = .ok (.aload_n 0, 1)) (d1 : decode cX5_init (pc + 1) = .ok (.new 40, 3)) (d2 : decode cX5_init (pc + 4) = .ok (.dup, 1)) (d3 : decode cX5_init (pc + 5) = .ok (.invokespecial 42, 3)) (d4 : decode cX5_init (pc + 8) = .ok (.putfield ix, 3)) (hP : va_P D vwCl (me_ws cI (bd b) (.inr (5, fl) :: R) M) H) (hS : va_S (bA b) s.heap H locs) (hl : lv_has ls 1 [(0, .ref (bd b 0))])
    (kk : ∀ (H1 : Heap) (locs1 : List Loc), va_P D vwCl (me_ws cI (bd b) (.inr (5, fl.set j (some (some n))) :: (R ++ C_X0 n)) M) H1 → va_S (bA b) s.heap H1 locs1 → W p l e rmX5_init s m args below meth c H1 locs1 (cells + 4) (slots + 124) Q (F0 m (pc + 11) ls [])) : W p l e rmX5_init s m args below meth c H locs cells slots Q (F0 m pc ls []) := by
  obtain ⟨⟨hx, hb, hml, hown, hts⟩, hK, hE, hsz0, hin⟩ := C0
  have hbs : b ≤ s.heap.size := by omega
  have hlen : (.inr (5, fl) :: R : List CDs).length = n := hn
  refine lv_aload_n hx hb d0 rfl (lv_at hl 0 rfl) ?_
  refine me_sz hP hS hbs (by rw [hlen]; omega) (fun hsz => ?_)
  refine me_new (ci := 0) (C := RX0) (T := TX0) (N := 4) (k := n) (fl := [some none, some none, some none, none]) hx hb hts in_X5_init_X0 tyX0 tyX0_ok hown (hts _ (List.mem_of_getElem? (i := 18) rfl)) (hts _ (List.mem_of_getElem? (i := 19) rfl)) (hts _ (List.mem_of_getElem? (i := 20) rfl)) hK hP hS hsz hlen (hz _ (by omega) (by omega)) rfl rfl hfs_X0 (show cells + 1 ≤ 43 by omega) (show slots + 4 ≤ 1480 by omega) d1 (fun H hP hS => ?_)
  refine lv_dup hx hb d2 rfl ?_
  refine me_sz hP hS hbs (by rw [List.length_append, hlen]; show _ = b + (n + 1); omega) (fun hsz => ?_)
  refine mk_callIN (As := []) (rest := [.ref (bd b n), .ref (bd b 0)]) ⟨hx, hb, hml, hown, hts⟩ (c_X0_i hlen hz) ⟨va_cnB 0 hts gX5_init_X0_init_n42 rfl rfl rfl (hE.2.2.2.2 (42, yX0_init) (List.mem_of_getElem? (i := 3) rfl)) (hts (.initialized RX0) (List.mem_of_getElem? (i := 20) rfl)) hi_X0 ⟨Nat.le_of_ble_eq_true rfl, Nat.le_of_ble_eq_true rfl⟩, rfl, hts _ im_X5_init_X0⟩ hK hP hS hsz rfl hl.1 rfl (Nat.le_of_ble_eq_true rfl) d3 ⟨show cells + 1 + 3 ≤ 43 by omega, show slots + 4 + 120 ≤ 1480 by omega⟩ (fun H locs hP hS => ?_)
  have hP : va_P D vwCl (me_ws cI (bd b) (.inr (5, fl) :: (R ++ C_X0 n)) M) H := hP
  refine me_putF (ci := 5) (C := RX5) (T := TX5) (N := 13) (k := 0) (q := n) (ty := .object "LadderOfBows$Acts") (fl := fl) hx hb hts in_X5_init_X5 tyX5_ok nmX5 hown hK bd_inj bd_A hP hS rfl rfl j hj (hts _ hlink) hfin hin hdecl hty rfl rfl hjl d4 (fun H locs hP hS => ?_)
  refine W.widen (k := cells + 4) (n := slots + 124) (show cells + 1 + 3 ≤ _ by omega) (show slots + 4 + 120 ≤ _ by omega) ?_
  exact kk H locs hP hS
set_option maxRecDepth 100000 in
set_option maxHeartbeats 4000000 in
theorem i5_X1 (C0 : i5_X p s m args meth c D cI b aK aV) (hn : R.length + 1 = n) (hce : cells + 1 = n) (hz : ∀ c, n ≤ c → c < n + 2 → M c = fun _ => 0) (hc1 : cells + 2 ≤ 43) (hs1 : slots + 202 ≤ 1480) (hjl : j < fl.length) (hj : j < 13) (hlink : Cond.fieldLink RX5 ix (TX5 j).1 (TX5 j).2.1 (TX5 j).2.2.1 ∈ wsX5_init) (hfin : (TX5 j).2.2.2 = true) (hdecl : (TX5 j).1 = RX5) (hty : tyX5 j = .object "LadderOfBows$Letters") (d0 : decode cX5_init pc = .ok (.aload_n 0, 1)) (d1 : decode cX5_init (pc + 1) = .ok (.new 9, 3)) (d2 : decode cX5_init (pc + 4) = .ok (.dup, 1)) (d3 : decode cX5_init (pc + 5) = .ok (.invokespecial 11, 3)) (d4 : decode cX5_init (pc + 8) = .ok (.putfield ix, 3)) (hP : va_P D vwCl (me_ws cI (bd b) (.inr (5, fl) :: R) M) H) (hS : va_S (bA b) s.heap H locs) (hl : lv_has ls 1 [(0, .ref (bd b 0))])
    (kk : ∀ (H1 : Heap) (locs1 : List Loc), va_P D vwCl (me_ws cI (bd b) (.inr (5, fl.set j (some (some n))) :: (R ++ C_X1 n)) M) H1 → va_S (bA b) s.heap H1 locs1 → W p l e rmX5_init s m args below meth c H1 locs1 (cells + 2) (slots + 202) Q (F0 m (pc + 11) ls [])) : W p l e rmX5_init s m args below meth c H locs cells slots Q (F0 m pc ls []) := by
  obtain ⟨⟨hx, hb, hml, hown, hts⟩, hK, hE, hsz0, hin⟩ := C0
  have hbs : b ≤ s.heap.size := by omega
  have hlen : (.inr (5, fl) :: R : List CDs).length = n := hn
  refine lv_aload_n hx hb d0 rfl (lv_at hl 0 rfl) ?_
  refine me_sz hP hS hbs (by rw [hlen]; omega) (fun hsz => ?_)
  refine me_new (ci := 1) (C := RX1) (T := TX1) (N := 2) (k := n) (fl := [some none, none]) hx hb hts in_X5_init_X1 tyX1 tyX1_ok hown (hts _ (List.mem_of_getElem? (i := 4) rfl)) (hts _ (List.mem_of_getElem? (i := 5) rfl)) (hts _ (List.mem_of_getElem? (i := 6) rfl)) hK hP hS hsz hlen (hz _ (by omega) (by omega)) rfl rfl hfs_X1 (show cells + 1 ≤ 43 by omega) (show slots + 2 ≤ 1480 by omega) d1 (fun H hP hS => ?_)
  refine lv_dup hx hb d2 rfl ?_
  refine me_sz hP hS hbs (by rw [List.length_append, hlen]; show _ = b + (n + 1); omega) (fun hsz => ?_)
  refine mk_callIN (As := []) (rest := [.ref (bd b n), .ref (bd b 0)]) ⟨hx, hb, hml, hown, hts⟩ (c_X1_i hlen hz) ⟨va_cnB 0 hts gX5_init_X1_init_n11 rfl rfl rfl (hE.2.2.2.2 (11, yX1_init) (List.mem_of_getElem? (i := 0) rfl)) (hts (.initialized RX1) (List.mem_of_getElem? (i := 6) rfl)) hi_X1 ⟨Nat.le_of_ble_eq_true rfl, Nat.le_of_ble_eq_true rfl⟩, rfl, hts _ im_X5_init_X1⟩ hK hP hS hsz rfl hl.1 rfl (Nat.le_of_ble_eq_true rfl) d3 ⟨show cells + 1 + 1 ≤ 43 by omega, show slots + 2 + 200 ≤ 1480 by omega⟩ (fun H locs hP hS => ?_)
  have hP : va_P D vwCl (me_ws cI (bd b) (.inr (5, fl) :: (R ++ C_X1 n)) M) H := hP
  refine me_putF (ci := 5) (C := RX5) (T := TX5) (N := 13) (k := 0) (q := n) (ty := .object "LadderOfBows$Letters") (fl := fl) hx hb hts in_X5_init_X5 tyX5_ok nmX5 hown hK bd_inj bd_A hP hS rfl rfl j hj (hts _ hlink) hfin hin hdecl hty rfl rfl hjl d4 (fun H locs hP hS => ?_)
  refine W.widen (k := cells + 2) (n := slots + 202) (show cells + 1 + 1 ≤ _ by omega) (show slots + 2 + 200 ≤ _ by omega) ?_
  exact kk H locs hP hS
set_option maxRecDepth 100000 in
set_option maxHeartbeats 4000000 in
theorem i5_X2 (C0 : i5_X p s m args meth c D cI b aK aV) (hn : R.length + 1 = n) (hce : cells + 1 = n) (hz : ∀ c, n ≤ c → c < n + 3 → M c = fun _ => 0) (hc1 : cells + 3 ≤ 43) (hs1 : slots + 138 ≤ 1480) (hjl : j < fl.length) (hj : j < 13) (hlink : Cond.fieldLink RX5 ix (TX5 j).1 (TX5 j).2.1 (TX5 j).2.2.1 ∈ wsX5_init) (hfin : (TX5 j).2.2.2 = true) (hdecl : (TX5 j).1 = RX5) (hty : tyX5 j = .object "LadderOfBows$Links") (d0 : decode cX5_init pc = .ok (.aload_n 0, 1)) (d1 : decode cX5_init (pc + 1) = .ok (.new 53, 3)) (d2 : decode cX5_init (pc + 4) = .ok (.dup, 1)) (d3 : decode cX5_init (pc + 5) = .ok (.invokespecial 55, 3)) (d4 : decode cX5_init (pc + 8) = .ok (.putfield ix, 3)) (hP : va_P D vwCl (me_ws cI (bd b) (.inr (5, fl) :: R) M) H) (hS : va_S (bA b) s.heap H locs) (hl : lv_has ls 1 [(0, .ref (bd b 0))])
    (kk : ∀ (H1 : Heap) (locs1 : List Loc), va_P D vwCl (me_ws cI (bd b) (.inr (5, fl.set j (some (some n))) :: (R ++ C_X2 n)) M) H1 → va_S (bA b) s.heap H1 locs1 → W p l e rmX5_init s m args below meth c H1 locs1 (cells + 3) (slots + 138) Q (F0 m (pc + 11) ls [])) : W p l e rmX5_init s m args below meth c H locs cells slots Q (F0 m pc ls []) := by
  obtain ⟨⟨hx, hb, hml, hown, hts⟩, hK, hE, hsz0, hin⟩ := C0
  have hbs : b ≤ s.heap.size := by omega
  have hlen : (.inr (5, fl) :: R : List CDs).length = n := hn
  refine lv_aload_n hx hb d0 rfl (lv_at hl 0 rfl) ?_
  refine me_sz hP hS hbs (by rw [hlen]; omega) (fun hsz => ?_)
  refine me_new (ci := 2) (C := RX2) (T := TX2) (N := 3) (k := n) (fl := [some none, some none, none]) hx hb hts in_X5_init_X2 tyX2 tyX2_ok hown (hts _ (List.mem_of_getElem? (i := 24) rfl)) (hts _ (List.mem_of_getElem? (i := 25) rfl)) (hts _ (List.mem_of_getElem? (i := 26) rfl)) hK hP hS hsz hlen (hz _ (by omega) (by omega)) rfl rfl hfs_X2 (show cells + 1 ≤ 43 by omega) (show slots + 3 ≤ 1480 by omega) d1 (fun H hP hS => ?_)
  refine lv_dup hx hb d2 rfl ?_
  refine me_sz hP hS hbs (by rw [List.length_append, hlen]; show _ = b + (n + 1); omega) (fun hsz => ?_)
  refine mk_callIN (As := []) (rest := [.ref (bd b n), .ref (bd b 0)]) ⟨hx, hb, hml, hown, hts⟩ (c_X2_i hlen hz) ⟨va_cnB 0 hts gX5_init_X2_init_n55 rfl rfl rfl (hE.2.2.2.2 (55, yX2_init) (List.mem_of_getElem? (i := 4) rfl)) (hts (.initialized RX2) (List.mem_of_getElem? (i := 26) rfl)) hi_X2 ⟨Nat.le_of_ble_eq_true rfl, Nat.le_of_ble_eq_true rfl⟩, rfl, hts _ im_X5_init_X2⟩ hK hP hS hsz rfl hl.1 rfl (Nat.le_of_ble_eq_true rfl) d3 ⟨show cells + 1 + 2 ≤ 43 by omega, show slots + 3 + 135 ≤ 1480 by omega⟩ (fun H locs hP hS => ?_)
  have hP : va_P D vwCl (me_ws cI (bd b) (.inr (5, fl) :: (R ++ C_X2 n)) M) H := hP
  refine me_putF (ci := 5) (C := RX5) (T := TX5) (N := 13) (k := 0) (q := n) (ty := .object "LadderOfBows$Links") (fl := fl) hx hb hts in_X5_init_X5 tyX5_ok nmX5 hown hK bd_inj bd_A hP hS rfl rfl j hj (hts _ hlink) hfin hin hdecl hty rfl rfl hjl d4 (fun H locs hP hS => ?_)
  refine W.widen (k := cells + 3) (n := slots + 138) (show cells + 1 + 2 ≤ _ by omega) (show slots + 3 + 135 ≤ _ by omega) ?_
  exact kk H locs hP hS
set_option maxRecDepth 100000 in
set_option maxHeartbeats 4000000 in
theorem i5_X3 (C0 : i5_X p s m args meth c D cI b aK aV) (hn : R.length + 1 = n) (hce : cells + 1 = n) (hz : ∀ c, n ≤ c → c < n + 2 → M c = fun _ => 0) (hc1 : cells + 2 ≤ 43) (hs1 : slots + 4 ≤ 1480) (hjl : j < fl.length) (hj : j < 13) (hlink : Cond.fieldLink RX5 ix (TX5 j).1 (TX5 j).2.1 (TX5 j).2.2.1 ∈ wsX5_init) (hfin : (TX5 j).2.2.2 = true) (hdecl : (TX5 j).1 = RX5) (hty : tyX5 j = .object "LadderOfBows$Reader") (d0 : decode cX5_init pc = .ok (.aload_n 0, 1)) (d1 : decode cX5_init (pc + 1) = .ok (.new 16, 3)) (d2 : decode cX5_init (pc + 4) = .ok (.dup, 1)) (d3 : decode cX5_init (pc + 5) = .ok (.invokespecial 18, 3)) (d4 : decode cX5_init (pc + 8) = .ok (.putfield ix, 3)) (hP : va_P D vwCl (me_ws cI (bd b) (.inr (5, fl) :: R) M) H) (hS : va_S (bA b) s.heap H locs) (hl : lv_has ls 1 [(0, .ref (bd b 0))])
    (kk : ∀ (H1 : Heap) (locs1 : List Loc), va_P D vwCl (me_ws cI (bd b) (.inr (5, fl.set j (some (some n))) :: (R ++ C_X3 n)) M) H1 → va_S (bA b) s.heap H1 locs1 → W p l e rmX5_init s m args below meth c H1 locs1 (cells + 2) (slots + 4) Q (F0 m (pc + 11) ls [])) : W p l e rmX5_init s m args below meth c H locs cells slots Q (F0 m pc ls []) := by
  obtain ⟨⟨hx, hb, hml, hown, hts⟩, hK, hE, hsz0, hin⟩ := C0
  have hbs : b ≤ s.heap.size := by omega
  have hlen : (.inr (5, fl) :: R : List CDs).length = n := hn
  refine lv_aload_n hx hb d0 rfl (lv_at hl 0 rfl) ?_
  refine me_sz hP hS hbs (by rw [hlen]; omega) (fun hsz => ?_)
  refine me_new (ci := 3) (C := RX3) (T := TX3) (N := 1) (k := n) (fl := [some none]) hx hb hts in_X5_init_X3 tyX3 tyX3_ok hown (hts _ (List.mem_of_getElem? (i := 8) rfl)) (hts _ (List.mem_of_getElem? (i := 9) rfl)) (hts _ (List.mem_of_getElem? (i := 10) rfl)) hK hP hS hsz hlen (hz _ (by omega) (by omega)) rfl rfl hfs_X3 (show cells + 1 ≤ 43 by omega) (show slots + 1 ≤ 1480 by omega) d1 (fun H hP hS => ?_)
  refine lv_dup hx hb d2 rfl ?_
  refine me_sz hP hS hbs (by rw [List.length_append, hlen]; show _ = b + (n + 1); omega) (fun hsz => ?_)
  refine mk_callIN (As := []) (rest := [.ref (bd b n), .ref (bd b 0)]) ⟨hx, hb, hml, hown, hts⟩ (c_X3_i hlen hz) ⟨va_cnB 0 hts gX5_init_X3_init_n18 rfl rfl rfl (hE.2.2.2.2 (18, yX3_init) (List.mem_of_getElem? (i := 1) rfl)) (hts (.initialized RX3) (List.mem_of_getElem? (i := 10) rfl)) hi_X3 ⟨Nat.le_of_ble_eq_true rfl, Nat.le_of_ble_eq_true rfl⟩, rfl, hts _ im_X5_init_X3⟩ hK hP hS hsz rfl hl.1 rfl (Nat.le_of_ble_eq_true rfl) d3 ⟨show cells + 1 + 1 ≤ 43 by omega, show slots + 1 + 3 ≤ 1480 by omega⟩ (fun H locs hP hS => ?_)
  have hP : va_P D vwCl (me_ws cI (bd b) (.inr (5, fl) :: (R ++ C_X3 n)) M) H := hP
  refine me_putF (ci := 5) (C := RX5) (T := TX5) (N := 13) (k := 0) (q := n) (ty := .object "LadderOfBows$Reader") (fl := fl) hx hb hts in_X5_init_X5 tyX5_ok nmX5 hown hK bd_inj bd_A hP hS rfl rfl j hj (hts _ hlink) hfin hin hdecl hty rfl rfl hjl d4 (fun H locs hP hS => ?_)
  refine W.widen (k := cells + 2) (n := slots + 4) (show cells + 1 + 1 ≤ _ by omega) (show slots + 1 + 3 ≤ _ by omega) ?_
  exact kk H locs hP hS
set_option maxRecDepth 100000 in
set_option maxHeartbeats 4000000 in
theorem i5_X4 (C0 : i5_X p s m args meth c D cI b aK aV) (hn : R.length + 1 = n) (hce : cells + 1 = n) (hz : ∀ c, n ≤ c → c < n + 5 → M c = fun _ => 0) (hc1 : cells + 5 ≤ 43) (hs1 : slots + 96 ≤ 1480) (hjl : j < fl.length) (hj : j < 13) (hlink : Cond.fieldLink RX5 ix (TX5 j).1 (TX5 j).2.1 (TX5 j).2.2.1 ∈ wsX5_init) (hfin : (TX5 j).2.2.2 = true) (hdecl : (TX5 j).1 = RX5) (hty : tyX5 j = .object "LadderOfBows$Town") (d0 : decode cX5_init pc = .ok (.aload_n 0, 1)) (d1 : decode cX5_init (pc + 1) = .ok (.new 34, 3)) (d2 : decode cX5_init (pc + 4) = .ok (.dup, 1)) (d3 : decode cX5_init (pc + 5) = .ok (.invokespecial 36, 3)) (d4 : decode cX5_init (pc + 8) = .ok (.putfield ix, 3)) (hP : va_P D vwCl (me_ws cI (bd b) (.inr (5, fl) :: R) M) H) (hS : va_S (bA b) s.heap H locs) (hl : lv_has ls 1 [(0, .ref (bd b 0))])
    (kk : ∀ (H1 : Heap) (locs1 : List Loc), va_P D vwCl (me_ws cI (bd b) (.inr (5, fl.set j (some (some n))) :: (R ++ C_X4 n)) M) H1 → va_S (bA b) s.heap H1 locs1 → W p l e rmX5_init s m args below meth c H1 locs1 (cells + 5) (slots + 96) Q (F0 m (pc + 11) ls [])) : W p l e rmX5_init s m args below meth c H locs cells slots Q (F0 m pc ls []) := by
  obtain ⟨⟨hx, hb, hml, hown, hts⟩, hK, hE, hsz0, hin⟩ := C0
  have hbs : b ≤ s.heap.size := by omega
  have hlen : (.inr (5, fl) :: R : List CDs).length = n := hn
  refine lv_aload_n hx hb d0 rfl (lv_at hl 0 rfl) ?_
  refine me_sz hP hS hbs (by rw [hlen]; omega) (fun hsz => ?_)
  refine me_new (ci := 4) (C := RX4) (T := TX4) (N := 8) (k := n) (fl := [none, none, none, none, some none, some none, some none, some none]) hx hb hts in_X5_init_X4 tyX4 tyX4_ok hown (hts _ (List.mem_of_getElem? (i := 14) rfl)) (hts _ (List.mem_of_getElem? (i := 15) rfl)) (hts _ (List.mem_of_getElem? (i := 16) rfl)) hK hP hS hsz hlen (hz _ (by omega) (by omega)) rfl rfl hfs_X4 (show cells + 1 ≤ 43 by omega) (show slots + 8 ≤ 1480 by omega) d1 (fun H hP hS => ?_)
  refine lv_dup hx hb d2 rfl ?_
  refine me_sz hP hS hbs (by rw [List.length_append, hlen]; show _ = b + (n + 1); omega) (fun hsz => ?_)
  refine mk_callIN (As := []) (rest := [.ref (bd b n), .ref (bd b 0)]) ⟨hx, hb, hml, hown, hts⟩ (c_X4_i hlen hz) ⟨va_cnB 0 hts gX5_init_X4_init_n36 rfl rfl rfl (hE.2.2.2.2 (36, yX4_init) (List.mem_of_getElem? (i := 2) rfl)) (hts (.initialized RX4) (List.mem_of_getElem? (i := 16) rfl)) hi_X4 ⟨Nat.le_of_ble_eq_true rfl, Nat.le_of_ble_eq_true rfl⟩, rfl, hts _ im_X5_init_X4⟩ hK hP hS hsz rfl hl.1 rfl (Nat.le_of_ble_eq_true rfl) d3 ⟨show cells + 1 + 4 ≤ 43 by omega, show slots + 8 + 88 ≤ 1480 by omega⟩ (fun H locs hP hS => ?_)
  have hP : va_P D vwCl (me_ws cI (bd b) (.inr (5, fl) :: (R ++ C_X4 n)) M) H := hP
  refine me_putF (ci := 5) (C := RX5) (T := TX5) (N := 13) (k := 0) (q := n) (ty := .object "LadderOfBows$Town") (fl := fl) hx hb hts in_X5_init_X5 tyX5_ok nmX5 hown hK bd_inj bd_A hP hS rfl rfl j hj (hts _ hlink) hfin hin hdecl hty rfl rfl hjl d4 (fun H locs hP hS => ?_)
  refine W.widen (k := cells + 5) (n := slots + 96) (show cells + 1 + 4 ≤ _ by omega) (show slots + 8 + 88 ≤ _ by omega) ?_
  exact kk H locs hP hS
set_option maxRecDepth 100000 in
set_option maxHeartbeats 4000000 in
theorem i5_f (C0 : i5_X p s m args meth c D cI b aK aV) (hn : R.length + 1 = n) (hce : cells + 1 = n) (hm : mkE_Met l yX5_firstTown wsX5_firstTown rmX5_firstTown (fs_E (bA b) aK aV) D cI b [] (some (.ref (bd b (n + 2)))) (.inr (5, fl) :: R) ((.inr (5, fl) :: R) ++ L_fT n) M M' 9 302) (hc1 : cells + 9 ≤ 43) (hs1 : slots + 302 ≤ 1480) (hjl : j < fl.length) (hj : j < 13) (hlink : Cond.fieldLink RX5 ix (TX5 j).1 (TX5 j).2.1 (TX5 j).2.2.1 ∈ wsX5_init) (hfin : (TX5 j).2.2.2 = true) (hdecl : (TX5 j).1 = RX5) (hty : tyX5 j = .object "LadderOfBows$Town") (d0 : decode cX5_init pc = .ok (.aload_n 0, 1)) (d1 : decode cX5_init (pc + 1) = .ok (.invokestatic 23, 3)) (d4 : decode cX5_init (pc + 4) = .ok (.putfield ix, 3)) (hP : va_P D vwCl (me_ws cI (bd b) (.inr (5, fl) :: R) M) H) (hS : va_S (bA b) s.heap H locs) (hl : lv_has ls 1 [(0, .ref (bd b 0))])
    (kk : ∀ (H1 : Heap) (locs1 : List Loc), va_P D vwCl (me_ws cI (bd b) (.inr (5, fl.set j (some (some (n + 2)))) :: (R ++ L_fT n)) M') H1 → va_S (bA b) s.heap H1 locs1 → W p l e rmX5_init s m args below meth c H1 locs1 (cells + 9) (slots + 302) Q (F0 m (pc + 7) ls [])) : W p l e rmX5_init s m args below meth c H locs cells slots Q (F0 m pc ls []) := by
  obtain ⟨⟨hx, hb, hml, hown, hts⟩, hK, hE, hsz0, hin⟩ := C0
  have hbs : b ≤ s.heap.size := by omega
  have hlen : (.inr (5, fl) :: R : List CDs).length = n := hn
  refine lv_aload_n hx hb d0 rfl (lv_at hl 0 rfl) ?_
  refine me_sz hP hS hbs (by rw [hlen]; omega) (fun hsz => ?_)
  refine mkE_callS (As := []) (rest := [.ref (bd b 0)]) ⟨hx, hb, hml, hown, hts⟩ hm (va_cwS 0 hts gX5_init_X5_firstTown rfl rfl rfl hd_X5_firstTown.2 ⟨Nat.le_of_ble_eq_true rfl, Nat.le_of_ble_eq_true rfl⟩) hE hK hP hS hsz rfl hl.1 rfl (Nat.le_of_ble_eq_true rfl) d1 ⟨show cells + 9 ≤ 43 by omega, show slots + 302 ≤ 1480 by omega⟩ (fun H locs hP hS => ?_)
  have hP : va_P D vwCl (me_ws cI (bd b) (.inr (5, fl) :: (R ++ L_fT n)) M') H := hP
  refine W.eq (g2 := F0 m (pc + 4) ls [.ref (bd b (n + 2)), .ref (bd b 0)]) rfl ?_
  refine me_putF (ci := 5) (C := RX5) (T := TX5) (N := 13) (k := 0) (q := n + 2) (ty := .object "LadderOfBows$Town") (fl := fl) hx hb hts in_X5_init_X5 tyX5_ok nmX5 hown hK bd_inj bd_A hP hS rfl rfl j hj (hts _ hlink) hfin hin hdecl hty rfl rfl hjl d4 (fun H locs hP hS => ?_)
  refine W.widen (k := cells + 9) (n := slots + 302) (show cells + 9 ≤ _ by omega) (show slots + 302 ≤ _ by omega) ?_
  exact kk H locs hP hS
set_option maxRecDepth 100000 in
set_option maxHeartbeats 4000000 in
theorem i5_a (C0 : i5_X p s m args meth c D cI b aK aV) (hn : R.length + 1 = n) (hce : cells + 1 = n) (hz : M n = fun _ => 0) (hc1 : cells + 1 ≤ 43) (hs1 : slots + 64 ≤ 1480) (hjl : j < fl.length) (hj : j < 13) (hlink : Cond.fieldLink RX5 ix (TX5 j).1 (TX5 j).2.1 (TX5 j).2.2.1 ∈ wsX5_init) (hfin : (TX5 j).2.2.2 = true) (hdecl : (TX5 j).1 = RX5) (hty : tyX5 j = .array .int) (d0 : decode cX5_init pc = .ok (.aload_n 0, 1)) (d1 : decode cX5_init (pc + 1) = .ok (.bipush 64, 2)) (d2 : decode cX5_init (pc + 3) = .ok (.newarray .int, 2)) (d4 : decode cX5_init (pc + 5) = .ok (.putfield ix, 3)) (hP : va_P D vwCl (me_ws cI (bd b) (.inr (5, fl) :: R) M) H) (hS : va_S (bA b) s.heap H locs) (hl : lv_has ls 1 [(0, .ref (bd b 0))])
    (kk : ∀ (H1 : Heap) (locs1 : List Loc), va_P D vwCl (me_ws cI (bd b) (.inr (5, fl.set j (some (some n))) :: (R ++ [.inl 64])) M) H1 → va_S (bA b) s.heap H1 locs1 → W p l e rmX5_init s m args below meth c H1 locs1 (cells + 1) (slots + 64) Q (F0 m (pc + 8) ls [])) : W p l e rmX5_init s m args below meth c H locs cells slots Q (F0 m pc ls []) := by
  obtain ⟨⟨hx, hb, hml, hown, hts⟩, hK, hE, hsz0, hin⟩ := C0
  have hbs : b ≤ s.heap.size := by omega
  have hlen : (.inr (5, fl) :: R : List CDs).length = n := hn
  refine lv_aload_n hx hb d0 rfl (lv_at hl 0 rfl) ?_
  refine lv_bipush (v := 64) hx hb d1 (by decide) ?_
  refine me_sz hP hS hbs (by rw [hlen]; omega) (fun hsz => ?_)
  refine me_newa (k := n) (N := 64) (L1 := .inr (5, fl) :: (R ++ [.inl 64])) hx hb (hts _ (List.mem_of_getElem? (i := 28) rfl)) hK hP hS hsz hlen hz (by decide) (by decide) rfl (by decide) (show cells + 1 ≤ 43 by omega) (show slots + 64 ≤ 1480 by omega) d2 (fun H hP hS => ?_)
  refine me_putF (ci := 5) (C := RX5) (T := TX5) (N := 13) (k := 0) (q := n) (ty := .array .int) (fl := fl) hx hb hts in_X5_init_X5 tyX5_ok nmX5 hown hK bd_inj bd_A hP hS rfl rfl j hj (hts _ hlink) hfin hin hdecl hty rfl rfl hjl d4 (fun H locs hP hS => ?_)
  exact kk H _ hP hS
end I5
