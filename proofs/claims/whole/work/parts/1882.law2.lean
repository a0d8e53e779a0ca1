set_option maxRecDepth 100000 in
set_option maxHeartbeats 4000000 in
theorem L_case11 {p : Program} {l : Launch} {e : Env} {s : State} {m : MethodId} {below : List Frame} {meth : Method} {c : Code} {D : va_G} {cI : ClassId} {ad : Nat → Nat} {Lc : List CDs} {b L i t u : Nat} {xs : Nat → Int32} {M : Mem} {ls : Array Slot} {H : Heap} {locs : List Loc} (C0 : L_X p s m meth c b L xs D cI ad Lc t u) (hi : i + 4 ≤ L) (hM : L_St t u M) (hP : va_P D vwCl (me_ws cI ad Lc M) H) (hS : va_S (me_A ad Lc s.heap.size) s.heap H locs) (hl : lv_has ls 4 [(0, .ref b), (1, .ref (ad t)), (2, .ref (ad u)), (3, .int (nI i))]) (kk : ∀ (M2 : Mem), L_St t u M2 → ∀ (H2 : Heap) (locs2 : List Loc), va_P D vwCl (me_ws cI ad Lc M2) H2 → va_S (me_A ad Lc s.heap.size) s.heap H2 locs2 → W p l e room_1 s m #[Value.ref b] below meth c H2 locs2 600000 7302249 (lw_Z below #[Value.ref b] s) (F0 m 959 ls [])) : W p l e room_1 s m #[Value.ref b] below meth c H locs 600000 7302249 (lw_Z below #[Value.ref b] s) (F0 m 473 ls []) := by
  have hbA := C0.no
  obtain ⟨⟨hx, hb, hr, hml, hown, hts, hX, hbl, hlocks, hgv⟩, hL, hK, hI, h5, h6, htu, hfr, hw⟩ := C0
  obtain ⟨tx, n, ea, K, S, d0, s0, A, kp, A1, A2, Z, hC, hR, hV⟩ := hM
  obtain ⟨v, M1, M2, e1, e2, hM2⟩ := PS.St (P_die hC hR hV htu : PS t u M (X5_die t (xs (i + 1))) (X6_die u (xs (i + 1))))
  refine lv_aload_n hx hb dL_law_473 rfl (lv_at hl 1 rfl) ?_
  refine lv_aload_n hx hb dL_law_474 rfl (lv_at hl 0 rfl) ?_
  refine lv_iload_n hx hb dL_law_475 rfl (lv_at hl 3 rfl) ?_
  refine lv_iconst (v := nI 1) hx hb dL_law_476 (by decide) ?_
  refine lv_iadd hx hb dL_law_477 ?_
  rw [nI_add i 1]
  refine va_sld hx hb hX hbl hbA hS (nI_in (show i + 1 < L by omega) (by omega)) dL_law_478 ?_
  rw [nI_clamp (show i + 1 < 2 ^ 31 by omega)]
  refine me_callVi (As := [.int (xs (i + 1))]) (rest := []) ⟨hx, hb, hml, hown, hw⟩ (c_X5_die h5 e1) (cwV 1 hw gL_law_X5_die rfl rfl rfl hd_X5_die ⟨(Nat.le_of_ble_eq_true rfl), (Nat.le_of_ble_eq_true rfl)⟩) hK hI hP hS h5.1 rfl rfl hl.1 rfl (Nat.le_of_ble_eq_true rfl) dL_law_479 ⟨Nat.le_refl _, Nat.le_refl _⟩ (fun H locs hP hS => ?_)
  refine lv_aload_n hx hb dL_law_482 rfl (lv_at hl 2 rfl) ?_
  refine lv_aload_n hx hb dL_law_483 rfl (lv_at hl 0 rfl) ?_
  refine lv_iload_n hx hb dL_law_484 rfl (lv_at hl 3 rfl) ?_
  refine lv_iconst (v := nI 1) hx hb dL_law_485 (by decide) ?_
  refine lv_iadd hx hb dL_law_486 ?_
  rw [nI_add i 1]
  refine va_sld hx hb hX hbl hbA hS (nI_in (show i + 1 < L by omega) (by omega)) dL_law_487 ?_
  rw [nI_clamp (show i + 1 < 2 ^ 31 by omega)]
  refine me_callVi (As := [.int (xs (i + 1))]) (rest := [.int v]) ⟨hx, hb, hml, hown, hw⟩ (c_X6_die h6 e2) (cwV 1 hw gL_law_X6_die rfl rfl rfl hd_X6_die ⟨(Nat.le_of_ble_eq_true rfl), (Nat.le_of_ble_eq_true rfl)⟩) hK hI hP hS h6.1 rfl rfl hl.1 rfl (Nat.le_of_ble_eq_true rfl) dL_law_488 ⟨Nat.le_refl _, Nat.le_refl _⟩ (fun H locs hP hS => ?_)
  refine lv_icmp_eq (tgt := 959) hx hb dL_law_491 (by decide) (fun _ => kk M2 hM2 H locs hP hS) (fun q => absurd rfl q)
set_option maxRecDepth 100000 in
set_option maxHeartbeats 4000000 in
theorem L_case12 {p : Program} {l : Launch} {e : Env} {s : State} {m : MethodId} {below : List Frame} {meth : Method} {c : Code} {D : va_G} {cI : ClassId} {ad : Nat → Nat} {Lc : List CDs} {b L i t u : Nat} {xs : Nat → Int32} {M : Mem} {ls : Array Slot} {H : Heap} {locs : List Loc} (C0 : L_X p s m meth c b L xs D cI ad Lc t u) (hi : i + 4 ≤ L) (hM : L_St t u M) (hP : va_P D vwCl (me_ws cI ad Lc M) H) (hS : va_S (me_A ad Lc s.heap.size) s.heap H locs) (hl : lv_has ls 4 [(0, .ref b), (1, .ref (ad t)), (2, .ref (ad u)), (3, .int (nI i))]) (kk : ∀ (M2 : Mem), L_St t u M2 → ∀ (H2 : Heap) (locs2 : List Loc), va_P D vwCl (me_ws cI ad Lc M2) H2 → va_S (me_A ad Lc s.heap.size) s.heap H2 locs2 → W p l e room_1 s m #[Value.ref b] below meth c H2 locs2 600000 7302249 (lw_Z below #[Value.ref b] s) (F0 m 959 ls [])) : W p l e room_1 s m #[Value.ref b] below meth c H locs 600000 7302249 (lw_Z below #[Value.ref b] s) (F0 m 496 ls []) := by
  have hbA := C0.no
  obtain ⟨⟨hx, hb, hr, hml, hown, hts, hX, hbl, hlocks, hgv⟩, hL, hK, hI, h5, h6, htu, hfr, hw⟩ := C0
  obtain ⟨tx, n, ea, K, S, d0, s0, A, kp, A1, A2, Z, hC, hR, hV⟩ := hM
  obtain ⟨v, M1, M2, e1, e2, hM2⟩ := PS.St (P_days hC hR hV htu : PS t u M (X5_days t (xs (i + 1))) (X6_days u (xs (i + 1))))
  refine lv_aload_n hx hb dL_law_496 rfl (lv_at hl 1 rfl) ?_
  refine lv_aload_n hx hb dL_law_497 rfl (lv_at hl 0 rfl) ?_
  refine lv_iload_n hx hb dL_law_498 rfl (lv_at hl 3 rfl) ?_
  refine lv_iconst (v := nI 1) hx hb dL_law_499 (by decide) ?_
  refine lv_iadd hx hb dL_law_500 ?_
  rw [nI_add i 1]
  refine va_sld hx hb hX hbl hbA hS (nI_in (show i + 1 < L by omega) (by omega)) dL_law_501 ?_
  rw [nI_clamp (show i + 1 < 2 ^ 31 by omega)]
  refine me_callVi (As := [.int (xs (i + 1))]) (rest := []) ⟨hx, hb, hml, hown, hw⟩ (c_X5_days h5 e1) (cwV 1 hw gL_law_X5_days rfl rfl rfl hd_X5_days ⟨(Nat.le_of_ble_eq_true rfl), (Nat.le_of_ble_eq_true rfl)⟩) hK hI hP hS h5.1 rfl rfl hl.1 rfl (Nat.le_of_ble_eq_true rfl) dL_law_502 ⟨Nat.le_refl _, Nat.le_refl _⟩ (fun H locs hP hS => ?_)
  refine lv_aload_n hx hb dL_law_505 rfl (lv_at hl 2 rfl) ?_
  refine lv_aload_n hx hb dL_law_506 rfl (lv_at hl 0 rfl) ?_
  refine lv_iload_n hx hb dL_law_507 rfl (lv_at hl 3 rfl) ?_
  refine lv_iconst (v := nI 1) hx hb dL_law_508 (by decide) ?_
  refine lv_iadd hx hb dL_law_509 ?_
  rw [nI_add i 1]
  refine va_sld hx hb hX hbl hbA hS (nI_in (show i + 1 < L by omega) (by omega)) dL_law_510 ?_
  rw [nI_clamp (show i + 1 < 2 ^ 31 by omega)]
  refine me_callVi (As := [.int (xs (i + 1))]) (rest := [.int v]) ⟨hx, hb, hml, hown, hw⟩ (c_X6_days h6 e2) (cwV 1 hw gL_law_X6_days rfl rfl rfl hd_X6_days ⟨(Nat.le_of_ble_eq_true rfl), (Nat.le_of_ble_eq_true rfl)⟩) hK hI hP hS h6.1 rfl rfl hl.1 rfl (Nat.le_of_ble_eq_true rfl) dL_law_511 ⟨Nat.le_refl _, Nat.le_refl _⟩ (fun H locs hP hS => ?_)
  refine lv_icmp_eq (tgt := 959) hx hb dL_law_514 (by decide) (fun _ => kk M2 hM2 H locs hP hS) (fun q => absurd rfl q)
set_option maxRecDepth 100000 in
set_option maxHeartbeats 4000000 in
theorem L_case13 {p : Program} {l : Launch} {e : Env} {s : State} {m : MethodId} {below : List Frame} {meth : Method} {c : Code} {D : va_G} {cI : ClassId} {ad : Nat → Nat} {Lc : List CDs} {b L i t u : Nat} {xs : Nat → Int32} {M : Mem} {ls : Array Slot} {H : Heap} {locs : List Loc} (C0 : L_X p s m meth c b L xs D cI ad Lc t u) (hi : i + 4 ≤ L) (hM : L_St t u M) (hP : va_P D vwCl (me_ws cI ad Lc M) H) (hS : va_S (me_A ad Lc s.heap.size) s.heap H locs) (hl : lv_has ls 4 [(0, .ref b), (1, .ref (ad t)), (2, .ref (ad u)), (3, .int (nI i))]) (kk : ∀ (M2 : Mem), L_St t u M2 → ∀ (H2 : Heap) (locs2 : List Loc), va_P D vwCl (me_ws cI ad Lc M2) H2 → va_S (me_A ad Lc s.heap.size) s.heap H2 locs2 → W p l e room_1 s m #[Value.ref b] below meth c H2 locs2 600000 7302249 (lw_Z below #[Value.ref b] s) (F0 m 959 ls [])) : W p l e room_1 s m #[Value.ref b] below meth c H locs 600000 7302249 (lw_Z below #[Value.ref b] s) (F0 m 519 ls []) := by
  have hbA := C0.no
  obtain ⟨⟨hx, hb, hr, hml, hown, hts, hX, hbl, hlocks, hgv⟩, hL, hK, hI, h5, h6, htu, hfr, hw⟩ := C0
  obtain ⟨tx, n, ea, K, S, d0, s0, A, kp, A1, A2, Z, hC, hR, hV⟩ := hM
  obtain ⟨v, M1, M2, e1, e2, hM2⟩ := PS.St (P_undo hC hR hV htu : PS t u M (X5_undo t) (X6_undo u))
  refine lv_aload_n hx hb dL_law_519 rfl (lv_at hl 1 rfl) ?_
  refine me_callVi (As := []) (rest := []) ⟨hx, hb, hml, hown, hw⟩ (c_X5_undo h5 e1) (cwV 0 hw gL_law_X5_undo rfl rfl rfl hd_X5_undo ⟨(Nat.le_of_ble_eq_true rfl), (Nat.le_of_ble_eq_true rfl)⟩) hK hI hP hS h5.1 rfl rfl hl.1 rfl (Nat.le_of_ble_eq_true rfl) dL_law_520 ⟨Nat.le_refl _, Nat.le_refl _⟩ (fun H locs hP hS => ?_)
  refine lv_aload_n hx hb dL_law_523 rfl (lv_at hl 2 rfl) ?_
  refine me_callVi (As := []) (rest := [.int v]) ⟨hx, hb, hml, hown, hw⟩ (c_X6_undo h6 e2) (cwV 0 hw gL_law_X6_undo rfl rfl rfl hd_X6_undo ⟨(Nat.le_of_ble_eq_true rfl), (Nat.le_of_ble_eq_true rfl)⟩) hK hI hP hS h6.1 rfl rfl hl.1 rfl (Nat.le_of_ble_eq_true rfl) dL_law_524 ⟨Nat.le_refl _, Nat.le_refl _⟩ (fun H locs hP hS => ?_)
  refine lv_icmp_eq (tgt := 959) hx hb dL_law_527 (by decide) (fun _ => kk M2 hM2 H locs hP hS) (fun q => absurd rfl q)
set_option maxRecDepth 100000 in
set_option maxHeartbeats 4000000 in
theorem L_case14 {p : Program} {l : Launch} {e : Env} {s : State} {m : MethodId} {below : List Frame} {meth : Method} {c : Code} {D : va_G} {cI : ClassId} {ad : Nat → Nat} {Lc : List CDs} {b L i t u : Nat} {xs : Nat → Int32} {M : Mem} {ls : Array Slot} {H : Heap} {locs : List Loc} (C0 : L_X p s m meth c b L xs D cI ad Lc t u) (hi : i + 4 ≤ L) (hM : L_St t u M) (hP : va_P D vwCl (me_ws cI ad Lc M) H) (hS : va_S (me_A ad Lc s.heap.size) s.heap H locs) (hl : lv_has ls 4 [(0, .ref b), (1, .ref (ad t)), (2, .ref (ad u)), (3, .int (nI i))]) (kk : ∀ (M2 : Mem), L_St t u M2 → ∀ (H2 : Heap) (locs2 : List Loc), va_P D vwCl (me_ws cI ad Lc M2) H2 → va_S (me_A ad Lc s.heap.size) s.heap H2 locs2 → W p l e room_1 s m #[Value.ref b] below meth c H2 locs2 600000 7302249 (lw_Z below #[Value.ref b] s) (F0 m 959 ls [])) : W p l e room_1 s m #[Value.ref b] below meth c H locs 600000 7302249 (lw_Z below #[Value.ref b] s) (F0 m 532 ls []) := by
  have hbA := C0.no
  obtain ⟨⟨hx, hb, hr, hml, hown, hts, hX, hbl, hlocks, hgv⟩, hL, hK, hI, h5, h6, htu, hfr, hw⟩ := C0
  obtain ⟨tx, n, ea, K, S, d0, s0, A, kp, A1, A2, Z, hC, hR, hV⟩ := hM
  obtain ⟨v, M1, M2, e1, e2, hM2⟩ := PS.St (P_peace hC hR hV htu : PS t u M (X5_peace t (xs (i + 1))) (X6_peace u (xs (i + 1))))
  refine lv_aload_n hx hb dL_law_532 rfl (lv_at hl 1 rfl) ?_
  refine lv_aload_n hx hb dL_law_533 rfl (lv_at hl 0 rfl) ?_
  refine lv_iload_n hx hb dL_law_534 rfl (lv_at hl 3 rfl) ?_
  refine lv_iconst (v := nI 1) hx hb dL_law_535 (by decide) ?_
  refine lv_iadd hx hb dL_law_536 ?_
  rw [nI_add i 1]
  refine va_sld hx hb hX hbl hbA hS (nI_in (show i + 1 < L by omega) (by omega)) dL_law_537 ?_
  rw [nI_clamp (show i + 1 < 2 ^ 31 by omega)]
  refine me_callVi (As := [.int (xs (i + 1))]) (rest := []) ⟨hx, hb, hml, hown, hw⟩ (c_X5_peace h5 e1) (cwV 1 hw gL_law_X5_peace rfl rfl rfl hd_X5_peace ⟨(Nat.le_of_ble_eq_true rfl), (Nat.le_of_ble_eq_true rfl)⟩) hK hI hP hS h5.1 rfl rfl hl.1 rfl (Nat.le_of_ble_eq_true rfl) dL_law_538 ⟨Nat.le_refl _, Nat.le_refl _⟩ (fun H locs hP hS => ?_)
  refine lv_aload_n hx hb dL_law_541 rfl (lv_at hl 2 rfl) ?_
  refine lv_aload_n hx hb dL_law_542 rfl (lv_at hl 0 rfl) ?_
  refine lv_iload_n hx hb dL_law_543 rfl (lv_at hl 3 rfl) ?_
  refine lv_iconst (v := nI 1) hx hb dL_law_544 (by decide) ?_
  refine lv_iadd hx hb dL_law_545 ?_
  rw [nI_add i 1]
  refine va_sld hx hb hX hbl hbA hS (nI_in (show i + 1 < L by omega) (by omega)) dL_law_546 ?_
  rw [nI_clamp (show i + 1 < 2 ^ 31 by omega)]
  refine me_callVi (As := [.int (xs (i + 1))]) (rest := [.int v]) ⟨hx, hb, hml, hown, hw⟩ (c_X6_peace h6 e2) (cwV 1 hw gL_law_X6_peace rfl rfl rfl hd_X6_peace ⟨(Nat.le_of_ble_eq_true rfl), (Nat.le_of_ble_eq_true rfl)⟩) hK hI hP hS h6.1 rfl rfl hl.1 rfl (Nat.le_of_ble_eq_true rfl) dL_law_547 ⟨Nat.le_refl _, Nat.le_refl _⟩ (fun H locs hP hS => ?_)
  refine lv_icmp_eq (tgt := 959) hx hb dL_law_550 (by decide) (fun _ => kk M2 hM2 H locs hP hS) (fun q => absurd rfl q)
set_option maxRecDepth 100000 in
set_option maxHeartbeats 4000000 in
theorem L_case15 {p : Program} {l : Launch} {e : Env} {s : State} {m : MethodId} {below : List Frame} {meth : Method} {c : Code} {D : va_G} {cI : ClassId} {ad : Nat → Nat} {Lc : List CDs} {b L i t u : Nat} {xs : Nat → Int32} {M : Mem} {ls : Array Slot} {H : Heap} {locs : List Loc} (C0 : L_X p s m meth c b L xs D cI ad Lc t u) (hi : i + 4 ≤ L) (hM : L_St t u M) (hP : va_P D vwCl (me_ws cI ad Lc M) H) (hS : va_S (me_A ad Lc s.heap.size) s.heap H locs) (hl : lv_has ls 4 [(0, .ref b), (1, .ref (ad t)), (2, .ref (ad u)), (3, .int (nI i))]) (kk : ∀ (M2 : Mem), L_St t u M2 → ∀ (H2 : Heap) (locs2 : List Loc), va_P D vwCl (me_ws cI ad Lc M2) H2 → va_S (me_A ad Lc s.heap.size) s.heap H2 locs2 → W p l e room_1 s m #[Value.ref b] below meth c H2 locs2 600000 7302249 (lw_Z below #[Value.ref b] s) (F0 m 959 ls [])) : W p l e room_1 s m #[Value.ref b] below meth c H locs 600000 7302249 (lw_Z below #[Value.ref b] s) (F0 m 555 ls []) := by
  have hbA := C0.no
  obtain ⟨⟨hx, hb, hr, hml, hown, hts, hX, hbl, hlocks, hgv⟩, hL, hK, hI, h5, h6, htu, hfr, hw⟩ := C0
  obtain ⟨tx, n, ea, K, S, d0, s0, A, kp, A1, A2, Z, hC, hR, hV⟩ := hM
  obtain ⟨v, M1, M2, e1, e2, hM2⟩ := PS.St (P_ring hC hR hV htu : PS t u M (X5_ring t (xs (i + 1)) (xs (i + 2))) (X6_ring u (xs (i + 1)) (xs (i + 2))))
  refine lv_aload_n hx hb dL_law_555 rfl (lv_at hl 1 rfl) ?_
  refine lv_aload_n hx hb dL_law_556 rfl (lv_at hl 0 rfl) ?_
  refine lv_iload_n hx hb dL_law_557 rfl (lv_at hl 3 rfl) ?_
  refine lv_iconst (v := nI 1) hx hb dL_law_558 (by decide) ?_
  refine lv_iadd hx hb dL_law_559 ?_
  rw [nI_add i 1]
  refine va_sld hx hb hX hbl hbA hS (nI_in (show i + 1 < L by omega) (by omega)) dL_law_560 ?_
  rw [nI_clamp (show i + 1 < 2 ^ 31 by omega)]
  refine lv_aload_n hx hb dL_law_561 rfl (lv_at hl 0 rfl) ?_
  refine lv_iload_n hx hb dL_law_562 rfl (lv_at hl 3 rfl) ?_
  refine lv_iconst (v := nI 2) hx hb dL_law_563 (by decide) ?_
  refine lv_iadd hx hb dL_law_564 ?_
  rw [nI_add i 2]
  refine va_sld hx hb hX hbl hbA hS (nI_in (show i + 2 < L by omega) (by omega)) dL_law_565 ?_
  rw [nI_clamp (show i + 2 < 2 ^ 31 by omega)]
  refine me_callVi (As := [.int (xs (i + 1)), .int (xs (i + 2))]) (rest := []) ⟨hx, hb, hml, hown, hw⟩ (c_X5_ring h5 e1) (cwV 2 hw gL_law_X5_ring rfl rfl rfl hd_X5_ring ⟨(Nat.le_of_ble_eq_true rfl), (Nat.le_of_ble_eq_true rfl)⟩) hK hI hP hS h5.1 rfl rfl hl.1 rfl (Nat.le_of_ble_eq_true rfl) dL_law_566 ⟨Nat.le_refl _, Nat.le_refl _⟩ (fun H locs hP hS => ?_)
  refine lv_aload_n hx hb dL_law_569 rfl (lv_at hl 2 rfl) ?_
  refine lv_aload_n hx hb dL_law_570 rfl (lv_at hl 0 rfl) ?_
  refine lv_iload_n hx hb dL_law_571 rfl (lv_at hl 3 rfl) ?_
  refine lv_iconst (v := nI 1) hx hb dL_law_572 (by decide) ?_
  refine lv_iadd hx hb dL_law_573 ?_
  rw [nI_add i 1]
  refine va_sld hx hb hX hbl hbA hS (nI_in (show i + 1 < L by omega) (by omega)) dL_law_574 ?_
  rw [nI_clamp (show i + 1 < 2 ^ 31 by omega)]
  refine lv_aload_n hx hb dL_law_575 rfl (lv_at hl 0 rfl) ?_
  refine lv_iload_n hx hb dL_law_576 rfl (lv_at hl 3 rfl) ?_
  refine lv_iconst (v := nI 2) hx hb dL_law_577 (by decide) ?_
  refine lv_iadd hx hb dL_law_578 ?_
  rw [nI_add i 2]
  refine va_sld hx hb hX hbl hbA hS (nI_in (show i + 2 < L by omega) (by omega)) dL_law_579 ?_
  rw [nI_clamp (show i + 2 < 2 ^ 31 by omega)]
  refine me_callVi (As := [.int (xs (i + 1)), .int (xs (i + 2))]) (rest := [.int v]) ⟨hx, hb, hml, hown, hw⟩ (c_X6_ring h6 e2) (cwV 2 hw gL_law_X6_ring rfl rfl rfl hd_X6_ring ⟨(Nat.le_of_ble_eq_true rfl), (Nat.le_of_ble_eq_true rfl)⟩) hK hI hP hS h6.1 rfl rfl hl.1 rfl (Nat.le_of_ble_eq_true rfl) dL_law_580 ⟨Nat.le_refl _, Nat.le_refl _⟩ (fun H locs hP hS => ?_)
  refine lv_icmp_eq (tgt := 959) hx hb dL_law_583 (by decide) (fun _ => kk M2 hM2 H locs hP hS) (fun q => absurd rfl q)
set_option maxRecDepth 100000 in
set_option maxHeartbeats 4000000 in
theorem L_case16 {p : Program} {l : Launch} {e : Env} {s : State} {m : MethodId} {below : List Frame} {meth : Method} {c : Code} {D : va_G} {cI : ClassId} {ad : Nat → Nat} {Lc : List CDs} {b L i t u : Nat} {xs : Nat → Int32} {M : Mem} {ls : Array Slot} {H : Heap} {locs : List Loc} (C0 : L_X p s m meth c b L xs D cI ad Lc t u) (hi : i + 4 ≤ L) (hM : L_St t u M) (hP : va_P D vwCl (me_ws cI ad Lc M) H) (hS : va_S (me_A ad Lc s.heap.size) s.heap H locs) (hl : lv_has ls 4 [(0, .ref b), (1, .ref (ad t)), (2, .ref (ad u)), (3, .int (nI i))]) (kk : ∀ (M2 : Mem), L_St t u M2 → ∀ (H2 : Heap) (locs2 : List Loc), va_P D vwCl (me_ws cI ad Lc M2) H2 → va_S (me_A ad Lc s.heap.size) s.heap H2 locs2 → W p l e room_1 s m #[Value.ref b] below meth c H2 locs2 600000 7302249 (lw_Z below #[Value.ref b] s) (F0 m 959 ls [])) : W p l e room_1 s m #[Value.ref b] below meth c H locs 600000 7302249 (lw_Z below #[Value.ref b] s) (F0 m 588 ls []) := by
  have hbA := C0.no
  obtain ⟨⟨hx, hb, hr, hml, hown, hts, hX, hbl, hlocks, hgv⟩, hL, hK, hI, h5, h6, htu, hfr, hw⟩ := C0
  obtain ⟨tx, n, ea, K, S, d0, s0, A, kp, A1, A2, Z, hC, hR, hV⟩ := hM
  obtain ⟨v, M1, M2, e1, e2, hM2⟩ := PS.St (P_forgiven hC hR hV htu : PS t u M (X5_forgiven t (xs (i + 1))) (X6_forgiven u (xs (i + 1))))
  refine lv_aload_n hx hb dL_law_588 rfl (lv_at hl 1 rfl) ?_
  refine lv_aload_n hx hb dL_law_589 rfl (lv_at hl 0 rfl) ?_
  refine lv_iload_n hx hb dL_law_590 rfl (lv_at hl 3 rfl) ?_
  refine lv_iconst (v := nI 1) hx hb dL_law_591 (by decide) ?_
  refine lv_iadd hx hb dL_law_592 ?_
  rw [nI_add i 1]
  refine va_sld hx hb hX hbl hbA hS (nI_in (show i + 1 < L by omega) (by omega)) dL_law_593 ?_
  rw [nI_clamp (show i + 1 < 2 ^ 31 by omega)]
  refine me_callVi (As := [.int (xs (i + 1))]) (rest := []) ⟨hx, hb, hml, hown, hw⟩ (c_X5_forgiven h5 e1) (cwV 1 hw gL_law_X5_forgiven rfl rfl rfl hd_X5_forgiven ⟨(Nat.le_of_ble_eq_true rfl), (Nat.le_of_ble_eq_true rfl)⟩) hK hI hP hS h5.1 rfl rfl hl.1 rfl (Nat.le_of_ble_eq_true rfl) dL_law_594 ⟨Nat.le_refl _, Nat.le_refl _⟩ (fun H locs hP hS => ?_)
  refine lv_aload_n hx hb dL_law_597 rfl (lv_at hl 2 rfl) ?_
  refine lv_aload_n hx hb dL_law_598 rfl (lv_at hl 0 rfl) ?_
  refine lv_iload_n hx hb dL_law_599 rfl (lv_at hl 3 rfl) ?_
  refine lv_iconst (v := nI 1) hx hb dL_law_600 (by decide) ?_
  refine lv_iadd hx hb dL_law_601 ?_
  rw [nI_add i 1]
  refine va_sld hx hb hX hbl hbA hS (nI_in (show i + 1 < L by omega) (by omega)) dL_law_602 ?_
  rw [nI_clamp (show i + 1 < 2 ^ 31 by omega)]
  refine me_callVi (As := [.int (xs (i + 1))]) (rest := [.int v]) ⟨hx, hb, hml, hown, hw⟩ (c_X6_forgiven h6 e2) (cwV 1 hw gL_law_X6_forgiven rfl rfl rfl hd_X6_forgiven ⟨(Nat.le_of_ble_eq_true rfl), (Nat.le_of_ble_eq_true rfl)⟩) hK hI hP hS h6.1 rfl rfl hl.1 rfl (Nat.le_of_ble_eq_true rfl) dL_law_603 ⟨Nat.le_refl _, Nat.le_refl _⟩ (fun H locs hP hS => ?_)
  refine lv_icmp_eq (tgt := 959) hx hb dL_law_606 (by decide) (fun _ => kk M2 hM2 H locs hP hS) (fun q => absurd rfl q)
set_option maxRecDepth 100000 in
set_option maxHeartbeats 4000000 in
theorem L_case17 {p : Program} {l : Launch} {e : Env} {s : State} {m : MethodId} {below : List Frame} {meth : Method} {c : Code} {D : va_G} {cI : ClassId} {ad : Nat → Nat} {Lc : List CDs} {b L i t u : Nat} {xs : Nat → Int32} {M : Mem} {ls : Array Slot} {H : Heap} {locs : List Loc} (C0 : L_X p s m meth c b L xs D cI ad Lc t u) (hi : i + 4 ≤ L) (hM : L_St t u M) (hP : va_P D vwCl (me_ws cI ad Lc M) H) (hS : va_S (me_A ad Lc s.heap.size) s.heap H locs) (hl : lv_has ls 4 [(0, .ref b), (1, .ref (ad t)), (2, .ref (ad u)), (3, .int (nI i))]) (kk : ∀ (M2 : Mem), L_St t u M2 → ∀ (H2 : Heap) (locs2 : List Loc), va_P D vwCl (me_ws cI ad Lc M2) H2 → va_S (me_A ad Lc s.heap.size) s.heap H2 locs2 → W p l e room_1 s m #[Value.ref b] below meth c H2 locs2 600000 7302249 (lw_Z below #[Value.ref b] s) (F0 m 959 ls [])) : W p l e room_1 s m #[Value.ref b] below meth c H locs 600000 7302249 (lw_Z below #[Value.ref b] s) (F0 m 611 ls []) := by
  have hbA := C0.no
  obtain ⟨⟨hx, hb, hr, hml, hown, hts, hX, hbl, hlocks, hgv⟩, hL, hK, hI, h5, h6, htu, hfr, hw⟩ := C0
  obtain ⟨tx, n, ea, K, S, d0, s0, A, kp, A1, A2, Z, hC, hR, hV⟩ := hM
  obtain ⟨v, M1, M2, e1, e2, hM2⟩ := PS.St (P_mustNot hC hR hV htu : PS t u M (X5_mustNot t (xs (i + 1))) (X6_mustNot u (xs (i + 1))))
  refine lv_aload_n hx hb dL_law_611 rfl (lv_at hl 1 rfl) ?_
  refine lv_aload_n hx hb dL_law_612 rfl (lv_at hl 0 rfl) ?_
  refine lv_iload_n hx hb dL_law_613 rfl (lv_at hl 3 rfl) ?_
  refine lv_iconst (v := nI 1) hx hb dL_law_614 (by decide) ?_
  refine lv_iadd hx hb dL_law_615 ?_
  rw [nI_add i 1]
  refine va_sld hx hb hX hbl hbA hS (nI_in (show i + 1 < L by omega) (by omega)) dL_law_616 ?_
  rw [nI_clamp (show i + 1 < 2 ^ 31 by omega)]
  refine me_callVi (As := [.int (xs (i + 1))]) (rest := []) ⟨hx, hb, hml, hown, hw⟩ (c_X5_mustNot h5 e1) (cwV 1 hw gL_law_X5_mustNot rfl rfl rfl hd_X5_mustNot ⟨(Nat.le_of_ble_eq_true rfl), (Nat.le_of_ble_eq_true rfl)⟩) hK hI hP hS h5.1 rfl rfl hl.1 rfl (Nat.le_of_ble_eq_true rfl) dL_law_617 ⟨Nat.le_refl _, Nat.le_refl _⟩ (fun H locs hP hS => ?_)
  refine lv_aload_n hx hb dL_law_620 rfl (lv_at hl 2 rfl) ?_
  refine lv_aload_n hx hb dL_law_621 rfl (lv_at hl 0 rfl) ?_
  refine lv_iload_n hx hb dL_law_622 rfl (lv_at hl 3 rfl) ?_
  refine lv_iconst (v := nI 1) hx hb dL_law_623 (by decide) ?_
  refine lv_iadd hx hb dL_law_624 ?_
  rw [nI_add i 1]
  refine va_sld hx hb hX hbl hbA hS (nI_in (show i + 1 < L by omega) (by omega)) dL_law_625 ?_
  rw [nI_clamp (show i + 1 < 2 ^ 31 by omega)]
  refine me_callVi (As := [.int (xs (i + 1))]) (rest := [.int v]) ⟨hx, hb, hml, hown, hw⟩ (c_X6_mustNot h6 e2) (cwV 1 hw gL_law_X6_mustNot rfl rfl rfl hd_X6_mustNot ⟨(Nat.le_of_ble_eq_true rfl), (Nat.le_of_ble_eq_true rfl)⟩) hK hI hP hS h6.1 rfl rfl hl.1 rfl (Nat.le_of_ble_eq_true rfl) dL_law_626 ⟨Nat.le_refl _, Nat.le_refl _⟩ (fun H locs hP hS => ?_)
  refine lv_icmp_eq (tgt := 959) hx hb dL_law_629 (by decide) (fun _ => kk M2 hM2 H locs hP hS) (fun q => absurd rfl q)
set_option maxRecDepth 100000 in
set_option maxHeartbeats 4000000 in
theorem L_case18 {p : Program} {l : Launch} {e : Env} {s : State} {m : MethodId} {below : List Frame} {meth : Method} {c : Code} {D : va_G} {cI : ClassId} {ad : Nat → Nat} {Lc : List CDs} {b L i t u : Nat} {xs : Nat → Int32} {M : Mem} {ls : Array Slot} {H : Heap} {locs : List Loc} (C0 : L_X p s m meth c b L xs D cI ad Lc t u) (hi : i + 4 ≤ L) (hM : L_St t u M) (hP : va_P D vwCl (me_ws cI ad Lc M) H) (hS : va_S (me_A ad Lc s.heap.size) s.heap H locs) (hl : lv_has ls 4 [(0, .ref b), (1, .ref (ad t)), (2, .ref (ad u)), (3, .int (nI i))]) (kk : ∀ (M2 : Mem), L_St t u M2 → ∀ (H2 : Heap) (locs2 : List Loc), va_P D vwCl (me_ws cI ad Lc M2) H2 → va_S (me_A ad Lc s.heap.size) s.heap H2 locs2 → W p l e room_1 s m #[Value.ref b] below meth c H2 locs2 600000 7302249 (lw_Z below #[Value.ref b] s) (F0 m 959 ls [])) : W p l e room_1 s m #[Value.ref b] below meth c H locs 600000 7302249 (lw_Z below #[Value.ref b] s) (F0 m 634 ls []) := by
  have hbA := C0.no
  obtain ⟨⟨hx, hb, hr, hml, hown, hts, hX, hbl, hlocks, hgv⟩, hL, hK, hI, h5, h6, htu, hfr, hw⟩ := C0
  obtain ⟨tx, n, ea, K, S, d0, s0, A, kp, A1, A2, Z, hC, hR, hV⟩ := hM
  obtain ⟨v, M1, M2, e1, e2, hM2⟩ := PS.St (P_began hC hR hV htu : PS t u M (X5_began t) (X6_began u))
  refine lv_aload_n hx hb dL_law_634 rfl (lv_at hl 1 rfl) ?_
  refine me_callVi (As := []) (rest := []) ⟨hx, hb, hml, hown, hw⟩ (c_X5_began h5 e1) (cwV 0 hw gL_law_X5_began rfl rfl rfl hd_X5_began ⟨(Nat.le_of_ble_eq_true rfl), (Nat.le_of_ble_eq_true rfl)⟩) hK hI hP hS h5.1 rfl rfl hl.1 rfl (Nat.le_of_ble_eq_true rfl) dL_law_635 ⟨Nat.le_refl _, Nat.le_refl _⟩ (fun H locs hP hS => ?_)
  refine lv_aload_n hx hb dL_law_638 rfl (lv_at hl 2 rfl) ?_
  refine me_callVi (As := []) (rest := [.int v]) ⟨hx, hb, hml, hown, hw⟩ (c_X6_began h6 e2) (cwV 0 hw gL_law_X6_began rfl rfl rfl hd_X6_began ⟨(Nat.le_of_ble_eq_true rfl), (Nat.le_of_ble_eq_true rfl)⟩) hK hI hP hS h6.1 rfl rfl hl.1 rfl (Nat.le_of_ble_eq_true rfl) dL_law_639 ⟨Nat.le_refl _, Nat.le_refl _⟩ (fun H locs hP hS => ?_)
  refine lv_icmp_eq (tgt := 959) hx hb dL_law_642 (by decide) (fun _ => kk M2 hM2 H locs hP hS) (fun q => absurd rfl q)
set_option maxRecDepth 100000 in
set_option maxHeartbeats 4000000 in
theorem L_case19 {p : Program} {l : Launch} {e : Env} {s : State} {m : MethodId} {below : List Frame} {meth : Method} {c : Code} {D : va_G} {cI : ClassId} {ad : Nat → Nat} {Lc : List CDs} {b L i t u : Nat} {xs : Nat → Int32} {M : Mem} {ls : Array Slot} {H : Heap} {locs : List Loc} (C0 : L_X p s m meth c b L xs D cI ad Lc t u) (hi : i + 4 ≤ L) (hM : L_St t u M) (hP : va_P D vwCl (me_ws cI ad Lc M) H) (hS : va_S (me_A ad Lc s.heap.size) s.heap H locs) (hl : lv_has ls 4 [(0, .ref b), (1, .ref (ad t)), (2, .ref (ad u)), (3, .int (nI i))]) (kk : ∀ (M2 : Mem), L_St t u M2 → ∀ (H2 : Heap) (locs2 : List Loc), va_P D vwCl (me_ws cI ad Lc M2) H2 → va_S (me_A ad Lc s.heap.size) s.heap H2 locs2 → W p l e room_1 s m #[Value.ref b] below meth c H2 locs2 600000 7302249 (lw_Z below #[Value.ref b] s) (F0 m 959 ls [])) : W p l e room_1 s m #[Value.ref b] below meth c H locs 600000 7302249 (lw_Z below #[Value.ref b] s) (F0 m 647 ls []) := by
  have hbA := C0.no
  obtain ⟨⟨hx, hb, hr, hml, hown, hts, hX, hbl, hlocks, hgv⟩, hL, hK, hI, h5, h6, htu, hfr, hw⟩ := C0
  obtain ⟨tx, n, ea, K, S, d0, s0, A, kp, A1, A2, Z, hC, hR, hV⟩ := hM
  obtain ⟨v, M1, M2, e1, e2, hM2⟩ := PS.St (P_word hC hR hV htu : PS t u M (X5_word t (xs (i + 1)) (xs (i + 2))) (X6_word u (xs (i + 1)) (xs (i + 2))))
  refine lv_aload_n hx hb dL_law_647 rfl (lv_at hl 1 rfl) ?_
  refine lv_aload_n hx hb dL_law_648 rfl (lv_at hl 0 rfl) ?_
  refine lv_iload_n hx hb dL_law_649 rfl (lv_at hl 3 rfl) ?_
  refine lv_iconst (v := nI 1) hx hb dL_law_650 (by decide) ?_
  refine lv_iadd hx hb dL_law_651 ?_
  rw [nI_add i 1]
  refine va_sld hx hb hX hbl hbA hS (nI_in (show i + 1 < L by omega) (by omega)) dL_law_652 ?_
  rw [nI_clamp (show i + 1 < 2 ^ 31 by omega)]
  refine lv_aload_n hx hb dL_law_653 rfl (lv_at hl 0 rfl) ?_
  refine lv_iload_n hx hb dL_law_654 rfl (lv_at hl 3 rfl) ?_
  refine lv_iconst (v := nI 2) hx hb dL_law_655 (by decide) ?_
  refine lv_iadd hx hb dL_law_656 ?_
  rw [nI_add i 2]
  refine va_sld hx hb hX hbl hbA hS (nI_in (show i + 2 < L by omega) (by omega)) dL_law_657 ?_
  rw [nI_clamp (show i + 2 < 2 ^ 31 by omega)]
  refine me_callVi (As := [.int (xs (i + 1)), .int (xs (i + 2))]) (rest := []) ⟨hx, hb, hml, hown, hw⟩ (c_X5_word h5 e1) (cwV 2 hw gL_law_X5_word rfl rfl rfl hd_X5_word ⟨(Nat.le_of_ble_eq_true rfl), (Nat.le_of_ble_eq_true rfl)⟩) hK hI hP hS h5.1 rfl rfl hl.1 rfl (Nat.le_of_ble_eq_true rfl) dL_law_658 ⟨Nat.le_refl _, Nat.le_refl _⟩ (fun H locs hP hS => ?_)
  refine lv_aload_n hx hb dL_law_661 rfl (lv_at hl 2 rfl) ?_
  refine lv_aload_n hx hb dL_law_662 rfl (lv_at hl 0 rfl) ?_
  refine lv_iload_n hx hb dL_law_663 rfl (lv_at hl 3 rfl) ?_
  refine lv_iconst (v := nI 1) hx hb dL_law_664 (by decide) ?_
  refine lv_iadd hx hb dL_law_665 ?_
  rw [nI_add i 1]
  refine va_sld hx hb hX hbl hbA hS (nI_in (show i + 1 < L by omega) (by omega)) dL_law_666 ?_
  rw [nI_clamp (show i + 1 < 2 ^ 31 by omega)]
  refine lv_aload_n hx hb dL_law_667 rfl (lv_at hl 0 rfl) ?_
  refine lv_iload_n hx hb dL_law_668 rfl (lv_at hl 3 rfl) ?_
  refine lv_iconst (v := nI 2) hx hb dL_law_669 (by decide) ?_
  refine lv_iadd hx hb dL_law_670 ?_
  rw [nI_add i 2]
  refine va_sld hx hb hX hbl hbA hS (nI_in (show i + 2 < L by omega) (by omega)) dL_law_671 ?_
  rw [nI_clamp (show i + 2 < 2 ^ 31 by omega)]
  refine me_callVi (As := [.int (xs (i + 1)), .int (xs (i + 2))]) (rest := [.int v]) ⟨hx, hb, hml, hown, hw⟩ (c_X6_word h6 e2) (cwV 2 hw gL_law_X6_word rfl rfl rfl hd_X6_word ⟨(Nat.le_of_ble_eq_true rfl), (Nat.le_of_ble_eq_true rfl)⟩) hK hI hP hS h6.1 rfl rfl hl.1 rfl (Nat.le_of_ble_eq_true rfl) dL_law_672 ⟨Nat.le_refl _, Nat.le_refl _⟩ (fun H locs hP hS => ?_)
  refine lv_icmp_eq (tgt := 959) hx hb dL_law_675 (by decide) (fun _ => kk M2 hM2 H locs hP hS) (fun q => absurd rfl q)
set_option maxRecDepth 100000 in
set_option maxHeartbeats 4000000 in
theorem L_case20 {p : Program} {l : Launch} {e : Env} {s : State} {m : MethodId} {below : List Frame} {meth : Method} {c : Code} {D : va_G} {cI : ClassId} {ad : Nat → Nat} {Lc : List CDs} {b L i t u : Nat} {xs : Nat → Int32} {M : Mem} {ls : Array Slot} {H : Heap} {locs : List Loc} (C0 : L_X p s m meth c b L xs D cI ad Lc t u) (hi : i + 4 ≤ L) (hM : L_St t u M) (hP : va_P D vwCl (me_ws cI ad Lc M) H) (hS : va_S (me_A ad Lc s.heap.size) s.heap H locs) (hl : lv_has ls 4 [(0, .ref b), (1, .ref (ad t)), (2, .ref (ad u)), (3, .int (nI i))]) (kk : ∀ (M2 : Mem), L_St t u M2 → ∀ (H2 : Heap) (locs2 : List Loc), va_P D vwCl (me_ws cI ad Lc M2) H2 → va_S (me_A ad Lc s.heap.size) s.heap H2 locs2 → W p l e room_1 s m #[Value.ref b] below meth c H2 locs2 600000 7302249 (lw_Z below #[Value.ref b] s) (F0 m 959 ls [])) : W p l e room_1 s m #[Value.ref b] below meth c H locs 600000 7302249 (lw_Z below #[Value.ref b] s) (F0 m 680 ls []) := by
  have hbA := C0.no
  obtain ⟨⟨hx, hb, hr, hml, hown, hts, hX, hbl, hlocks, hgv⟩, hL, hK, hI, h5, h6, htu, hfr, hw⟩ := C0
  obtain ⟨tx, n, ea, K, S, d0, s0, A, kp, A1, A2, Z, hC, hR, hV⟩ := hM
  obtain ⟨v, M1, M2, e1, e2, hM2⟩ := PS.St (P_vote hC hR hV htu : PS t u M (X5_vote t) (X6_vote u))
  refine lv_aload_n hx hb dL_law_680 rfl (lv_at hl 1 rfl) ?_
  refine me_callVi (As := []) (rest := []) ⟨hx, hb, hml, hown, hw⟩ (c_X5_vote h5 e1) (cwV 0 hw gL_law_X5_vote rfl rfl rfl hd_X5_vote ⟨(Nat.le_of_ble_eq_true rfl), (Nat.le_of_ble_eq_true rfl)⟩) hK hI hP hS h5.1 rfl rfl hl.1 rfl (Nat.le_of_ble_eq_true rfl) dL_law_681 ⟨Nat.le_refl _, Nat.le_refl _⟩ (fun H locs hP hS => ?_)
  refine lv_aload_n hx hb dL_law_684 rfl (lv_at hl 2 rfl) ?_
  refine me_callVi (As := []) (rest := [.int v]) ⟨hx, hb, hml, hown, hw⟩ (c_X6_vote h6 e2) (cwV 0 hw gL_law_X6_vote rfl rfl rfl hd_X6_vote ⟨(Nat.le_of_ble_eq_true rfl), (Nat.le_of_ble_eq_true rfl)⟩) hK hI hP hS h6.1 rfl rfl hl.1 rfl (Nat.le_of_ble_eq_true rfl) dL_law_685 ⟨Nat.le_refl _, Nat.le_refl _⟩ (fun H locs hP hS => ?_)
  refine lv_icmp_eq (tgt := 959) hx hb dL_law_688 (by decide) (fun _ => kk M2 hM2 H locs hP hS) (fun q => absurd rfl q)
set_option maxRecDepth 100000 in
set_option maxHeartbeats 4000000 in
theorem L_case21 {p : Program} {l : Launch} {e : Env} {s : State} {m : MethodId} {below : List Frame} {meth : Method} {c : Code} {D : va_G} {cI : ClassId} {ad : Nat → Nat} {Lc : List CDs} {b L i t u : Nat} {xs : Nat → Int32} {M : Mem} {ls : Array Slot} {H : Heap} {locs : List Loc} (C0 : L_X p s m meth c b L xs D cI ad Lc t u) (hi : i + 4 ≤ L) (hM : L_St t u M) (hP : va_P D vwCl (me_ws cI ad Lc M) H) (hS : va_S (me_A ad Lc s.heap.size) s.heap H locs) (hl : lv_has ls 4 [(0, .ref b), (1, .ref (ad t)), (2, .ref (ad u)), (3, .int (nI i))]) (kk : ∀ (M2 : Mem), L_St t u M2 → ∀ (H2 : Heap) (locs2 : List Loc), va_P D vwCl (me_ws cI ad Lc M2) H2 → va_S (me_A ad Lc s.heap.size) s.heap H2 locs2 → W p l e room_1 s m #[Value.ref b] below meth c H2 locs2 600000 7302249 (lw_Z below #[Value.ref b] s) (F0 m 959 ls [])) : W p l e room_1 s m #[Value.ref b] below meth c H locs 600000 7302249 (lw_Z below #[Value.ref b] s) (F0 m 693 ls []) := by
  have hbA := C0.no
  obtain ⟨⟨hx, hb, hr, hml, hown, hts, hX, hbl, hlocks, hgv⟩, hL, hK, hI, h5, h6, htu, hfr, hw⟩ := C0
  obtain ⟨tx, n, ea, K, S, d0, s0, A, kp, A1, A2, Z, hC, hR, hV⟩ := hM
  obtain ⟨v, M1, M2, e1, e2, hM2⟩ := PS.St (P_deals hC hR hV htu : PS t u M (X5_deals t) (X6_deals u))
  refine lv_aload_n hx hb dL_law_693 rfl (lv_at hl 1 rfl) ?_
  refine me_callVi (As := []) (rest := []) ⟨hx, hb, hml, hown, hw⟩ (c_X5_deals h5 e1) (cwV 0 hw gL_law_X5_deals rfl rfl rfl hd_X5_deals ⟨(Nat.le_of_ble_eq_true rfl), (Nat.le_of_ble_eq_true rfl)⟩) hK hI hP hS h5.1 rfl rfl hl.1 rfl (Nat.le_of_ble_eq_true rfl) dL_law_694 ⟨Nat.le_refl _, Nat.le_refl _⟩ (fun H locs hP hS => ?_)
  refine lv_aload_n hx hb dL_law_697 rfl (lv_at hl 2 rfl) ?_
  refine me_callVi (As := []) (rest := [.int v]) ⟨hx, hb, hml, hown, hw⟩ (c_X6_deals h6 e2) (cwV 0 hw gL_law_X6_deals rfl rfl rfl hd_X6_deals ⟨(Nat.le_of_ble_eq_true rfl), (Nat.le_of_ble_eq_true rfl)⟩) hK hI hP hS h6.1 rfl rfl hl.1 rfl (Nat.le_of_ble_eq_true rfl) dL_law_698 ⟨Nat.le_refl _, Nat.le_refl _⟩ (fun H locs hP hS => ?_)
  refine lv_icmp_eq (tgt := 959) hx hb dL_law_701 (by decide) (fun _ => kk M2 hM2 H locs hP hS) (fun q => absurd rfl q)
