set_option maxRecDepth 100000 in
set_option maxHeartbeats 4000000 in
theorem L_case22 {p : Program} {l : Launch} {e : Env} {s : State} {m : MethodId} {below : List Frame} {meth : Method} {c : Code} {D : va_G} {cI : ClassId} {ad : Nat → Nat} {Lc : List CDs} {b L i t u : Nat} {xs : Nat → Int32} {M : Mem} {ls : Array Slot} {H : Heap} {locs : List Loc} (C0 : L_X p s m meth c b L xs D cI ad Lc t u) (hi : i + 4 ≤ L) (hM : L_St t u M) (hP : va_P D vwCl (me_ws cI ad Lc M) H) (hS : va_S (me_A ad Lc s.heap.size) s.heap H locs) (hl : lv_has ls 4 [(0, .ref b), (1, .ref (ad t)), (2, .ref (ad u)), (3, .int (nI i))]) (kk : ∀ (M2 : Mem), L_St t u M2 → ∀ (H2 : Heap) (locs2 : List Loc), va_P D vwCl (me_ws cI ad Lc M2) H2 → va_S (me_A ad Lc s.heap.size) s.heap H2 locs2 → W p l e room_1 s m #[Value.ref b] below meth c H2 locs2 600000 7302249 (lw_Z below #[Value.ref b] s) (F0 m 959 ls [])) : W p l e room_1 s m #[Value.ref b] below meth c H locs 600000 7302249 (lw_Z below #[Value.ref b] s) (F0 m 706 ls []) := by
  have hbA := C0.no
  obtain ⟨⟨hx, hb, hr, hml, hown, hts, hX, hbl, hlocks, hgv⟩, hL, hK, hI, h5, h6, htu, hfr, hw⟩ := C0
  obtain ⟨tx, n, ea, K, S, d0, s0, A, kp, A1, A2, Z, hC, hR, hV⟩ := hM
  obtain ⟨v, M1, M2, e1, e2, hM2⟩ := PS.St (P_guests hC hR hV htu : PS t u M (X5_guests t (xs (i + 1)) (xs (i + 2))) (X6_guests u (xs (i + 1)) (xs (i + 2))))
  refine lv_aload_n hx hb dL_law_706 rfl (lv_at hl 1 rfl) ?_
  refine lv_aload_n hx hb dL_law_707 rfl (lv_at hl 0 rfl) ?_
  refine lv_iload_n hx hb dL_law_708 rfl (lv_at hl 3 rfl) ?_
  refine lv_iconst (v := nI 1) hx hb dL_law_709 (by decide) ?_
  refine lv_iadd hx hb dL_law_710 ?_
  rw [nI_add i 1]
  refine va_sld hx hb hX hbl hbA hS (nI_in (show i + 1 < L by omega) (by omega)) dL_law_711 ?_
  rw [nI_clamp (show i + 1 < 2 ^ 31 by omega)]
  refine lv_aload_n hx hb dL_law_712 rfl (lv_at hl 0 rfl) ?_
  refine lv_iload_n hx hb dL_law_713 rfl (lv_at hl 3 rfl) ?_
  refine lv_iconst (v := nI 2) hx hb dL_law_714 (by decide) ?_
  refine lv_iadd hx hb dL_law_715 ?_
  rw [nI_add i 2]
  refine va_sld hx hb hX hbl hbA hS (nI_in (show i + 2 < L by omega) (by omega)) dL_law_716 ?_
  rw [nI_clamp (show i + 2 < 2 ^ 31 by omega)]
  refine me_callVi (As := [.int (xs (i + 1)), .int (xs (i + 2))]) (rest := []) ⟨hx, hb, hml, hown, hw⟩ (c_X5_guests h5 e1) (cwV 2 hw gL_law_X5_guests rfl rfl rfl hd_X5_guests ⟨(Nat.le_of_ble_eq_true rfl), (Nat.le_of_ble_eq_true rfl)⟩) hK hI hP hS h5.1 rfl rfl hl.1 rfl (Nat.le_of_ble_eq_true rfl) dL_law_717 ⟨Nat.le_refl _, Nat.le_refl _⟩ (fun H locs hP hS => ?_)
  refine lv_aload_n hx hb dL_law_720 rfl (lv_at hl 2 rfl) ?_
  refine lv_aload_n hx hb dL_law_721 rfl (lv_at hl 0 rfl) ?_
  refine lv_iload_n hx hb dL_law_722 rfl (lv_at hl 3 rfl) ?_
  refine lv_iconst (v := nI 1) hx hb dL_law_723 (by decide) ?_
  refine lv_iadd hx hb dL_law_724 ?_
  rw [nI_add i 1]
  refine va_sld hx hb hX hbl hbA hS (nI_in (show i + 1 < L by omega) (by omega)) dL_law_725 ?_
  rw [nI_clamp (show i + 1 < 2 ^ 31 by omega)]
  refine lv_aload_n hx hb dL_law_726 rfl (lv_at hl 0 rfl) ?_
  refine lv_iload_n hx hb dL_law_727 rfl (lv_at hl 3 rfl) ?_
  refine lv_iconst (v := nI 2) hx hb dL_law_728 (by decide) ?_
  refine lv_iadd hx hb dL_law_729 ?_
  rw [nI_add i 2]
  refine va_sld hx hb hX hbl hbA hS (nI_in (show i + 2 < L by omega) (by omega)) dL_law_730 ?_
  rw [nI_clamp (show i + 2 < 2 ^ 31 by omega)]
  refine me_callVi (As := [.int (xs (i + 1)), .int (xs (i + 2))]) (rest := [.int v]) ⟨hx, hb, hml, hown, hw⟩ (c_X6_guests h6 e2) (cwV 2 hw gL_law_X6_guests rfl rfl rfl hd_X6_guests ⟨(Nat.le_of_ble_eq_true rfl), (Nat.le_of_ble_eq_true rfl)⟩) hK hI hP hS h6.1 rfl rfl hl.1 rfl (Nat.le_of_ble_eq_true rfl) dL_law_731 ⟨Nat.le_refl _, Nat.le_refl _⟩ (fun H locs hP hS => ?_)
  refine lv_icmp_eq (tgt := 959) hx hb dL_law_734 (by decide) (fun _ => kk M2 hM2 H locs hP hS) (fun q => absurd rfl q)
set_option maxRecDepth 100000 in
set_option maxHeartbeats 4000000 in
theorem L_case23 {p : Program} {l : Launch} {e : Env} {s : State} {m : MethodId} {below : List Frame} {meth : Method} {c : Code} {D : va_G} {cI : ClassId} {ad : Nat → Nat} {Lc : List CDs} {b L i t u : Nat} {xs : Nat → Int32} {M : Mem} {ls : Array Slot} {H : Heap} {locs : List Loc} (C0 : L_X p s m meth c b L xs D cI ad Lc t u) (hi : i + 4 ≤ L) (hM : L_St t u M) (hP : va_P D vwCl (me_ws cI ad Lc M) H) (hS : va_S (me_A ad Lc s.heap.size) s.heap H locs) (hl : lv_has ls 4 [(0, .ref b), (1, .ref (ad t)), (2, .ref (ad u)), (3, .int (nI i))]) (kk : ∀ (M2 : Mem), L_St t u M2 → ∀ (H2 : Heap) (locs2 : List Loc), va_P D vwCl (me_ws cI ad Lc M2) H2 → va_S (me_A ad Lc s.heap.size) s.heap H2 locs2 → W p l e room_1 s m #[Value.ref b] below meth c H2 locs2 600000 7302249 (lw_Z below #[Value.ref b] s) (F0 m 959 ls [])) : W p l e room_1 s m #[Value.ref b] below meth c H locs 600000 7302249 (lw_Z below #[Value.ref b] s) (F0 m 739 ls []) := by
  have hbA := C0.no
  obtain ⟨⟨hx, hb, hr, hml, hown, hts, hX, hbl, hlocks, hgv⟩, hL, hK, hI, h5, h6, htu, hfr, hw⟩ := C0
  obtain ⟨tx, n, ea, K, S, d0, s0, A, kp, A1, A2, Z, hC, hR, hV⟩ := hM
  obtain ⟨v, M1, M2, e1, e2, hM2⟩ := PS.St (P_court hC hR hV htu : PS t u M (X5_court t (xs (i + 1)) (xs (i + 2))) (X6_court u (xs (i + 1)) (xs (i + 2))))
  refine lv_aload_n hx hb dL_law_739 rfl (lv_at hl 1 rfl) ?_
  refine lv_aload_n hx hb dL_law_740 rfl (lv_at hl 0 rfl) ?_
  refine lv_iload_n hx hb dL_law_741 rfl (lv_at hl 3 rfl) ?_
  refine lv_iconst (v := nI 1) hx hb dL_law_742 (by decide) ?_
  refine lv_iadd hx hb dL_law_743 ?_
  rw [nI_add i 1]
  refine va_sld hx hb hX hbl hbA hS (nI_in (show i + 1 < L by omega) (by omega)) dL_law_744 ?_
  rw [nI_clamp (show i + 1 < 2 ^ 31 by omega)]
  refine lv_aload_n hx hb dL_law_745 rfl (lv_at hl 0 rfl) ?_
  refine lv_iload_n hx hb dL_law_746 rfl (lv_at hl 3 rfl) ?_
  refine lv_iconst (v := nI 2) hx hb dL_law_747 (by decide) ?_
  refine lv_iadd hx hb dL_law_748 ?_
  rw [nI_add i 2]
  refine va_sld hx hb hX hbl hbA hS (nI_in (show i + 2 < L by omega) (by omega)) dL_law_749 ?_
  rw [nI_clamp (show i + 2 < 2 ^ 31 by omega)]
  refine me_callVi (As := [.int (xs (i + 1)), .int (xs (i + 2))]) (rest := []) ⟨hx, hb, hml, hown, hw⟩ (c_X5_court h5 e1) (cwV 2 hw gL_law_X5_court rfl rfl rfl hd_X5_court ⟨(Nat.le_of_ble_eq_true rfl), (Nat.le_of_ble_eq_true rfl)⟩) hK hI hP hS h5.1 rfl rfl hl.1 rfl (Nat.le_of_ble_eq_true rfl) dL_law_750 ⟨Nat.le_refl _, Nat.le_refl _⟩ (fun H locs hP hS => ?_)
  refine lv_aload_n hx hb dL_law_753 rfl (lv_at hl 2 rfl) ?_
  refine lv_aload_n hx hb dL_law_754 rfl (lv_at hl 0 rfl) ?_
  refine lv_iload_n hx hb dL_law_755 rfl (lv_at hl 3 rfl) ?_
  refine lv_iconst (v := nI 1) hx hb dL_law_756 (by decide) ?_
  refine lv_iadd hx hb dL_law_757 ?_
  rw [nI_add i 1]
  refine va_sld hx hb hX hbl hbA hS (nI_in (show i + 1 < L by omega) (by omega)) dL_law_758 ?_
  rw [nI_clamp (show i + 1 < 2 ^ 31 by omega)]
  refine lv_aload_n hx hb dL_law_759 rfl (lv_at hl 0 rfl) ?_
  refine lv_iload_n hx hb dL_law_760 rfl (lv_at hl 3 rfl) ?_
  refine lv_iconst (v := nI 2) hx hb dL_law_761 (by decide) ?_
  refine lv_iadd hx hb dL_law_762 ?_
  rw [nI_add i 2]
  refine va_sld hx hb hX hbl hbA hS (nI_in (show i + 2 < L by omega) (by omega)) dL_law_763 ?_
  rw [nI_clamp (show i + 2 < 2 ^ 31 by omega)]
  refine me_callVi (As := [.int (xs (i + 1)), .int (xs (i + 2))]) (rest := [.int v]) ⟨hx, hb, hml, hown, hw⟩ (c_X6_court h6 e2) (cwV 2 hw gL_law_X6_court rfl rfl rfl hd_X6_court ⟨(Nat.le_of_ble_eq_true rfl), (Nat.le_of_ble_eq_true rfl)⟩) hK hI hP hS h6.1 rfl rfl hl.1 rfl (Nat.le_of_ble_eq_true rfl) dL_law_764 ⟨Nat.le_refl _, Nat.le_refl _⟩ (fun H locs hP hS => ?_)
  refine lv_icmp_eq (tgt := 959) hx hb dL_law_767 (by decide) (fun _ => kk M2 hM2 H locs hP hS) (fun q => absurd rfl q)
set_option maxRecDepth 100000 in
set_option maxHeartbeats 4000000 in
theorem L_case24 {p : Program} {l : Launch} {e : Env} {s : State} {m : MethodId} {below : List Frame} {meth : Method} {c : Code} {D : va_G} {cI : ClassId} {ad : Nat → Nat} {Lc : List CDs} {b L i t u : Nat} {xs : Nat → Int32} {M : Mem} {ls : Array Slot} {H : Heap} {locs : List Loc} (C0 : L_X p s m meth c b L xs D cI ad Lc t u) (hi : i + 4 ≤ L) (hM : L_St t u M) (hP : va_P D vwCl (me_ws cI ad Lc M) H) (hS : va_S (me_A ad Lc s.heap.size) s.heap H locs) (hl : lv_has ls 4 [(0, .ref b), (1, .ref (ad t)), (2, .ref (ad u)), (3, .int (nI i))]) (kk : ∀ (M2 : Mem), L_St t u M2 → ∀ (H2 : Heap) (locs2 : List Loc), va_P D vwCl (me_ws cI ad Lc M2) H2 → va_S (me_A ad Lc s.heap.size) s.heap H2 locs2 → W p l e room_1 s m #[Value.ref b] below meth c H2 locs2 600000 7302249 (lw_Z below #[Value.ref b] s) (F0 m 959 ls [])) : W p l e room_1 s m #[Value.ref b] below meth c H locs 600000 7302249 (lw_Z below #[Value.ref b] s) (F0 m 772 ls []) := by
  have hbA := C0.no
  obtain ⟨⟨hx, hb, hr, hml, hown, hts, hX, hbl, hlocks, hgv⟩, hL, hK, hI, h5, h6, htu, hfr, hw⟩ := C0
  obtain ⟨tx, n, ea, K, S, d0, s0, A, kp, A1, A2, Z, hC, hR, hV⟩ := hM
  obtain ⟨v, M1, M2, e1, e2, hM2⟩ := PS.St (P_stranger hC hR hV htu : PS t u M (X5_stranger t (xs (i + 1))) (X6_stranger u (xs (i + 1))))
  refine lv_aload_n hx hb dL_law_772 rfl (lv_at hl 1 rfl) ?_
  refine lv_aload_n hx hb dL_law_773 rfl (lv_at hl 0 rfl) ?_
  refine lv_iload_n hx hb dL_law_774 rfl (lv_at hl 3 rfl) ?_
  refine lv_iconst (v := nI 1) hx hb dL_law_775 (by decide) ?_
  refine lv_iadd hx hb dL_law_776 ?_
  rw [nI_add i 1]
  refine va_sld hx hb hX hbl hbA hS (nI_in (show i + 1 < L by omega) (by omega)) dL_law_777 ?_
  rw [nI_clamp (show i + 1 < 2 ^ 31 by omega)]
  refine me_callVi (As := [.int (xs (i + 1))]) (rest := []) ⟨hx, hb, hml, hown, hw⟩ (c_X5_stranger h5 e1) (cwV 1 hw gL_law_X5_stranger rfl rfl rfl hd_X5_stranger ⟨(Nat.le_of_ble_eq_true rfl), (Nat.le_of_ble_eq_true rfl)⟩) hK hI hP hS h5.1 rfl rfl hl.1 rfl (Nat.le_of_ble_eq_true rfl) dL_law_778 ⟨Nat.le_refl _, Nat.le_refl _⟩ (fun H locs hP hS => ?_)
  refine lv_aload_n hx hb dL_law_781 rfl (lv_at hl 2 rfl) ?_
  refine lv_aload_n hx hb dL_law_782 rfl (lv_at hl 0 rfl) ?_
  refine lv_iload_n hx hb dL_law_783 rfl (lv_at hl 3 rfl) ?_
  refine lv_iconst (v := nI 1) hx hb dL_law_784 (by decide) ?_
  refine lv_iadd hx hb dL_law_785 ?_
  rw [nI_add i 1]
  refine va_sld hx hb hX hbl hbA hS (nI_in (show i + 1 < L by omega) (by omega)) dL_law_786 ?_
  rw [nI_clamp (show i + 1 < 2 ^ 31 by omega)]
  refine me_callVi (As := [.int (xs (i + 1))]) (rest := [.int v]) ⟨hx, hb, hml, hown, hw⟩ (c_X6_stranger h6 e2) (cwV 1 hw gL_law_X6_stranger rfl rfl rfl hd_X6_stranger ⟨(Nat.le_of_ble_eq_true rfl), (Nat.le_of_ble_eq_true rfl)⟩) hK hI hP hS h6.1 rfl rfl hl.1 rfl (Nat.le_of_ble_eq_true rfl) dL_law_787 ⟨Nat.le_refl _, Nat.le_refl _⟩ (fun H locs hP hS => ?_)
  refine lv_icmp_eq (tgt := 959) hx hb dL_law_790 (by decide) (fun _ => kk M2 hM2 H locs hP hS) (fun q => absurd rfl q)
set_option maxRecDepth 100000 in
set_option maxHeartbeats 4000000 in
theorem L_case25 {p : Program} {l : Launch} {e : Env} {s : State} {m : MethodId} {below : List Frame} {meth : Method} {c : Code} {D : va_G} {cI : ClassId} {ad : Nat → Nat} {Lc : List CDs} {b L i t u : Nat} {xs : Nat → Int32} {M : Mem} {ls : Array Slot} {H : Heap} {locs : List Loc} (C0 : L_X p s m meth c b L xs D cI ad Lc t u) (hi : i + 4 ≤ L) (hM : L_St t u M) (hP : va_P D vwCl (me_ws cI ad Lc M) H) (hS : va_S (me_A ad Lc s.heap.size) s.heap H locs) (hl : lv_has ls 4 [(0, .ref b), (1, .ref (ad t)), (2, .ref (ad u)), (3, .int (nI i))]) (kk : ∀ (M2 : Mem), L_St t u M2 → ∀ (H2 : Heap) (locs2 : List Loc), va_P D vwCl (me_ws cI ad Lc M2) H2 → va_S (me_A ad Lc s.heap.size) s.heap H2 locs2 → W p l e room_1 s m #[Value.ref b] below meth c H2 locs2 600000 7302249 (lw_Z below #[Value.ref b] s) (F0 m 959 ls [])) : W p l e room_1 s m #[Value.ref b] below meth c H locs 600000 7302249 (lw_Z below #[Value.ref b] s) (F0 m 795 ls []) := by
  have hbA := C0.no
  obtain ⟨⟨hx, hb, hr, hml, hown, hts, hX, hbl, hlocks, hgv⟩, hL, hK, hI, h5, h6, htu, hfr, hw⟩ := C0
  obtain ⟨tx, n, ea, K, S, d0, s0, A, kp, A1, A2, Z, hC, hR, hV⟩ := hM
  obtain ⟨v, M1, M2, e1, e2, hM2⟩ := PS.St (P_easter hC hR hV htu : PS t u M (X5_easter t) (X6_easter u))
  refine lv_aload_n hx hb dL_law_795 rfl (lv_at hl 1 rfl) ?_
  refine me_callVi (As := []) (rest := []) ⟨hx, hb, hml, hown, hw⟩ (c_X5_easter h5 e1) (cwV 0 hw gL_law_X5_easter rfl rfl rfl hd_X5_easter ⟨(Nat.le_of_ble_eq_true rfl), (Nat.le_of_ble_eq_true rfl)⟩) hK hI hP hS h5.1 rfl rfl hl.1 rfl (Nat.le_of_ble_eq_true rfl) dL_law_796 ⟨Nat.le_refl _, Nat.le_refl _⟩ (fun H locs hP hS => ?_)
  refine lv_aload_n hx hb dL_law_799 rfl (lv_at hl 2 rfl) ?_
  refine me_callVi (As := []) (rest := [.int v]) ⟨hx, hb, hml, hown, hw⟩ (c_X6_easter h6 e2) (cwV 0 hw gL_law_X6_easter rfl rfl rfl hd_X6_easter ⟨(Nat.le_of_ble_eq_true rfl), (Nat.le_of_ble_eq_true rfl)⟩) hK hI hP hS h6.1 rfl rfl hl.1 rfl (Nat.le_of_ble_eq_true rfl) dL_law_800 ⟨Nat.le_refl _, Nat.le_refl _⟩ (fun H locs hP hS => ?_)
  refine lv_icmp_eq (tgt := 959) hx hb dL_law_803 (by decide) (fun _ => kk M2 hM2 H locs hP hS) (fun q => absurd rfl q)
set_option maxRecDepth 100000 in
set_option maxHeartbeats 4000000 in
theorem L_case26 {p : Program} {l : Launch} {e : Env} {s : State} {m : MethodId} {below : List Frame} {meth : Method} {c : Code} {D : va_G} {cI : ClassId} {ad : Nat → Nat} {Lc : List CDs} {b L i t u : Nat} {xs : Nat → Int32} {M : Mem} {ls : Array Slot} {H : Heap} {locs : List Loc} (C0 : L_X p s m meth c b L xs D cI ad Lc t u) (hi : i + 4 ≤ L) (hM : L_St t u M) (hP : va_P D vwCl (me_ws cI ad Lc M) H) (hS : va_S (me_A ad Lc s.heap.size) s.heap H locs) (hl : lv_has ls 4 [(0, .ref b), (1, .ref (ad t)), (2, .ref (ad u)), (3, .int (nI i))]) (kk : ∀ (M2 : Mem), L_St t u M2 → ∀ (H2 : Heap) (locs2 : List Loc), va_P D vwCl (me_ws cI ad Lc M2) H2 → va_S (me_A ad Lc s.heap.size) s.heap H2 locs2 → W p l e room_1 s m #[Value.ref b] below meth c H2 locs2 600000 7302249 (lw_Z below #[Value.ref b] s) (F0 m 959 ls [])) : W p l e room_1 s m #[Value.ref b] below meth c H locs 600000 7302249 (lw_Z below #[Value.ref b] s) (F0 m 808 ls []) := by
  have hbA := C0.no
  obtain ⟨⟨hx, hb, hr, hml, hown, hts, hX, hbl, hlocks, hgv⟩, hL, hK, hI, h5, h6, htu, hfr, hw⟩ := C0
  obtain ⟨tx, n, ea, K, S, d0, s0, A, kp, A1, A2, Z, hC, hR, hV⟩ := hM
  obtain ⟨v, M1, M2, e1, e2, hM2⟩ := PS.St (P_silent hC hR hV htu : PS t u M (X5_silent t (xs (i + 1))) (X6_silent u (xs (i + 1))))
  refine lv_aload_n hx hb dL_law_808 rfl (lv_at hl 1 rfl) ?_
  refine lv_aload_n hx hb dL_law_809 rfl (lv_at hl 0 rfl) ?_
  refine lv_iload_n hx hb dL_law_810 rfl (lv_at hl 3 rfl) ?_
  refine lv_iconst (v := nI 1) hx hb dL_law_811 (by decide) ?_
  refine lv_iadd hx hb dL_law_812 ?_
  rw [nI_add i 1]
  refine va_sld hx hb hX hbl hbA hS (nI_in (show i + 1 < L by omega) (by omega)) dL_law_813 ?_
  rw [nI_clamp (show i + 1 < 2 ^ 31 by omega)]
  refine me_callVi (As := [.int (xs (i + 1))]) (rest := []) ⟨hx, hb, hml, hown, hw⟩ (c_X5_silent h5 e1) (cwV 1 hw gL_law_X5_silent rfl rfl rfl hd_X5_silent ⟨(Nat.le_of_ble_eq_true rfl), (Nat.le_of_ble_eq_true rfl)⟩) hK hI hP hS h5.1 rfl rfl hl.1 rfl (Nat.le_of_ble_eq_true rfl) dL_law_814 ⟨Nat.le_refl _, Nat.le_refl _⟩ (fun H locs hP hS => ?_)
  refine lv_aload_n hx hb dL_law_817 rfl (lv_at hl 2 rfl) ?_
  refine lv_aload_n hx hb dL_law_818 rfl (lv_at hl 0 rfl) ?_
  refine lv_iload_n hx hb dL_law_819 rfl (lv_at hl 3 rfl) ?_
  refine lv_iconst (v := nI 1) hx hb dL_law_820 (by decide) ?_
  refine lv_iadd hx hb dL_law_821 ?_
  rw [nI_add i 1]
  refine va_sld hx hb hX hbl hbA hS (nI_in (show i + 1 < L by omega) (by omega)) dL_law_822 ?_
  rw [nI_clamp (show i + 1 < 2 ^ 31 by omega)]
  refine me_callVi (As := [.int (xs (i + 1))]) (rest := [.int v]) ⟨hx, hb, hml, hown, hw⟩ (c_X6_silent h6 e2) (cwV 1 hw gL_law_X6_silent rfl rfl rfl hd_X6_silent ⟨(Nat.le_of_ble_eq_true rfl), (Nat.le_of_ble_eq_true rfl)⟩) hK hI hP hS h6.1 rfl rfl hl.1 rfl (Nat.le_of_ble_eq_true rfl) dL_law_823 ⟨Nat.le_refl _, Nat.le_refl _⟩ (fun H locs hP hS => ?_)
  refine lv_icmp_eq (tgt := 959) hx hb dL_law_826 (by decide) (fun _ => kk M2 hM2 H locs hP hS) (fun q => absurd rfl q)
set_option maxRecDepth 100000 in
set_option maxHeartbeats 4000000 in
theorem L_case27 {p : Program} {l : Launch} {e : Env} {s : State} {m : MethodId} {below : List Frame} {meth : Method} {c : Code} {D : va_G} {cI : ClassId} {ad : Nat → Nat} {Lc : List CDs} {b L i t u : Nat} {xs : Nat → Int32} {M : Mem} {ls : Array Slot} {H : Heap} {locs : List Loc} (C0 : L_X p s m meth c b L xs D cI ad Lc t u) (hi : i + 4 ≤ L) (hM : L_St t u M) (hP : va_P D vwCl (me_ws cI ad Lc M) H) (hS : va_S (me_A ad Lc s.heap.size) s.heap H locs) (hl : lv_has ls 4 [(0, .ref b), (1, .ref (ad t)), (2, .ref (ad u)), (3, .int (nI i))]) (kk : ∀ (M2 : Mem), L_St t u M2 → ∀ (H2 : Heap) (locs2 : List Loc), va_P D vwCl (me_ws cI ad Lc M2) H2 → va_S (me_A ad Lc s.heap.size) s.heap H2 locs2 → W p l e room_1 s m #[Value.ref b] below meth c H2 locs2 600000 7302249 (lw_Z below #[Value.ref b] s) (F0 m 959 ls [])) : W p l e room_1 s m #[Value.ref b] below meth c H locs 600000 7302249 (lw_Z below #[Value.ref b] s) (F0 m 831 ls []) := by
  have hbA := C0.no
  obtain ⟨⟨hx, hb, hr, hml, hown, hts, hX, hbl, hlocks, hgv⟩, hL, hK, hI, h5, h6, htu, hfr, hw⟩ := C0
  obtain ⟨tx, n, ea, K, S, d0, s0, A, kp, A1, A2, Z, hC, hR, hV⟩ := hM
  obtain ⟨v, M1, M2, e1, e2, hM2⟩ := PS.St (P_forget hC hR hV htu : PS t u M (X5_forget t) (X6_forget u))
  refine lv_aload_n hx hb dL_law_831 rfl (lv_at hl 1 rfl) ?_
  refine me_callVi (As := []) (rest := []) ⟨hx, hb, hml, hown, hw⟩ (c_X5_forget h5 e1) (cwV 0 hw gL_law_X5_forget rfl rfl rfl hd_X5_forget ⟨(Nat.le_of_ble_eq_true rfl), (Nat.le_of_ble_eq_true rfl)⟩) hK hI hP hS h5.1 rfl rfl hl.1 rfl (Nat.le_of_ble_eq_true rfl) dL_law_832 ⟨Nat.le_refl _, Nat.le_refl _⟩ (fun H locs hP hS => ?_)
  refine lv_aload_n hx hb dL_law_835 rfl (lv_at hl 2 rfl) ?_
  refine me_callVi (As := []) (rest := [.int v]) ⟨hx, hb, hml, hown, hw⟩ (c_X6_forget h6 e2) (cwV 0 hw gL_law_X6_forget rfl rfl rfl hd_X6_forget ⟨(Nat.le_of_ble_eq_true rfl), (Nat.le_of_ble_eq_true rfl)⟩) hK hI hP hS h6.1 rfl rfl hl.1 rfl (Nat.le_of_ble_eq_true rfl) dL_law_836 ⟨Nat.le_refl _, Nat.le_refl _⟩ (fun H locs hP hS => ?_)
  refine lv_icmp_eq (tgt := 959) hx hb dL_law_839 (by decide) (fun _ => kk M2 hM2 H locs hP hS) (fun q => absurd rfl q)
set_option maxRecDepth 100000 in
set_option maxHeartbeats 4000000 in
theorem L_case28 {p : Program} {l : Launch} {e : Env} {s : State} {m : MethodId} {below : List Frame} {meth : Method} {c : Code} {D : va_G} {cI : ClassId} {ad : Nat → Nat} {Lc : List CDs} {b L i t u : Nat} {xs : Nat → Int32} {M : Mem} {ls : Array Slot} {H : Heap} {locs : List Loc} (C0 : L_X p s m meth c b L xs D cI ad Lc t u) (hi : i + 4 ≤ L) (hM : L_St t u M) (hP : va_P D vwCl (me_ws cI ad Lc M) H) (hS : va_S (me_A ad Lc s.heap.size) s.heap H locs) (hl : lv_has ls 4 [(0, .ref b), (1, .ref (ad t)), (2, .ref (ad u)), (3, .int (nI i))]) (kk : ∀ (M2 : Mem), L_St t u M2 → ∀ (H2 : Heap) (locs2 : List Loc), va_P D vwCl (me_ws cI ad Lc M2) H2 → va_S (me_A ad Lc s.heap.size) s.heap H2 locs2 → W p l e room_1 s m #[Value.ref b] below meth c H2 locs2 600000 7302249 (lw_Z below #[Value.ref b] s) (F0 m 959 ls [])) : W p l e room_1 s m #[Value.ref b] below meth c H locs 600000 7302249 (lw_Z below #[Value.ref b] s) (F0 m 844 ls []) := by
  have hbA := C0.no
  obtain ⟨⟨hx, hb, hr, hml, hown, hts, hX, hbl, hlocks, hgv⟩, hL, hK, hI, h5, h6, htu, hfr, hw⟩ := C0
  obtain ⟨tx, n, ea, K, S, d0, s0, A, kp, A1, A2, Z, hC, hR, hV⟩ := hM
  obtain ⟨v, M1, M2, e1, e2, hM2⟩ := PS.St (P_fits hC hR hV htu : PS t u M (X5_fits t (xs (i + 1))) (X6_fits u (xs (i + 1))))
  refine lv_aload_n hx hb dL_law_844 rfl (lv_at hl 1 rfl) ?_
  refine lv_aload_n hx hb dL_law_845 rfl (lv_at hl 0 rfl) ?_
  refine lv_iload_n hx hb dL_law_846 rfl (lv_at hl 3 rfl) ?_
  refine lv_iconst (v := nI 1) hx hb dL_law_847 (by decide) ?_
  refine lv_iadd hx hb dL_law_848 ?_
  rw [nI_add i 1]
  refine va_sld hx hb hX hbl hbA hS (nI_in (show i + 1 < L by omega) (by omega)) dL_law_849 ?_
  rw [nI_clamp (show i + 1 < 2 ^ 31 by omega)]
  refine me_callVi (As := [.int (xs (i + 1))]) (rest := []) ⟨hx, hb, hml, hown, hw⟩ (c_X5_fits h5 e1) (cwV 1 hw gL_law_X5_fits rfl rfl rfl hd_X5_fits ⟨(Nat.le_of_ble_eq_true rfl), (Nat.le_of_ble_eq_true rfl)⟩) hK hI hP hS h5.1 rfl rfl hl.1 rfl (Nat.le_of_ble_eq_true rfl) dL_law_850 ⟨Nat.le_refl _, Nat.le_refl _⟩ (fun H locs hP hS => ?_)
  refine lv_aload_n hx hb dL_law_853 rfl (lv_at hl 2 rfl) ?_
  refine lv_aload_n hx hb dL_law_854 rfl (lv_at hl 0 rfl) ?_
  refine lv_iload_n hx hb dL_law_855 rfl (lv_at hl 3 rfl) ?_
  refine lv_iconst (v := nI 1) hx hb dL_law_856 (by decide) ?_
  refine lv_iadd hx hb dL_law_857 ?_
  rw [nI_add i 1]
  refine va_sld hx hb hX hbl hbA hS (nI_in (show i + 1 < L by omega) (by omega)) dL_law_858 ?_
  rw [nI_clamp (show i + 1 < 2 ^ 31 by omega)]
  refine me_callVi (As := [.int (xs (i + 1))]) (rest := [.int v]) ⟨hx, hb, hml, hown, hw⟩ (c_X6_fits h6 e2) (cwV 1 hw gL_law_X6_fits rfl rfl rfl hd_X6_fits ⟨(Nat.le_of_ble_eq_true rfl), (Nat.le_of_ble_eq_true rfl)⟩) hK hI hP hS h6.1 rfl rfl hl.1 rfl (Nat.le_of_ble_eq_true rfl) dL_law_859 ⟨Nat.le_refl _, Nat.le_refl _⟩ (fun H locs hP hS => ?_)
  refine lv_icmp_eq (tgt := 959) hx hb dL_law_862 (by decide) (fun _ => kk M2 hM2 H locs hP hS) (fun q => absurd rfl q)
set_option maxRecDepth 100000 in
set_option maxHeartbeats 4000000 in
theorem L_case29 {p : Program} {l : Launch} {e : Env} {s : State} {m : MethodId} {below : List Frame} {meth : Method} {c : Code} {D : va_G} {cI : ClassId} {ad : Nat → Nat} {Lc : List CDs} {b L i t u : Nat} {xs : Nat → Int32} {M : Mem} {ls : Array Slot} {H : Heap} {locs : List Loc} (C0 : L_X p s m meth c b L xs D cI ad Lc t u) (hi : i + 4 ≤ L) (hM : L_St t u M) (hP : va_P D vwCl (me_ws cI ad Lc M) H) (hS : va_S (me_A ad Lc s.heap.size) s.heap H locs) (hl : lv_has ls 4 [(0, .ref b), (1, .ref (ad t)), (2, .ref (ad u)), (3, .int (nI i))]) (kk : ∀ (M2 : Mem), L_St t u M2 → ∀ (H2 : Heap) (locs2 : List Loc), va_P D vwCl (me_ws cI ad Lc M2) H2 → va_S (me_A ad Lc s.heap.size) s.heap H2 locs2 → W p l e room_1 s m #[Value.ref b] below meth c H2 locs2 600000 7302249 (lw_Z below #[Value.ref b] s) (F0 m 959 ls [])) : W p l e room_1 s m #[Value.ref b] below meth c H locs 600000 7302249 (lw_Z below #[Value.ref b] s) (F0 m 867 ls []) := by
  have hbA := C0.no
  obtain ⟨⟨hx, hb, hr, hml, hown, hts, hX, hbl, hlocks, hgv⟩, hL, hK, hI, h5, h6, htu, hfr, hw⟩ := C0
  obtain ⟨tx, n, ea, K, S, d0, s0, A, kp, A1, A2, Z, hC, hR, hV⟩ := hM
  obtain ⟨v, M1, M2, e1, e2, hM2⟩ := PS.St (P_year hC hR hV htu : PS t u M (X5_year t (xs (i + 1)) (xs (i + 2)) (xs (i + 3))) (X6_year u (xs (i + 1)) (xs (i + 2)) (xs (i + 3))))
  refine lv_aload_n hx hb dL_law_867 rfl (lv_at hl 1 rfl) ?_
  refine lv_aload_n hx hb dL_law_868 rfl (lv_at hl 0 rfl) ?_
  refine lv_iload_n hx hb dL_law_869 rfl (lv_at hl 3 rfl) ?_
  refine lv_iconst (v := nI 1) hx hb dL_law_870 (by decide) ?_
  refine lv_iadd hx hb dL_law_871 ?_
  rw [nI_add i 1]
  refine va_sld hx hb hX hbl hbA hS (nI_in (show i + 1 < L by omega) (by omega)) dL_law_872 ?_
  rw [nI_clamp (show i + 1 < 2 ^ 31 by omega)]
  refine lv_aload_n hx hb dL_law_873 rfl (lv_at hl 0 rfl) ?_
  refine lv_iload_n hx hb dL_law_874 rfl (lv_at hl 3 rfl) ?_
  refine lv_iconst (v := nI 2) hx hb dL_law_875 (by decide) ?_
  refine lv_iadd hx hb dL_law_876 ?_
  rw [nI_add i 2]
  refine va_sld hx hb hX hbl hbA hS (nI_in (show i + 2 < L by omega) (by omega)) dL_law_877 ?_
  rw [nI_clamp (show i + 2 < 2 ^ 31 by omega)]
  refine lv_aload_n hx hb dL_law_878 rfl (lv_at hl 0 rfl) ?_
  refine lv_iload_n hx hb dL_law_879 rfl (lv_at hl 3 rfl) ?_
  refine lv_iconst (v := nI 3) hx hb dL_law_880 (by decide) ?_
  refine lv_iadd hx hb dL_law_881 ?_
  rw [nI_add i 3]
  refine va_sld hx hb hX hbl hbA hS (nI_in (show i + 3 < L by omega) (by omega)) dL_law_882 ?_
  rw [nI_clamp (show i + 3 < 2 ^ 31 by omega)]
  refine me_callVi (As := [.int (xs (i + 1)), .int (xs (i + 2)), .int (xs (i + 3))]) (rest := []) ⟨hx, hb, hml, hown, hw⟩ (c_X5_year h5 e1) (cwV 3 hw gL_law_X5_year rfl rfl rfl hd_X5_year ⟨(Nat.le_of_ble_eq_true rfl), (Nat.le_of_ble_eq_true rfl)⟩) hK hI hP hS h5.1 rfl rfl hl.1 rfl (Nat.le_of_ble_eq_true rfl) dL_law_883 ⟨Nat.le_refl _, Nat.le_refl _⟩ (fun H locs hP hS => ?_)
  refine lv_aload_n hx hb dL_law_886 rfl (lv_at hl 2 rfl) ?_
  refine lv_aload_n hx hb dL_law_887 rfl (lv_at hl 0 rfl) ?_
  refine lv_iload_n hx hb dL_law_888 rfl (lv_at hl 3 rfl) ?_
  refine lv_iconst (v := nI 1) hx hb dL_law_889 (by decide) ?_
  refine lv_iadd hx hb dL_law_890 ?_
  rw [nI_add i 1]
  refine va_sld hx hb hX hbl hbA hS (nI_in (show i + 1 < L by omega) (by omega)) dL_law_891 ?_
  rw [nI_clamp (show i + 1 < 2 ^ 31 by omega)]
  refine lv_aload_n hx hb dL_law_892 rfl (lv_at hl 0 rfl) ?_
  refine lv_iload_n hx hb dL_law_893 rfl (lv_at hl 3 rfl) ?_
  refine lv_iconst (v := nI 2) hx hb dL_law_894 (by decide) ?_
  refine lv_iadd hx hb dL_law_895 ?_
  rw [nI_add i 2]
  refine va_sld hx hb hX hbl hbA hS (nI_in (show i + 2 < L by omega) (by omega)) dL_law_896 ?_
  rw [nI_clamp (show i + 2 < 2 ^ 31 by omega)]
  refine lv_aload_n hx hb dL_law_897 rfl (lv_at hl 0 rfl) ?_
  refine lv_iload_n hx hb dL_law_898 rfl (lv_at hl 3 rfl) ?_
  refine lv_iconst (v := nI 3) hx hb dL_law_899 (by decide) ?_
  refine lv_iadd hx hb dL_law_900 ?_
  rw [nI_add i 3]
  refine va_sld hx hb hX hbl hbA hS (nI_in (show i + 3 < L by omega) (by omega)) dL_law_901 ?_
  rw [nI_clamp (show i + 3 < 2 ^ 31 by omega)]
  refine me_callVi (As := [.int (xs (i + 1)), .int (xs (i + 2)), .int (xs (i + 3))]) (rest := [.int v]) ⟨hx, hb, hml, hown, hw⟩ (c_X6_year h6 e2) (cwV 3 hw gL_law_X6_year rfl rfl rfl hd_X6_year ⟨(Nat.le_of_ble_eq_true rfl), (Nat.le_of_ble_eq_true rfl)⟩) hK hI hP hS h6.1 rfl rfl hl.1 rfl (Nat.le_of_ble_eq_true rfl) dL_law_902 ⟨Nat.le_refl _, Nat.le_refl _⟩ (fun H locs hP hS => ?_)
  refine lv_icmp_eq (tgt := 959) hx hb dL_law_905 (by decide) (fun _ => kk M2 hM2 H locs hP hS) (fun q => absurd rfl q)
set_option maxRecDepth 100000 in
set_option maxHeartbeats 4000000 in
theorem L_case30 {p : Program} {l : Launch} {e : Env} {s : State} {m : MethodId} {below : List Frame} {meth : Method} {c : Code} {D : va_G} {cI : ClassId} {ad : Nat → Nat} {Lc : List CDs} {b L i t u : Nat} {xs : Nat → Int32} {M : Mem} {ls : Array Slot} {H : Heap} {locs : List Loc} (C0 : L_X p s m meth c b L xs D cI ad Lc t u) (hi : i + 4 ≤ L) (hM : L_St t u M) (hP : va_P D vwCl (me_ws cI ad Lc M) H) (hS : va_S (me_A ad Lc s.heap.size) s.heap H locs) (hl : lv_has ls 4 [(0, .ref b), (1, .ref (ad t)), (2, .ref (ad u)), (3, .int (nI i))]) (kk : ∀ (M2 : Mem), L_St t u M2 → ∀ (H2 : Heap) (locs2 : List Loc), va_P D vwCl (me_ws cI ad Lc M2) H2 → va_S (me_A ad Lc s.heap.size) s.heap H2 locs2 → W p l e room_1 s m #[Value.ref b] below meth c H2 locs2 600000 7302249 (lw_Z below #[Value.ref b] s) (F0 m 959 ls [])) : W p l e room_1 s m #[Value.ref b] below meth c H locs 600000 7302249 (lw_Z below #[Value.ref b] s) (F0 m 910 ls []) := by
  have hbA := C0.no
  obtain ⟨⟨hx, hb, hr, hml, hown, hts, hX, hbl, hlocks, hgv⟩, hL, hK, hI, h5, h6, htu, hfr, hw⟩ := C0
  obtain ⟨tx, n, ea, K, S, d0, s0, A, kp, A1, A2, Z, hC, hR, hV⟩ := hM
  obtain ⟨v, M1, M2, e1, e2, hM2⟩ := PS.St (P_keep hC hR hV htu : PS t u M (X5_keep t) (X6_keep u))
  refine lv_aload_n hx hb dL_law_910 rfl (lv_at hl 1 rfl) ?_
  refine me_callVi (As := []) (rest := []) ⟨hx, hb, hml, hown, hw⟩ (c_X5_keep h5 e1) (cwV 0 hw gL_law_X5_keep rfl rfl rfl hd_X5_keep ⟨(Nat.le_of_ble_eq_true rfl), (Nat.le_of_ble_eq_true rfl)⟩) hK hI hP hS h5.1 rfl rfl hl.1 rfl (Nat.le_of_ble_eq_true rfl) dL_law_911 ⟨Nat.le_refl _, Nat.le_refl _⟩ (fun H locs hP hS => ?_)
  refine lv_aload_n hx hb dL_law_914 rfl (lv_at hl 2 rfl) ?_
  refine me_callVi (As := []) (rest := [.int v]) ⟨hx, hb, hml, hown, hw⟩ (c_X6_keep h6 e2) (cwV 0 hw gL_law_X6_keep rfl rfl rfl hd_X6_keep ⟨(Nat.le_of_ble_eq_true rfl), (Nat.le_of_ble_eq_true rfl)⟩) hK hI hP hS h6.1 rfl rfl hl.1 rfl (Nat.le_of_ble_eq_true rfl) dL_law_915 ⟨Nat.le_refl _, Nat.le_refl _⟩ (fun H locs hP hS => ?_)
  refine lv_icmp_eq (tgt := 959) hx hb dL_law_918 (by decide) (fun _ => kk M2 hM2 H locs hP hS) (fun q => absurd rfl q)
set_option maxRecDepth 100000 in
set_option maxHeartbeats 4000000 in
theorem L_case31 {p : Program} {l : Launch} {e : Env} {s : State} {m : MethodId} {below : List Frame} {meth : Method} {c : Code} {D : va_G} {cI : ClassId} {ad : Nat → Nat} {Lc : List CDs} {b L i t u : Nat} {xs : Nat → Int32} {M : Mem} {ls : Array Slot} {H : Heap} {locs : List Loc} (C0 : L_X p s m meth c b L xs D cI ad Lc t u) (hi : i + 4 ≤ L) (hM : L_St t u M) (hP : va_P D vwCl (me_ws cI ad Lc M) H) (hS : va_S (me_A ad Lc s.heap.size) s.heap H locs) (hl : lv_has ls 4 [(0, .ref b), (1, .ref (ad t)), (2, .ref (ad u)), (3, .int (nI i))]) (kk : ∀ (M2 : Mem), L_St t u M2 → ∀ (H2 : Heap) (locs2 : List Loc), va_P D vwCl (me_ws cI ad Lc M2) H2 → va_S (me_A ad Lc s.heap.size) s.heap H2 locs2 → W p l e room_1 s m #[Value.ref b] below meth c H2 locs2 600000 7302249 (lw_Z below #[Value.ref b] s) (F0 m 959 ls [])) : W p l e room_1 s m #[Value.ref b] below meth c H locs 600000 7302249 (lw_Z below #[Value.ref b] s) (F0 m 923 ls []) := by
  have hbA := C0.no
  obtain ⟨⟨hx, hb, hr, hml, hown, hts, hX, hbl, hlocks, hgv⟩, hL, hK, hI, h5, h6, htu, hfr, hw⟩ := C0
  obtain ⟨tx, n, ea, K, S, d0, s0, A, kp, A1, A2, Z, hC, hR, hV⟩ := hM
  obtain ⟨v, M1, M2, e1, e2, hM2⟩ := PS.St (P_back hC hR hV htu : PS t u M (X5_back t) (X6_back u))
  refine lv_aload_n hx hb dL_law_923 rfl (lv_at hl 1 rfl) ?_
  refine me_callVi (As := []) (rest := []) ⟨hx, hb, hml, hown, hw⟩ (c_X5_back h5 e1) (cwV 0 hw gL_law_X5_back rfl rfl rfl hd_X5_back ⟨(Nat.le_of_ble_eq_true rfl), (Nat.le_of_ble_eq_true rfl)⟩) hK hI hP hS h5.1 rfl rfl hl.1 rfl (Nat.le_of_ble_eq_true rfl) dL_law_924 ⟨Nat.le_refl _, Nat.le_refl _⟩ (fun H locs hP hS => ?_)
  refine lv_aload_n hx hb dL_law_927 rfl (lv_at hl 2 rfl) ?_
  refine me_callVi (As := []) (rest := [.int v]) ⟨hx, hb, hml, hown, hw⟩ (c_X6_back h6 e2) (cwV 0 hw gL_law_X6_back rfl rfl rfl hd_X6_back ⟨(Nat.le_of_ble_eq_true rfl), (Nat.le_of_ble_eq_true rfl)⟩) hK hI hP hS h6.1 rfl rfl hl.1 rfl (Nat.le_of_ble_eq_true rfl) dL_law_928 ⟨Nat.le_refl _, Nat.le_refl _⟩ (fun H locs hP hS => ?_)
  refine lv_icmp_eq (tgt := 959) hx hb dL_law_931 (by decide) (fun _ => kk M2 hM2 H locs hP hS) (fun q => absurd rfl q)
set_option maxRecDepth 100000 in
set_option maxHeartbeats 4000000 in
theorem L_case32 {p : Program} {l : Launch} {e : Env} {s : State} {m : MethodId} {below : List Frame} {meth : Method} {c : Code} {D : va_G} {cI : ClassId} {ad : Nat → Nat} {Lc : List CDs} {b L i t u : Nat} {xs : Nat → Int32} {M : Mem} {ls : Array Slot} {H : Heap} {locs : List Loc} (C0 : L_X p s m meth c b L xs D cI ad Lc t u) (hi : i + 4 ≤ L) (hM : L_St t u M) (hP : va_P D vwCl (me_ws cI ad Lc M) H) (hS : va_S (me_A ad Lc s.heap.size) s.heap H locs) (hl : lv_has ls 4 [(0, .ref b), (1, .ref (ad t)), (2, .ref (ad u)), (3, .int (nI i))]) (kk : ∀ (M2 : Mem), L_St t u M2 → ∀ (H2 : Heap) (locs2 : List Loc), va_P D vwCl (me_ws cI ad Lc M2) H2 → va_S (me_A ad Lc s.heap.size) s.heap H2 locs2 → W p l e room_1 s m #[Value.ref b] below meth c H2 locs2 600000 7302249 (lw_Z below #[Value.ref b] s) (F0 m 959 ls [])) : W p l e room_1 s m #[Value.ref b] below meth c H locs 600000 7302249 (lw_Z below #[Value.ref b] s) (F0 m 936 ls []) := by
  have hbA := C0.no
  obtain ⟨⟨hx, hb, hr, hml, hown, hts, hX, hbl, hlocks, hgv⟩, hL, hK, hI, h5, h6, htu, hfr, hw⟩ := C0
  obtain ⟨tx, n, ea, K, S, d0, s0, A, kp, A1, A2, Z, hC, hR, hV⟩ := hM
  obtain ⟨v, M1, M2, e1, e2, hM2⟩ := PS.St (P_count hC hR hV htu : PS t u M (X5_count t (xs (i + 1))) (X6_count u (xs (i + 1))))
  refine lv_aload_n hx hb dL_law_936 rfl (lv_at hl 1 rfl) ?_
  refine lv_aload_n hx hb dL_law_937 rfl (lv_at hl 0 rfl) ?_
  refine lv_iload_n hx hb dL_law_938 rfl (lv_at hl 3 rfl) ?_
  refine lv_iconst (v := nI 1) hx hb dL_law_939 (by decide) ?_
  refine lv_iadd hx hb dL_law_940 ?_
  rw [nI_add i 1]
  refine va_sld hx hb hX hbl hbA hS (nI_in (show i + 1 < L by omega) (by omega)) dL_law_941 ?_
  rw [nI_clamp (show i + 1 < 2 ^ 31 by omega)]
  refine me_callVi (As := [.int (xs (i + 1))]) (rest := []) ⟨hx, hb, hml, hown, hw⟩ (c_X5_count h5 e1) (cwV 1 hw gL_law_X5_count rfl rfl rfl hd_X5_count ⟨(Nat.le_of_ble_eq_true rfl), (Nat.le_of_ble_eq_true rfl)⟩) hK hI hP hS h5.1 rfl rfl hl.1 rfl (Nat.le_of_ble_eq_true rfl) dL_law_942 ⟨Nat.le_refl _, Nat.le_refl _⟩ (fun H locs hP hS => ?_)
  refine lv_aload_n hx hb dL_law_945 rfl (lv_at hl 2 rfl) ?_
  refine lv_aload_n hx hb dL_law_946 rfl (lv_at hl 0 rfl) ?_
  refine lv_iload_n hx hb dL_law_947 rfl (lv_at hl 3 rfl) ?_
  refine lv_iconst (v := nI 1) hx hb dL_law_948 (by decide) ?_
  refine lv_iadd hx hb dL_law_949 ?_
  rw [nI_add i 1]
  refine va_sld hx hb hX hbl hbA hS (nI_in (show i + 1 < L by omega) (by omega)) dL_law_950 ?_
  rw [nI_clamp (show i + 1 < 2 ^ 31 by omega)]
  refine me_callVi (As := [.int (xs (i + 1))]) (rest := [.int v]) ⟨hx, hb, hml, hown, hw⟩ (c_X6_count h6 e2) (cwV 1 hw gL_law_X6_count rfl rfl rfl hd_X6_count ⟨(Nat.le_of_ble_eq_true rfl), (Nat.le_of_ble_eq_true rfl)⟩) hK hI hP hS h6.1 rfl rfl hl.1 rfl (Nat.le_of_ble_eq_true rfl) dL_law_951 ⟨Nat.le_refl _, Nat.le_refl _⟩ (fun H locs hP hS => ?_)
  refine lv_icmp_eq (tgt := 959) hx hb dL_law_954 (by decide) (fun _ => kk M2 hM2 H locs hP hS) (fun q => absurd rfl q)
