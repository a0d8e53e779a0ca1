/-! ===== the law's 33 cases ===== -/
def L_St (t u : Nat) (M : Mem) : Prop := ∃ (tx : Tx) (n ea : Nat) (K S : Nat → Nat) (d0 : Dm) (s : Ts) (A : Al) (kp : Nat) (A1 A2 : Al) (Z : Tx), AC M t tx n ea K S d0 s A kp A1 A2 Z ∧ AR M u tx n ea K S d0 s A kp A1 A2 Z ∧ SV tx n ea K S d0 s A kp A1 A2 Z
theorem PS.St {t u : Nat} {M : Mem} {f g : Mem → Option (Int32 × Mem)} (h : PS t u M f g) : ∃ (v : Int32) (M1 M2 : Mem), f M = some (v, M1) ∧ g M1 = some (v, M2) ∧ L_St t u M2 := by
  obtain ⟨v, M1, M2, tx, n, ea, K, S, d0, s, A, kp, A1, A2, Z, e1, e2, h1, h2, h3⟩ := h
  exact ⟨v, M1, M2, e1, e2, tx, n, ea, K, S, d0, s, A, kp, A1, A2, Z, h1, h2, h3⟩
/-- what stands at the law's loop -/
def L_X (p : Program) (s : State) (m : MethodId) (meth : Method) (c : Code) (b L : Nat) (xs : Nat → Int32) (D : va_G) (cI : ClassId) (ad : Nat → Nat) (Lc : List CDs) (t u : Nat) : Prop :=
  lw_At p s m meth c b L xs ∧ L ≤ 256 ∧ va_K D vwCl [(cI, .int)] s ∧ me_inj ad Lc ∧ is_X5 Lc t ∧ is_X6 Lc u ∧ t + 44 ≤ u ∧ (∀ k, k < Lc.length → s.heap.size ≤ ad k) ∧ (∀ w ∈ wsL_law, w.before #[Value.ref b] s = true)
theorem L_X.no {p : Program} {s : State} {m : MethodId} {meth : Method} {c : Code} {b L : Nat} {xs : Nat → Int32} {D : va_G} {cI : ClassId} {ad : Nat → Nat} {Lc : List CDs} {t u : Nat} (C0 : L_X p s m meth c b L xs D cI ad Lc t u) : ¬ me_A ad Lc s.heap.size b := by
  obtain ⟨⟨hx, hb, hr, hml, hown, hts, hX, hbl, hlocks, hgv⟩, hL, hK, hI, h5, h6, htu, hfr, hw⟩ := C0
  rintro (⟨k, hk, e⟩ | h)
  · have := hfr k hk
    omega
  · omega
set_option maxRecDepth 100000 in
set_option maxHeartbeats 4000000 in
theorem L_case0 {p : Program} {l : Launch} {e : Env} {s : State} {m : MethodId} {below : List Frame} {meth : Method} {c : Code} {D : va_G} {cI : ClassId} {ad : Nat → Nat} {Lc : List CDs} {b L i t u : Nat} {xs : Nat → Int32} {M : Mem} {ls : Array Slot} {H : Heap} {locs : List Loc} (C0 : L_X p s m meth c b L xs D cI ad Lc t u) (hi : i + 4 ≤ L) (hM : L_St t u M) (hP : va_P D vwCl (me_ws cI ad Lc M) H) (hS : va_S (me_A ad Lc s.heap.size) s.heap H locs) (hl : lv_has ls 4 [(0, .ref b), (1, .ref (ad t)), (2, .ref (ad u)), (3, .int (nI i))]) (kk : ∀ (M2 : Mem), L_St t u M2 → ∀ (H2 : Heap) (locs2 : List Loc), va_P D vwCl (me_ws cI ad Lc M2) H2 → va_S (me_A ad Lc s.heap.size) s.heap H2 locs2 → W p l e room_1 s m #[Value.ref b] below meth c H2 locs2 600000 7302249 (lw_Z below #[Value.ref b] s) (F0 m 959 ls [])) : W p l e room_1 s m #[Value.ref b] below meth c H locs 600000 7302249 (lw_Z below #[Value.ref b] s) (F0 m 180 ls []) := by
  have hbA := C0.no
  obtain ⟨⟨hx, hb, hr, hml, hown, hts, hX, hbl, hlocks, hgv⟩, hL, hK, hI, h5, h6, htu, hfr, hw⟩ := C0
  obtain ⟨tx, n, ea, K, S, d0, s0, A, kp, A1, A2, Z, hC, hR, hV⟩ := hM
  obtain ⟨v, M1, M2, e1, e2, hM2⟩ := PS.St (P_write hC hR hV htu : PS t u M (X5_write t (xs (i + 1))) (X6_write u (xs (i + 1))))
  refine lv_aload_n hx hb dL_law_180 rfl (lv_at hl 1 rfl) ?_
  refine lv_aload_n hx hb dL_law_181 rfl (lv_at hl 0 rfl) ?_
  refine lv_iload_n hx hb dL_law_182 rfl (lv_at hl 3 rfl) ?_
  refine lv_iconst (v := nI 1) hx hb dL_law_183 (by decide) ?_
  refine lv_iadd hx hb dL_law_184 ?_
  rw [nI_add i 1]
  refine va_sld hx hb hX hbl hbA hS (nI_in (show i + 1 < L by omega) (by omega)) dL_law_185 ?_
  rw [nI_clamp (show i + 1 < 2 ^ 31 by omega)]
  refine me_callVi (As := [.int (xs (i + 1))]) (rest := []) ⟨hx, hb, hml, hown, hw⟩ (c_X5_write h5 e1) (cwV 1 hw gL_law_X5_write rfl rfl rfl hd_X5_write ⟨(Nat.le_of_ble_eq_true rfl), (Nat.le_of_ble_eq_true rfl)⟩) hK hI hP hS h5.1 rfl rfl hl.1 rfl (Nat.le_of_ble_eq_true rfl) dL_law_186 ⟨Nat.le_refl _, Nat.le_refl _⟩ (fun H locs hP hS => ?_)
  refine lv_aload_n hx hb dL_law_189 rfl (lv_at hl 2 rfl) ?_
  refine lv_aload_n hx hb dL_law_190 rfl (lv_at hl 0 rfl) ?_
  refine lv_iload_n hx hb dL_law_191 rfl (lv_at hl 3 rfl) ?_
  refine lv_iconst (v := nI 1) hx hb dL_law_192 (by decide) ?_
  refine lv_iadd hx hb dL_law_193 ?_
  rw [nI_add i 1]
  refine va_sld hx hb hX hbl hbA hS (nI_in (show i + 1 < L by omega) (by omega)) dL_law_194 ?_
  rw [nI_clamp (show i + 1 < 2 ^ 31 by omega)]
  refine me_callVi (As := [.int (xs (i + 1))]) (rest := [.int v]) ⟨hx, hb, hml, hown, hw⟩ (c_X6_write h6 e2) (cwV 1 hw gL_law_X6_write rfl rfl rfl hd_X6_write ⟨(Nat.le_of_ble_eq_true rfl), (Nat.le_of_ble_eq_true rfl)⟩) hK hI hP hS h6.1 rfl rfl hl.1 rfl (Nat.le_of_ble_eq_true rfl) dL_law_195 ⟨Nat.le_refl _, Nat.le_refl _⟩ (fun H locs hP hS => ?_)
  refine lv_icmp_eq (tgt := 959) hx hb dL_law_198 (by decide) (fun _ => kk M2 hM2 H locs hP hS) (fun q => absurd rfl q)
set_option maxRecDepth 100000 in
set_option maxHeartbeats 4000000 in
theorem L_case1 {p : Program} {l : Launch} {e : Env} {s : State} {m : MethodId} {below : List Frame} {meth : Method} {c : Code} {D : va_G} {cI : ClassId} {ad : Nat → Nat} {Lc : List CDs} {b L i t u : Nat} {xs : Nat → Int32} {M : Mem} {ls : Array Slot} {H : Heap} {locs : List Loc} (C0 : L_X p s m meth c b L xs D cI ad Lc t u) (hi : i + 4 ≤ L) (hM : L_St t u M) (hP : va_P D vwCl (me_ws cI ad Lc M) H) (hS : va_S (me_A ad Lc s.heap.size) s.heap H locs) (hl : lv_has ls 4 [(0, .ref b), (1, .ref (ad t)), (2, .ref (ad u)), (3, .int (nI i))]) (kk : ∀ (M2 : Mem), L_St t u M2 → ∀ (H2 : Heap) (locs2 : List Loc), va_P D vwCl (me_ws cI ad Lc M2) H2 → va_S (me_A ad Lc s.heap.size) s.heap H2 locs2 → W p l e room_1 s m #[Value.ref b] below meth c H2 locs2 600000 7302249 (lw_Z below #[Value.ref b] s) (F0 m 959 ls [])) : W p l e room_1 s m #[Value.ref b] below meth c H locs 600000 7302249 (lw_Z below #[Value.ref b] s) (F0 m 203 ls []) := by
  have hbA := C0.no
  obtain ⟨⟨hx, hb, hr, hml, hown, hts, hX, hbl, hlocks, hgv⟩, hL, hK, hI, h5, h6, htu, hfr, hw⟩ := C0
  obtain ⟨tx, n, ea, K, S, d0, s0, A, kp, A1, A2, Z, hC, hR, hV⟩ := hM
  obtain ⟨v, M1, M2, e1, e2, hM2⟩ := PS.St (P_wipe hC hR hV htu : PS t u M (X5_wipe t) (X6_wipe u))
  refine lv_aload_n hx hb dL_law_203 rfl (lv_at hl 1 rfl) ?_
  refine me_callVi (As := []) (rest := []) ⟨hx, hb, hml, hown, hw⟩ (c_X5_wipe h5 e1) (cwV 0 hw gL_law_X5_wipe rfl rfl rfl hd_X5_wipe ⟨(Nat.le_of_ble_eq_true rfl), (Nat.le_of_ble_eq_true rfl)⟩) hK hI hP hS h5.1 rfl rfl hl.1 rfl (Nat.le_of_ble_eq_true rfl) dL_law_204 ⟨Nat.le_refl _, Nat.le_refl _⟩ (fun H locs hP hS => ?_)
  refine lv_aload_n hx hb dL_law_207 rfl (lv_at hl 2 rfl) ?_
  refine me_callVi (As := []) (rest := [.int v]) ⟨hx, hb, hml, hown, hw⟩ (c_X6_wipe h6 e2) (cwV 0 hw gL_law_X6_wipe rfl rfl rfl hd_X6_wipe ⟨(Nat.le_of_ble_eq_true rfl), (Nat.le_of_ble_eq_true rfl)⟩) hK hI hP hS h6.1 rfl rfl hl.1 rfl (Nat.le_of_ble_eq_true rfl) dL_law_208 ⟨Nat.le_refl _, Nat.le_refl _⟩ (fun H locs hP hS => ?_)
  refine lv_icmp_eq (tgt := 959) hx hb dL_law_211 (by decide) (fun _ => kk M2 hM2 H locs hP hS) (fun q => absurd rfl q)
set_option maxRecDepth 100000 in
set_option maxHeartbeats 4000000 in
theorem L_case2 {p : Program} {l : Launch} {e : Env} {s : State} {m : MethodId} {below : List Frame} {meth : Method} {c : Code} {D : va_G} {cI : ClassId} {ad : Nat → Nat} {Lc : List CDs} {b L i t u : Nat} {xs : Nat → Int32} {M : Mem} {ls : Array Slot} {H : Heap} {locs : List Loc} (C0 : L_X p s m meth c b L xs D cI ad Lc t u) (hi : i + 4 ≤ L) (hM : L_St t u M) (hP : va_P D vwCl (me_ws cI ad Lc M) H) (hS : va_S (me_A ad Lc s.heap.size) s.heap H locs) (hl : lv_has ls 4 [(0, .ref b), (1, .ref (ad t)), (2, .ref (ad u)), (3, .int (nI i))]) (kk : ∀ (M2 : Mem), L_St t u M2 → ∀ (H2 : Heap) (locs2 : List Loc), va_P D vwCl (me_ws cI ad Lc M2) H2 → va_S (me_A ad Lc s.heap.size) s.heap H2 locs2 → W p l e room_1 s m #[Value.ref b] below meth c H2 locs2 600000 7302249 (lw_Z below #[Value.ref b] s) (F0 m 959 ls [])) : W p l e room_1 s m #[Value.ref b] below meth c H locs 600000 7302249 (lw_Z below #[Value.ref b] s) (F0 m 216 ls []) := by
  have hbA := C0.no
  obtain ⟨⟨hx, hb, hr, hml, hown, hts, hX, hbl, hlocks, hgv⟩, hL, hK, hI, h5, h6, htu, hfr, hw⟩ := C0
  obtain ⟨tx, n, ea, K, S, d0, s0, A, kp, A1, A2, Z, hC, hR, hV⟩ := hM
  obtain ⟨v, M1, M2, e1, e2, hM2⟩ := PS.St (P_fault hC hR hV htu : PS t u M (X5_fault t) (X6_fault u))
  refine lv_aload_n hx hb dL_law_216 rfl (lv_at hl 1 rfl) ?_
  refine me_callVi (As := []) (rest := []) ⟨hx, hb, hml, hown, hw⟩ (c_X5_fault h5 e1) (cwV 0 hw gL_law_X5_fault rfl rfl rfl hd_X5_fault ⟨(Nat.le_of_ble_eq_true rfl), (Nat.le_of_ble_eq_true rfl)⟩) hK hI hP hS h5.1 rfl rfl hl.1 rfl (Nat.le_of_ble_eq_true rfl) dL_law_217 ⟨Nat.le_refl _, Nat.le_refl _⟩ (fun H locs hP hS => ?_)
  refine lv_aload_n hx hb dL_law_220 rfl (lv_at hl 2 rfl) ?_
  refine me_callVi (As := []) (rest := [.int v]) ⟨hx, hb, hml, hown, hw⟩ (c_X6_fault h6 e2) (cwV 0 hw gL_law_X6_fault rfl rfl rfl hd_X6_fault ⟨(Nat.le_of_ble_eq_true rfl), (Nat.le_of_ble_eq_true rfl)⟩) hK hI hP hS h6.1 rfl rfl hl.1 rfl (Nat.le_of_ble_eq_true rfl) dL_law_221 ⟨Nat.le_refl _, Nat.le_refl _⟩ (fun H locs hP hS => ?_)
  refine lv_icmp_eq (tgt := 959) hx hb dL_law_224 (by decide) (fun _ => kk M2 hM2 H locs hP hS) (fun q => absurd rfl q)
set_option maxRecDepth 100000 in
set_option maxHeartbeats 4000000 in
theorem L_case3 {p : Program} {l : Launch} {e : Env} {s : State} {m : MethodId} {below : List Frame} {meth : Method} {c : Code} {D : va_G} {cI : ClassId} {ad : Nat → Nat} {Lc : List CDs} {b L i t u : Nat} {xs : Nat → Int32} {M : Mem} {ls : Array Slot} {H : Heap} {locs : List Loc} (C0 : L_X p s m meth c b L xs D cI ad Lc t u) (hi : i + 4 ≤ L) (hM : L_St t u M) (hP : va_P D vwCl (me_ws cI ad Lc M) H) (hS : va_S (me_A ad Lc s.heap.size) s.heap H locs) (hl : lv_has ls 4 [(0, .ref b), (1, .ref (ad t)), (2, .ref (ad u)), (3, .int (nI i))]) (kk : ∀ (M2 : Mem), L_St t u M2 → ∀ (H2 : Heap) (locs2 : List Loc), va_P D vwCl (me_ws cI ad Lc M2) H2 → va_S (me_A ad Lc s.heap.size) s.heap H2 locs2 → W p l e room_1 s m #[Value.ref b] below meth c H2 locs2 600000 7302249 (lw_Z below #[Value.ref b] s) (F0 m 959 ls [])) : W p l e room_1 s m #[Value.ref b] below meth c H locs 600000 7302249 (lw_Z below #[Value.ref b] s) (F0 m 229 ls []) := by
  have hbA := C0.no
  obtain ⟨⟨hx, hb, hr, hml, hown, hts, hX, hbl, hlocks, hgv⟩, hL, hK, hI, h5, h6, htu, hfr, hw⟩ := C0
  obtain ⟨tx, n, ea, K, S, d0, s0, A, kp, A1, A2, Z, hC, hR, hV⟩ := hM
  obtain ⟨v, M1, M2, e1, e2, hM2⟩ := PS.St (P_lay hC hR hV htu : PS t u M (X5_lay t) (X6_lay u))
  refine lv_aload_n hx hb dL_law_229 rfl (lv_at hl 1 rfl) ?_
  refine me_callVi (As := []) (rest := []) ⟨hx, hb, hml, hown, hw⟩ (c_X5_lay h5 e1) (cwV 0 hw gL_law_X5_lay rfl rfl rfl hd_X5_lay ⟨(Nat.le_of_ble_eq_true rfl), (Nat.le_of_ble_eq_true rfl)⟩) hK hI hP hS h5.1 rfl rfl hl.1 rfl (Nat.le_of_ble_eq_true rfl) dL_law_230 ⟨Nat.le_refl _, Nat.le_refl _⟩ (fun H locs hP hS => ?_)
  refine lv_aload_n hx hb dL_law_233 rfl (lv_at hl 2 rfl) ?_
  refine me_callVi (As := []) (rest := [.int v]) ⟨hx, hb, hml, hown, hw⟩ (c_X6_lay h6 e2) (cwV 0 hw gL_law_X6_lay rfl rfl rfl hd_X6_lay ⟨(Nat.le_of_ble_eq_true rfl), (Nat.le_of_ble_eq_true rfl)⟩) hK hI hP hS h6.1 rfl rfl hl.1 rfl (Nat.le_of_ble_eq_true rfl) dL_law_234 ⟨Nat.le_refl _, Nat.le_refl _⟩ (fun H locs hP hS => ?_)
  refine lv_icmp_eq (tgt := 959) hx hb dL_law_237 (by decide) (fun _ => kk M2 hM2 H locs hP hS) (fun q => absurd rfl q)
set_option maxRecDepth 100000 in
set_option maxHeartbeats 4000000 in
theorem L_case4 {p : Program} {l : Launch} {e : Env} {s : State} {m : MethodId} {below : List Frame} {meth : Method} {c : Code} {D : va_G} {cI : ClassId} {ad : Nat → Nat} {Lc : List CDs} {b L i t u : Nat} {xs : Nat → Int32} {M : Mem} {ls : Array Slot} {H : Heap} {locs : List Loc} (C0 : L_X p s m meth c b L xs D cI ad Lc t u) (hi : i + 4 ≤ L) (hM : L_St t u M) (hP : va_P D vwCl (me_ws cI ad Lc M) H) (hS : va_S (me_A ad Lc s.heap.size) s.heap H locs) (hl : lv_has ls 4 [(0, .ref b), (1, .ref (ad t)), (2, .ref (ad u)), (3, .int (nI i))]) (kk : ∀ (M2 : Mem), L_St t u M2 → ∀ (H2 : Heap) (locs2 : List Loc), va_P D vwCl (me_ws cI ad Lc M2) H2 → va_S (me_A ad Lc s.heap.size) s.heap H2 locs2 → W p l e room_1 s m #[Value.ref b] below meth c H2 locs2 600000 7302249 (lw_Z below #[Value.ref b] s) (F0 m 959 ls [])) : W p l e room_1 s m #[Value.ref b] below meth c H locs 600000 7302249 (lw_Z below #[Value.ref b] s) (F0 m 242 ls []) := by
  have hbA := C0.no
  obtain ⟨⟨hx, hb, hr, hml, hown, hts, hX, hbl, hlocks, hgv⟩, hL, hK, hI, h5, h6, htu, hfr, hw⟩ := C0
  obtain ⟨tx, n, ea, K, S, d0, s0, A, kp, A1, A2, Z, hC, hR, hV⟩ := hM
  obtain ⟨v, M1, M2, e1, e2, hM2⟩ := PS.St (P_person hC hR hV htu : PS t u M (X5_person t (xs (i + 1)) (xs (i + 2))) (X6_person u (xs (i + 1)) (xs (i + 2))))
  refine lv_aload_n hx hb dL_law_242 rfl (lv_at hl 1 rfl) ?_
  refine lv_aload_n hx hb dL_law_243 rfl (lv_at hl 0 rfl) ?_
  refine lv_iload_n hx hb dL_law_244 rfl (lv_at hl 3 rfl) ?_
  refine lv_iconst (v := nI 1) hx hb dL_law_245 (by decide) ?_
  refine lv_iadd hx hb dL_law_246 ?_
  rw [nI_add i 1]
  refine va_sld hx hb hX hbl hbA hS (nI_in (show i + 1 < L by omega) (by omega)) dL_law_247 ?_
  rw [nI_clamp (show i + 1 < 2 ^ 31 by omega)]
  refine lv_aload_n hx hb dL_law_248 rfl (lv_at hl 0 rfl) ?_
  refine lv_iload_n hx hb dL_law_249 rfl (lv_at hl 3 rfl) ?_
  refine lv_iconst (v := nI 2) hx hb dL_law_250 (by decide) ?_
  refine lv_iadd hx hb dL_law_251 ?_
  rw [nI_add i 2]
  refine va_sld hx hb hX hbl hbA hS (nI_in (show i + 2 < L by omega) (by omega)) dL_law_252 ?_
  rw [nI_clamp (show i + 2 < 2 ^ 31 by omega)]
  refine me_callVi (As := [.int (xs (i + 1)), .int (xs (i + 2))]) (rest := []) ⟨hx, hb, hml, hown, hw⟩ (c_X5_person h5 e1) (cwV 2 hw gL_law_X5_person rfl rfl rfl hd_X5_person ⟨(Nat.le_of_ble_eq_true rfl), (Nat.le_of_ble_eq_true rfl)⟩) hK hI hP hS h5.1 rfl rfl hl.1 rfl (Nat.le_of_ble_eq_true rfl) dL_law_253 ⟨Nat.le_refl _, Nat.le_refl _⟩ (fun H locs hP hS => ?_)
  refine lv_aload_n hx hb dL_law_256 rfl (lv_at hl 2 rfl) ?_
  refine lv_aload_n hx hb dL_law_257 rfl (lv_at hl 0 rfl) ?_
  refine lv_iload_n hx hb dL_law_258 rfl (lv_at hl 3 rfl) ?_
  refine lv_iconst (v := nI 1) hx hb dL_law_259 (by decide) ?_
  refine lv_iadd hx hb dL_law_260 ?_
  rw [nI_add i 1]
  refine va_sld hx hb hX hbl hbA hS (nI_in (show i + 1 < L by omega) (by omega)) dL_law_261 ?_
  rw [nI_clamp (show i + 1 < 2 ^ 31 by omega)]
  refine lv_aload_n hx hb dL_law_262 rfl (lv_at hl 0 rfl) ?_
  refine lv_iload_n hx hb dL_law_263 rfl (lv_at hl 3 rfl) ?_
  refine lv_iconst (v := nI 2) hx hb dL_law_264 (by decide) ?_
  refine lv_iadd hx hb dL_law_265 ?_
  rw [nI_add i 2]
  refine va_sld hx hb hX hbl hbA hS (nI_in (show i + 2 < L by omega) (by omega)) dL_law_266 ?_
  rw [nI_clamp (show i + 2 < 2 ^ 31 by omega)]
  refine me_callVi (As := [.int (xs (i + 1)), .int (xs (i + 2))]) (rest := [.int v]) ⟨hx, hb, hml, hown, hw⟩ (c_X6_person h6 e2) (cwV 2 hw gL_law_X6_person rfl rfl rfl hd_X6_person ⟨(Nat.le_of_ble_eq_true rfl), (Nat.le_of_ble_eq_true rfl)⟩) hK hI hP hS h6.1 rfl rfl hl.1 rfl (Nat.le_of_ble_eq_true rfl) dL_law_267 ⟨Nat.le_refl _, Nat.le_refl _⟩ (fun H locs hP hS => ?_)
  refine lv_icmp_eq (tgt := 959) hx hb dL_law_270 (by decide) (fun _ => kk M2 hM2 H locs hP hS) (fun q => absurd rfl q)
set_option maxRecDepth 100000 in
set_option maxHeartbeats 4000000 in
theorem L_case5 {p : Program} {l : Launch} {e : Env} {s : State} {m : MethodId} {below : List Frame} {meth : Method} {c : Code} {D : va_G} {cI : ClassId} {ad : Nat → Nat} {Lc : List CDs} {b L i t u : Nat} {xs : Nat → Int32} {M : Mem} {ls : Array Slot} {H : Heap} {locs : List Loc} (C0 : L_X p s m meth c b L xs D cI ad Lc t u) (hi : i + 4 ≤ L) (hM : L_St t u M) (hP : va_P D vwCl (me_ws cI ad Lc M) H) (hS : va_S (me_A ad Lc s.heap.size) s.heap H locs) (hl : lv_has ls 4 [(0, .ref b), (1, .ref (ad t)), (2, .ref (ad u)), (3, .int (nI i))]) (kk : ∀ (M2 : Mem), L_St t u M2 → ∀ (H2 : Heap) (locs2 : List Loc), va_P D vwCl (me_ws cI ad Lc M2) H2 → va_S (me_A ad Lc s.heap.size) s.heap H2 locs2 → W p l e room_1 s m #[Value.ref b] below meth c H2 locs2 600000 7302249 (lw_Z below #[Value.ref b] s) (F0 m 959 ls [])) : W p l e room_1 s m #[Value.ref b] below meth c H locs 600000 7302249 (lw_Z below #[Value.ref b] s) (F0 m 275 ls []) := by
  have hbA := C0.no
  obtain ⟨⟨hx, hb, hr, hml, hown, hts, hX, hbl, hlocks, hgv⟩, hL, hK, hI, h5, h6, htu, hfr, hw⟩ := C0
  obtain ⟨tx, n, ea, K, S, d0, s0, A, kp, A1, A2, Z, hC, hR, hV⟩ := hM
  obtain ⟨v, M1, M2, e1, e2, hM2⟩ := PS.St (P_owes hC hR hV htu : PS t u M (X5_owes t (xs (i + 1)) (xs (i + 2))) (X6_owes u (xs (i + 1)) (xs (i + 2))))
  refine lv_aload_n hx hb dL_law_275 rfl (lv_at hl 1 rfl) ?_
  refine lv_aload_n hx hb dL_law_276 rfl (lv_at hl 0 rfl) ?_
  refine lv_iload_n hx hb dL_law_277 rfl (lv_at hl 3 rfl) ?_
  refine lv_iconst (v := nI 1) hx hb dL_law_278 (by decide) ?_
  refine lv_iadd hx hb dL_law_279 ?_
  rw [nI_add i 1]
  refine va_sld hx hb hX hbl hbA hS (nI_in (show i + 1 < L by omega) (by omega)) dL_law_280 ?_
  rw [nI_clamp (show i + 1 < 2 ^ 31 by omega)]
  refine lv_aload_n hx hb dL_law_281 rfl (lv_at hl 0 rfl) ?_
  refine lv_iload_n hx hb dL_law_282 rfl (lv_at hl 3 rfl) ?_
  refine lv_iconst (v := nI 2) hx hb dL_law_283 (by decide) ?_
  refine lv_iadd hx hb dL_law_284 ?_
  rw [nI_add i 2]
  refine va_sld hx hb hX hbl hbA hS (nI_in (show i + 2 < L by omega) (by omega)) dL_law_285 ?_
  rw [nI_clamp (show i + 2 < 2 ^ 31 by omega)]
  refine me_callVi (As := [.int (xs (i + 1)), .int (xs (i + 2))]) (rest := []) ⟨hx, hb, hml, hown, hw⟩ (c_X5_owes h5 e1) (cwV 2 hw gL_law_X5_owes rfl rfl rfl hd_X5_owes ⟨(Nat.le_of_ble_eq_true rfl), (Nat.le_of_ble_eq_true rfl)⟩) hK hI hP hS h5.1 rfl rfl hl.1 rfl (Nat.le_of_ble_eq_true rfl) dL_law_286 ⟨Nat.le_refl _, Nat.le_refl _⟩ (fun H locs hP hS => ?_)
  refine lv_aload_n hx hb dL_law_289 rfl (lv_at hl 2 rfl) ?_
  refine lv_aload_n hx hb dL_law_290 rfl (lv_at hl 0 rfl) ?_
  refine lv_iload_n hx hb dL_law_291 rfl (lv_at hl 3 rfl) ?_
  refine lv_iconst (v := nI 1) hx hb dL_law_292 (by decide) ?_
  refine lv_iadd hx hb dL_law_293 ?_
  rw [nI_add i 1]
  refine va_sld hx hb hX hbl hbA hS (nI_in (show i + 1 < L by omega) (by omega)) dL_law_294 ?_
  rw [nI_clamp (show i + 1 < 2 ^ 31 by omega)]
  refine lv_aload_n hx hb dL_law_295 rfl (lv_at hl 0 rfl) ?_
  refine lv_iload_n hx hb dL_law_296 rfl (lv_at hl 3 rfl) ?_
  refine lv_iconst (v := nI 2) hx hb dL_law_297 (by decide) ?_
  refine lv_iadd hx hb dL_law_298 ?_
  rw [nI_add i 2]
  refine va_sld hx hb hX hbl hbA hS (nI_in (show i + 2 < L by omega) (by omega)) dL_law_299 ?_
  rw [nI_clamp (show i + 2 < 2 ^ 31 by omega)]
  refine me_callVi (As := [.int (xs (i + 1)), .int (xs (i + 2))]) (rest := [.int v]) ⟨hx, hb, hml, hown, hw⟩ (c_X6_owes h6 e2) (cwV 2 hw gL_law_X6_owes rfl rfl rfl hd_X6_owes ⟨(Nat.le_of_ble_eq_true rfl), (Nat.le_of_ble_eq_true rfl)⟩) hK hI hP hS h6.1 rfl rfl hl.1 rfl (Nat.le_of_ble_eq_true rfl) dL_law_300 ⟨Nat.le_refl _, Nat.le_refl _⟩ (fun H locs hP hS => ?_)
  refine lv_icmp_eq (tgt := 959) hx hb dL_law_303 (by decide) (fun _ => kk M2 hM2 H locs hP hS) (fun q => absurd rfl q)
set_option maxRecDepth 100000 in
set_option maxHeartbeats 4000000 in
theorem L_case6 {p : Program} {l : Launch} {e : Env} {s : State} {m : MethodId} {below : List Frame} {meth : Method} {c : Code} {D : va_G} {cI : ClassId} {ad : Nat → Nat} {Lc : List CDs} {b L i t u : Nat} {xs : Nat → Int32} {M : Mem} {ls : Array Slot} {H : Heap} {locs : List Loc} (C0 : L_X p s m meth c b L xs D cI ad Lc t u) (hi : i + 4 ≤ L) (hM : L_St t u M) (hP : va_P D vwCl (me_ws cI ad Lc M) H) (hS : va_S (me_A ad Lc s.heap.size) s.heap H locs) (hl : lv_has ls 4 [(0, .ref b), (1, .ref (ad t)), (2, .ref (ad u)), (3, .int (nI i))]) (kk : ∀ (M2 : Mem), L_St t u M2 → ∀ (H2 : Heap) (locs2 : List Loc), va_P D vwCl (me_ws cI ad Lc M2) H2 → va_S (me_A ad Lc s.heap.size) s.heap H2 locs2 → W p l e room_1 s m #[Value.ref b] below meth c H2 locs2 600000 7302249 (lw_Z below #[Value.ref b] s) (F0 m 959 ls [])) : W p l e room_1 s m #[Value.ref b] below meth c H locs 600000 7302249 (lw_Z below #[Value.ref b] s) (F0 m 308 ls []) := by
  have hbA := C0.no
  obtain ⟨⟨hx, hb, hr, hml, hown, hts, hX, hbl, hlocks, hgv⟩, hL, hK, hI, h5, h6, htu, hfr, hw⟩ := C0
  obtain ⟨tx, n, ea, K, S, d0, s0, A, kp, A1, A2, Z, hC, hR, hV⟩ := hM
  obtain ⟨v, M1, M2, e1, e2, hM2⟩ := PS.St (P_speak hC hR hV htu : PS t u M (X5_speak t (xs (i + 1)) (xs (i + 2))) (X6_speak u (xs (i + 1)) (xs (i + 2))))
  refine lv_aload_n hx hb dL_law_308 rfl (lv_at hl 1 rfl) ?_
  refine lv_aload_n hx hb dL_law_309 rfl (lv_at hl 0 rfl) ?_
  refine lv_iload_n hx hb dL_law_310 rfl (lv_at hl 3 rfl) ?_
  refine lv_iconst (v := nI 1) hx hb dL_law_311 (by decide) ?_
  refine lv_iadd hx hb dL_law_312 ?_
  rw [nI_add i 1]
  refine va_sld hx hb hX hbl hbA hS (nI_in (show i + 1 < L by omega) (by omega)) dL_law_313 ?_
  rw [nI_clamp (show i + 1 < 2 ^ 31 by omega)]
  refine lv_aload_n hx hb dL_law_314 rfl (lv_at hl 0 rfl) ?_
  refine lv_iload_n hx hb dL_law_315 rfl (lv_at hl 3 rfl) ?_
  refine lv_iconst (v := nI 2) hx hb dL_law_316 (by decide) ?_
  refine lv_iadd hx hb dL_law_317 ?_
  rw [nI_add i 2]
  refine va_sld hx hb hX hbl hbA hS (nI_in (show i + 2 < L by omega) (by omega)) dL_law_318 ?_
  rw [nI_clamp (show i + 2 < 2 ^ 31 by omega)]
  refine me_callVi (As := [.int (xs (i + 1)), .int (xs (i + 2))]) (rest := []) ⟨hx, hb, hml, hown, hw⟩ (c_X5_speak h5 e1) (cwV 2 hw gL_law_X5_speak rfl rfl rfl hd_X5_speak ⟨(Nat.le_of_ble_eq_true rfl), (Nat.le_of_ble_eq_true rfl)⟩) hK hI hP hS h5.1 rfl rfl hl.1 rfl (Nat.le_of_ble_eq_true rfl) dL_law_319 ⟨Nat.le_refl _, Nat.le_refl _⟩ (fun H locs hP hS => ?_)
  refine lv_aload_n hx hb dL_law_322 rfl (lv_at hl 2 rfl) ?_
  refine lv_aload_n hx hb dL_law_323 rfl (lv_at hl 0 rfl) ?_
  refine lv_iload_n hx hb dL_law_324 rfl (lv_at hl 3 rfl) ?_
  refine lv_iconst (v := nI 1) hx hb dL_law_325 (by decide) ?_
  refine lv_iadd hx hb dL_law_326 ?_
  rw [nI_add i 1]
  refine va_sld hx hb hX hbl hbA hS (nI_in (show i + 1 < L by omega) (by omega)) dL_law_327 ?_
  rw [nI_clamp (show i + 1 < 2 ^ 31 by omega)]
  refine lv_aload_n hx hb dL_law_328 rfl (lv_at hl 0 rfl) ?_
  refine lv_iload_n hx hb dL_law_329 rfl (lv_at hl 3 rfl) ?_
  refine lv_iconst (v := nI 2) hx hb dL_law_330 (by decide) ?_
  refine lv_iadd hx hb dL_law_331 ?_
  rw [nI_add i 2]
  refine va_sld hx hb hX hbl hbA hS (nI_in (show i + 2 < L by omega) (by omega)) dL_law_332 ?_
  rw [nI_clamp (show i + 2 < 2 ^ 31 by omega)]
  refine me_callVi (As := [.int (xs (i + 1)), .int (xs (i + 2))]) (rest := [.int v]) ⟨hx, hb, hml, hown, hw⟩ (c_X6_speak h6 e2) (cwV 2 hw gL_law_X6_speak rfl rfl rfl hd_X6_speak ⟨(Nat.le_of_ble_eq_true rfl), (Nat.le_of_ble_eq_true rfl)⟩) hK hI hP hS h6.1 rfl rfl hl.1 rfl (Nat.le_of_ble_eq_true rfl) dL_law_333 ⟨Nat.le_refl _, Nat.le_refl _⟩ (fun H locs hP hS => ?_)
  refine lv_icmp_eq (tgt := 959) hx hb dL_law_336 (by decide) (fun _ => kk M2 hM2 H locs hP hS) (fun q => absurd rfl q)
set_option maxRecDepth 100000 in
set_option maxHeartbeats 4000000 in
theorem L_case7 {p : Program} {l : Launch} {e : Env} {s : State} {m : MethodId} {below : List Frame} {meth : Method} {c : Code} {D : va_G} {cI : ClassId} {ad : Nat → Nat} {Lc : List CDs} {b L i t u : Nat} {xs : Nat → Int32} {M : Mem} {ls : Array Slot} {H : Heap} {locs : List Loc} (C0 : L_X p s m meth c b L xs D cI ad Lc t u) (hi : i + 4 ≤ L) (hM : L_St t u M) (hP : va_P D vwCl (me_ws cI ad Lc M) H) (hS : va_S (me_A ad Lc s.heap.size) s.heap H locs) (hl : lv_has ls 4 [(0, .ref b), (1, .ref (ad t)), (2, .ref (ad u)), (3, .int (nI i))]) (kk : ∀ (M2 : Mem), L_St t u M2 → ∀ (H2 : Heap) (locs2 : List Loc), va_P D vwCl (me_ws cI ad Lc M2) H2 → va_S (me_A ad Lc s.heap.size) s.heap H2 locs2 → W p l e room_1 s m #[Value.ref b] below meth c H2 locs2 600000 7302249 (lw_Z below #[Value.ref b] s) (F0 m 959 ls [])) : W p l e room_1 s m #[Value.ref b] below meth c H locs 600000 7302249 (lw_Z below #[Value.ref b] s) (F0 m 341 ls []) := by
  have hbA := C0.no
  obtain ⟨⟨hx, hb, hr, hml, hown, hts, hX, hbl, hlocks, hgv⟩, hL, hK, hI, h5, h6, htu, hfr, hw⟩ := C0
  obtain ⟨tx, n, ea, K, S, d0, s0, A, kp, A1, A2, Z, hC, hR, hV⟩ := hM
  obtain ⟨v, M1, M2, e1, e2, hM2⟩ := PS.St (P_wrong hC hR hV htu : PS t u M (X5_wrong t (xs (i + 1)) (xs (i + 2))) (X6_wrong u (xs (i + 1)) (xs (i + 2))))
  refine lv_aload_n hx hb dL_law_341 rfl (lv_at hl 1 rfl) ?_
  refine lv_aload_n hx hb dL_law_342 rfl (lv_at hl 0 rfl) ?_
  refine lv_iload_n hx hb dL_law_343 rfl (lv_at hl 3 rfl) ?_
  refine lv_iconst (v := nI 1) hx hb dL_law_344 (by decide) ?_
  refine lv_iadd hx hb dL_law_345 ?_
  rw [nI_add i 1]
  refine va_sld hx hb hX hbl hbA hS (nI_in (show i + 1 < L by omega) (by omega)) dL_law_346 ?_
  rw [nI_clamp (show i + 1 < 2 ^ 31 by omega)]
  refine lv_aload_n hx hb dL_law_347 rfl (lv_at hl 0 rfl) ?_
  refine lv_iload_n hx hb dL_law_348 rfl (lv_at hl 3 rfl) ?_
  refine lv_iconst (v := nI 2) hx hb dL_law_349 (by decide) ?_
  refine lv_iadd hx hb dL_law_350 ?_
  rw [nI_add i 2]
  refine va_sld hx hb hX hbl hbA hS (nI_in (show i + 2 < L by omega) (by omega)) dL_law_351 ?_
  rw [nI_clamp (show i + 2 < 2 ^ 31 by omega)]
  refine me_callVi (As := [.int (xs (i + 1)), .int (xs (i + 2))]) (rest := []) ⟨hx, hb, hml, hown, hw⟩ (c_X5_wrong h5 e1) (cwV 2 hw gL_law_X5_wrong rfl rfl rfl hd_X5_wrong ⟨(Nat.le_of_ble_eq_true rfl), (Nat.le_of_ble_eq_true rfl)⟩) hK hI hP hS h5.1 rfl rfl hl.1 rfl (Nat.le_of_ble_eq_true rfl) dL_law_352 ⟨Nat.le_refl _, Nat.le_refl _⟩ (fun H locs hP hS => ?_)
  refine lv_aload_n hx hb dL_law_355 rfl (lv_at hl 2 rfl) ?_
  refine lv_aload_n hx hb dL_law_356 rfl (lv_at hl 0 rfl) ?_
  refine lv_iload_n hx hb dL_law_357 rfl (lv_at hl 3 rfl) ?_
  refine lv_iconst (v := nI 1) hx hb dL_law_358 (by decide) ?_
  refine lv_iadd hx hb dL_law_359 ?_
  rw [nI_add i 1]
  refine va_sld hx hb hX hbl hbA hS (nI_in (show i + 1 < L by omega) (by omega)) dL_law_360 ?_
  rw [nI_clamp (show i + 1 < 2 ^ 31 by omega)]
  refine lv_aload_n hx hb dL_law_361 rfl (lv_at hl 0 rfl) ?_
  refine lv_iload_n hx hb dL_law_362 rfl (lv_at hl 3 rfl) ?_
  refine lv_iconst (v := nI 2) hx hb dL_law_363 (by decide) ?_
  refine lv_iadd hx hb dL_law_364 ?_
  rw [nI_add i 2]
  refine va_sld hx hb hX hbl hbA hS (nI_in (show i + 2 < L by omega) (by omega)) dL_law_365 ?_
  rw [nI_clamp (show i + 2 < 2 ^ 31 by omega)]
  refine me_callVi (As := [.int (xs (i + 1)), .int (xs (i + 2))]) (rest := [.int v]) ⟨hx, hb, hml, hown, hw⟩ (c_X6_wrong h6 e2) (cwV 2 hw gL_law_X6_wrong rfl rfl rfl hd_X6_wrong ⟨(Nat.le_of_ble_eq_true rfl), (Nat.le_of_ble_eq_true rfl)⟩) hK hI hP hS h6.1 rfl rfl hl.1 rfl (Nat.le_of_ble_eq_true rfl) dL_law_366 ⟨Nat.le_refl _, Nat.le_refl _⟩ (fun H locs hP hS => ?_)
  refine lv_icmp_eq (tgt := 959) hx hb dL_law_369 (by decide) (fun _ => kk M2 hM2 H locs hP hS) (fun q => absurd rfl q)
set_option maxRecDepth 100000 in
set_option maxHeartbeats 4000000 in
theorem L_case8 {p : Program} {l : Launch} {e : Env} {s : State} {m : MethodId} {below : List Frame} {meth : Method} {c : Code} {D : va_G} {cI : ClassId} {ad : Nat → Nat} {Lc : List CDs} {b L i t u : Nat} {xs : Nat → Int32} {M : Mem} {ls : Array Slot} {H : Heap} {locs : List Loc} (C0 : L_X p s m meth c b L xs D cI ad Lc t u) (hi : i + 4 ≤ L) (hM : L_St t u M) (hP : va_P D vwCl (me_ws cI ad Lc M) H) (hS : va_S (me_A ad Lc s.heap.size) s.heap H locs) (hl : lv_has ls 4 [(0, .ref b), (1, .ref (ad t)), (2, .ref (ad u)), (3, .int (nI i))]) (kk : ∀ (M2 : Mem), L_St t u M2 → ∀ (H2 : Heap) (locs2 : List Loc), va_P D vwCl (me_ws cI ad Lc M2) H2 → va_S (me_A ad Lc s.heap.size) s.heap H2 locs2 → W p l e room_1 s m #[Value.ref b] below meth c H2 locs2 600000 7302249 (lw_Z below #[Value.ref b] s) (F0 m 959 ls [])) : W p l e room_1 s m #[Value.ref b] below meth c H locs 600000 7302249 (lw_Z below #[Value.ref b] s) (F0 m 374 ls []) := by
  have hbA := C0.no
  obtain ⟨⟨hx, hb, hr, hml, hown, hts, hX, hbl, hlocks, hgv⟩, hL, hK, hI, h5, h6, htu, hfr, hw⟩ := C0
  obtain ⟨tx, n, ea, K, S, d0, s0, A, kp, A1, A2, Z, hC, hR, hV⟩ := hM
  obtain ⟨v, M1, M2, e1, e2, hM2⟩ := PS.St (P_bow hC hR hV htu : PS t u M (X5_bow t (xs (i + 1)) (xs (i + 2))) (X6_bow u (xs (i + 1)) (xs (i + 2))))
  refine lv_aload_n hx hb dL_law_374 rfl (lv_at hl 1 rfl) ?_
  refine lv_aload_n hx hb dL_law_375 rfl (lv_at hl 0 rfl) ?_
  refine lv_iload_n hx hb dL_law_376 rfl (lv_at hl 3 rfl) ?_
  refine lv_iconst (v := nI 1) hx hb dL_law_377 (by decide) ?_
  refine lv_iadd hx hb dL_law_378 ?_
  rw [nI_add i 1]
  refine va_sld hx hb hX hbl hbA hS (nI_in (show i + 1 < L by omega) (by omega)) dL_law_379 ?_
  rw [nI_clamp (show i + 1 < 2 ^ 31 by omega)]
  refine lv_aload_n hx hb dL_law_380 rfl (lv_at hl 0 rfl) ?_
  refine lv_iload_n hx hb dL_law_381 rfl (lv_at hl 3 rfl) ?_
  refine lv_iconst (v := nI 2) hx hb dL_law_382 (by decide) ?_
  refine lv_iadd hx hb dL_law_383 ?_
  rw [nI_add i 2]
  refine va_sld hx hb hX hbl hbA hS (nI_in (show i + 2 < L by omega) (by omega)) dL_law_384 ?_
  rw [nI_clamp (show i + 2 < 2 ^ 31 by omega)]
  refine me_callVi (As := [.int (xs (i + 1)), .int (xs (i + 2))]) (rest := []) ⟨hx, hb, hml, hown, hw⟩ (c_X5_bow h5 e1) (cwV 2 hw gL_law_X5_bow rfl rfl rfl hd_X5_bow ⟨(Nat.le_of_ble_eq_true rfl), (Nat.le_of_ble_eq_true rfl)⟩) hK hI hP hS h5.1 rfl rfl hl.1 rfl (Nat.le_of_ble_eq_true rfl) dL_law_385 ⟨Nat.le_refl _, Nat.le_refl _⟩ (fun H locs hP hS => ?_)
  refine lv_aload_n hx hb dL_law_388 rfl (lv_at hl 2 rfl) ?_
  refine lv_aload_n hx hb dL_law_389 rfl (lv_at hl 0 rfl) ?_
  refine lv_iload_n hx hb dL_law_390 rfl (lv_at hl 3 rfl) ?_
  refine lv_iconst (v := nI 1) hx hb dL_law_391 (by decide) ?_
  refine lv_iadd hx hb dL_law_392 ?_
  rw [nI_add i 1]
  refine va_sld hx hb hX hbl hbA hS (nI_in (show i + 1 < L by omega) (by omega)) dL_law_393 ?_
  rw [nI_clamp (show i + 1 < 2 ^ 31 by omega)]
  refine lv_aload_n hx hb dL_law_394 rfl (lv_at hl 0 rfl) ?_
  refine lv_iload_n hx hb dL_law_395 rfl (lv_at hl 3 rfl) ?_
  refine lv_iconst (v := nI 2) hx hb dL_law_396 (by decide) ?_
  refine lv_iadd hx hb dL_law_397 ?_
  rw [nI_add i 2]
  refine va_sld hx hb hX hbl hbA hS (nI_in (show i + 2 < L by omega) (by omega)) dL_law_398 ?_
  rw [nI_clamp (show i + 2 < 2 ^ 31 by omega)]
  refine me_callVi (As := [.int (xs (i + 1)), .int (xs (i + 2))]) (rest := [.int v]) ⟨hx, hb, hml, hown, hw⟩ (c_X6_bow h6 e2) (cwV 2 hw gL_law_X6_bow rfl rfl rfl hd_X6_bow ⟨(Nat.le_of_ble_eq_true rfl), (Nat.le_of_ble_eq_true rfl)⟩) hK hI hP hS h6.1 rfl rfl hl.1 rfl (Nat.le_of_ble_eq_true rfl) dL_law_399 ⟨Nat.le_refl _, Nat.le_refl _⟩ (fun H locs hP hS => ?_)
  refine lv_icmp_eq (tgt := 959) hx hb dL_law_402 (by decide) (fun _ => kk M2 hM2 H locs hP hS) (fun q => absurd rfl q)
set_option maxRecDepth 100000 in
set_option maxHeartbeats 4000000 in
theorem L_case9 {p : Program} {l : Launch} {e : Env} {s : State} {m : MethodId} {below : List Frame} {meth : Method} {c : Code} {D : va_G} {cI : ClassId} {ad : Nat → Nat} {Lc : List CDs} {b L i t u : Nat} {xs : Nat → Int32} {M : Mem} {ls : Array Slot} {H : Heap} {locs : List Loc} (C0 : L_X p s m meth c b L xs D cI ad Lc t u) (hi : i + 4 ≤ L) (hM : L_St t u M) (hP : va_P D vwCl (me_ws cI ad Lc M) H) (hS : va_S (me_A ad Lc s.heap.size) s.heap H locs) (hl : lv_has ls 4 [(0, .ref b), (1, .ref (ad t)), (2, .ref (ad u)), (3, .int (nI i))]) (kk : ∀ (M2 : Mem), L_St t u M2 → ∀ (H2 : Heap) (locs2 : List Loc), va_P D vwCl (me_ws cI ad Lc M2) H2 → va_S (me_A ad Lc s.heap.size) s.heap H2 locs2 → W p l e room_1 s m #[Value.ref b] below meth c H2 locs2 600000 7302249 (lw_Z below #[Value.ref b] s) (F0 m 959 ls [])) : W p l e room_1 s m #[Value.ref b] below meth c H locs 600000 7302249 (lw_Z below #[Value.ref b] s) (F0 m 407 ls []) := by
  have hbA := C0.no
  obtain ⟨⟨hx, hb, hr, hml, hown, hts, hX, hbl, hlocks, hgv⟩, hL, hK, hI, h5, h6, htu, hfr, hw⟩ := C0
  obtain ⟨tx, n, ea, K, S, d0, s0, A, kp, A1, A2, Z, hC, hR, hV⟩ := hM
  obtain ⟨v, M1, M2, e1, e2, hM2⟩ := PS.St (P_refuse hC hR hV htu : PS t u M (X5_refuse t (xs (i + 1)) (xs (i + 2))) (X6_refuse u (xs (i + 1)) (xs (i + 2))))
  refine lv_aload_n hx hb dL_law_407 rfl (lv_at hl 1 rfl) ?_
  refine lv_aload_n hx hb dL_law_408 rfl (lv_at hl 0 rfl) ?_
  refine lv_iload_n hx hb dL_law_409 rfl (lv_at hl 3 rfl) ?_
  refine lv_iconst (v := nI 1) hx hb dL_law_410 (by decide) ?_
  refine lv_iadd hx hb dL_law_411 ?_
  rw [nI_add i 1]
  refine va_sld hx hb hX hbl hbA hS (nI_in (show i + 1 < L by omega) (by omega)) dL_law_412 ?_
  rw [nI_clamp (show i + 1 < 2 ^ 31 by omega)]
  refine lv_aload_n hx hb dL_law_413 rfl (lv_at hl 0 rfl) ?_
  refine lv_iload_n hx hb dL_law_414 rfl (lv_at hl 3 rfl) ?_
  refine lv_iconst (v := nI 2) hx hb dL_law_415 (by decide) ?_
  refine lv_iadd hx hb dL_law_416 ?_
  rw [nI_add i 2]
  refine va_sld hx hb hX hbl hbA hS (nI_in (show i + 2 < L by omega) (by omega)) dL_law_417 ?_
  rw [nI_clamp (show i + 2 < 2 ^ 31 by omega)]
  refine me_callVi (As := [.int (xs (i + 1)), .int (xs (i + 2))]) (rest := []) ⟨hx, hb, hml, hown, hw⟩ (c_X5_refuse h5 e1) (cwV 2 hw gL_law_X5_refuse rfl rfl rfl hd_X5_refuse ⟨(Nat.le_of_ble_eq_true rfl), (Nat.le_of_ble_eq_true rfl)⟩) hK hI hP hS h5.1 rfl rfl hl.1 rfl (Nat.le_of_ble_eq_true rfl) dL_law_418 ⟨Nat.le_refl _, Nat.le_refl _⟩ (fun H locs hP hS => ?_)
  refine lv_aload_n hx hb dL_law_421 rfl (lv_at hl 2 rfl) ?_
  refine lv_aload_n hx hb dL_law_422 rfl (lv_at hl 0 rfl) ?_
  refine lv_iload_n hx hb dL_law_423 rfl (lv_at hl 3 rfl) ?_
  refine lv_iconst (v := nI 1) hx hb dL_law_424 (by decide) ?_
  refine lv_iadd hx hb dL_law_425 ?_
  rw [nI_add i 1]
  refine va_sld hx hb hX hbl hbA hS (nI_in (show i + 1 < L by omega) (by omega)) dL_law_426 ?_
  rw [nI_clamp (show i + 1 < 2 ^ 31 by omega)]
  refine lv_aload_n hx hb dL_law_427 rfl (lv_at hl 0 rfl) ?_
  refine lv_iload_n hx hb dL_law_428 rfl (lv_at hl 3 rfl) ?_
  refine lv_iconst (v := nI 2) hx hb dL_law_429 (by decide) ?_
  refine lv_iadd hx hb dL_law_430 ?_
  rw [nI_add i 2]
  refine va_sld hx hb hX hbl hbA hS (nI_in (show i + 2 < L by omega) (by omega)) dL_law_431 ?_
  rw [nI_clamp (show i + 2 < 2 ^ 31 by omega)]
  refine me_callVi (As := [.int (xs (i + 1)), .int (xs (i + 2))]) (rest := [.int v]) ⟨hx, hb, hml, hown, hw⟩ (c_X6_refuse h6 e2) (cwV 2 hw gL_law_X6_refuse rfl rfl rfl hd_X6_refuse ⟨(Nat.le_of_ble_eq_true rfl), (Nat.le_of_ble_eq_true rfl)⟩) hK hI hP hS h6.1 rfl rfl hl.1 rfl (Nat.le_of_ble_eq_true rfl) dL_law_432 ⟨Nat.le_refl _, Nat.le_refl _⟩ (fun H locs hP hS => ?_)
  refine lv_icmp_eq (tgt := 959) hx hb dL_law_435 (by decide) (fun _ => kk M2 hM2 H locs hP hS) (fun q => absurd rfl q)
set_option maxRecDepth 100000 in
set_option maxHeartbeats 4000000 in
theorem L_case10 {p : Program} {l : Launch} {e : Env} {s : State} {m : MethodId} {below : List Frame} {meth : Method} {c : Code} {D : va_G} {cI : ClassId} {ad : Nat → Nat} {Lc : List CDs} {b L i t u : Nat} {xs : Nat → Int32} {M : Mem} {ls : Array Slot} {H : Heap} {locs : List Loc} (C0 : L_X p s m meth c b L xs D cI ad Lc t u) (hi : i + 4 ≤ L) (hM : L_St t u M) (hP : va_P D vwCl (me_ws cI ad Lc M) H) (hS : va_S (me_A ad Lc s.heap.size) s.heap H locs) (hl : lv_has ls 4 [(0, .ref b), (1, .ref (ad t)), (2, .ref (ad u)), (3, .int (nI i))]) (kk : ∀ (M2 : Mem), L_St t u M2 → ∀ (H2 : Heap) (locs2 : List Loc), va_P D vwCl (me_ws cI ad Lc M2) H2 → va_S (me_A ad Lc s.heap.size) s.heap H2 locs2 → W p l e room_1 s m #[Value.ref b] below meth c H2 locs2 600000 7302249 (lw_Z below #[Value.ref b] s) (F0 m 959 ls [])) : W p l e room_1 s m #[Value.ref b] below meth c H locs 600000 7302249 (lw_Z below #[Value.ref b] s) (F0 m 440 ls []) := by
  have hbA := C0.no
  obtain ⟨⟨hx, hb, hr, hml, hown, hts, hX, hbl, hlocks, hgv⟩, hL, hK, hI, h5, h6, htu, hfr, hw⟩ := C0
  obtain ⟨tx, n, ea, K, S, d0, s0, A, kp, A1, A2, Z, hC, hR, hV⟩ := hM
  obtain ⟨v, M1, M2, e1, e2, hM2⟩ := PS.St (P_atOnce hC hR hV htu : PS t u M (X5_atOnce t (xs (i + 1)) (xs (i + 2))) (X6_atOnce u (xs (i + 1)) (xs (i + 2))))
  refine lv_aload_n hx hb dL_law_440 rfl (lv_at hl 1 rfl) ?_
  refine lv_aload_n hx hb dL_law_441 rfl (lv_at hl 0 rfl) ?_
  refine lv_iload_n hx hb dL_law_442 rfl (lv_at hl 3 rfl) ?_
  refine lv_iconst (v := nI 1) hx hb dL_law_443 (by decide) ?_
  refine lv_iadd hx hb dL_law_444 ?_
  rw [nI_add i 1]
  refine va_sld hx hb hX hbl hbA hS (nI_in (show i + 1 < L by omega) (by omega)) dL_law_445 ?_
  rw [nI_clamp (show i + 1 < 2 ^ 31 by omega)]
  refine lv_aload_n hx hb dL_law_446 rfl (lv_at hl 0 rfl) ?_
  refine lv_iload_n hx hb dL_law_447 rfl (lv_at hl 3 rfl) ?_
  refine lv_iconst (v := nI 2) hx hb dL_law_448 (by decide) ?_
  refine lv_iadd hx hb dL_law_449 ?_
  rw [nI_add i 2]
  refine va_sld hx hb hX hbl hbA hS (nI_in (show i + 2 < L by omega) (by omega)) dL_law_450 ?_
  rw [nI_clamp (show i + 2 < 2 ^ 31 by omega)]
  refine me_callVi (As := [.int (xs (i + 1)), .int (xs (i + 2))]) (rest := []) ⟨hx, hb, hml, hown, hw⟩ (c_X5_atOnce h5 e1) (cwV 2 hw gL_law_X5_atOnce rfl rfl rfl hd_X5_atOnce ⟨(Nat.le_of_ble_eq_true rfl), (Nat.le_of_ble_eq_true rfl)⟩) hK hI hP hS h5.1 rfl rfl hl.1 rfl (Nat.le_of_ble_eq_true rfl) dL_law_451 ⟨Nat.le_refl _, Nat.le_refl _⟩ (fun H locs hP hS => ?_)
  refine lv_aload_n hx hb dL_law_454 rfl (lv_at hl 2 rfl) ?_
  refine lv_aload_n hx hb dL_law_455 rfl (lv_at hl 0 rfl) ?_
  refine lv_iload_n hx hb dL_law_456 rfl (lv_at hl 3 rfl) ?_
  refine lv_iconst (v := nI 1) hx hb dL_law_457 (by decide) ?_
  refine lv_iadd hx hb dL_law_458 ?_
  rw [nI_add i 1]
  refine va_sld hx hb hX hbl hbA hS (nI_in (show i + 1 < L by omega) (by omega)) dL_law_459 ?_
  rw [nI_clamp (show i + 1 < 2 ^ 31 by omega)]
  refine lv_aload_n hx hb dL_law_460 rfl (lv_at hl 0 rfl) ?_
  refine lv_iload_n hx hb dL_law_461 rfl (lv_at hl 3 rfl) ?_
  refine lv_iconst (v := nI 2) hx hb dL_law_462 (by decide) ?_
  refine lv_iadd hx hb dL_law_463 ?_
  rw [nI_add i 2]
  refine va_sld hx hb hX hbl hbA hS (nI_in (show i + 2 < L by omega) (by omega)) dL_law_464 ?_
  rw [nI_clamp (show i + 2 < 2 ^ 31 by omega)]
  refine me_callVi (As := [.int (xs (i + 1)), .int (xs (i + 2))]) (rest := [.int v]) ⟨hx, hb, hml, hown, hw⟩ (c_X6_atOnce h6 e2) (cwV 2 hw gL_law_X6_atOnce rfl rfl rfl hd_X6_atOnce ⟨(Nat.le_of_ble_eq_true rfl), (Nat.le_of_ble_eq_true rfl)⟩) hK hI hP hS h6.1 rfl rfl hl.1 rfl (Nat.le_of_ble_eq_true rfl) dL_law_465 ⟨Nat.le_refl _, Nat.le_refl _⟩ (fun H locs hP hS => ?_)
  refine lv_icmp_eq (tgt := 959) hx hb dL_law_468 (by decide) (fun _ => kk M2 hM2 H locs hP hS) (fun q => absurd rfl q)
