/-! ===== the law's start: both are made, the loop begins ===== -/
theorem hfs_X5 {ad : Nat → Nat} : ∀ j, j < 13 → defaultValue (tyX5 j) = vp_V (([some none, some none, some none, some none, some none, some none, some none, some none, none, none, none, some none, some none] : List (Option (Option Nat))).mapIdx (fun j x => me_fld ad (fun _ => 0) j x)) j := by
  intro j hj
  have h : j = 0 ∨ j = 1 ∨ j = 2 ∨ j = 3 ∨ j = 4 ∨ j = 5 ∨ j = 6 ∨ j = 7 ∨ j = 8 ∨ j = 9 ∨ j = 10 ∨ j = 11 ∨ j = 12 := by omega
  rcases h with rfl | rfl | rfl | rfl | rfl | rfl | rfl | rfl | rfl | rfl | rfl | rfl | rfl <;> rfl
theorem vp_at {ad : Nat → Nat} {l : List (Option (Option Nat))} {j : Nat} {x : Option (Option Nat)} (h : l[j]? = some x) : vp_V (l.mapIdx (fun j x => me_fld ad (fun _ => 0) j x)) j = me_fld ad (fun _ => 0) j x := by
  unfold vp_V
  rw [List.getD_eq_getElem?_getD, List.getElem?_mapIdx, h]
  rfl
theorem hfs_X6 {ad : Nat → Nat} : ∀ j, j < 22 → defaultValue (tyX6 j) = vp_V (([none, some none, some none, some none, some none, some none, some none, some none, some none, some none, some none, none, none, some none, none, some none, some none, some none, some none, some none, some none, some none] : List (Option (Option Nat))).mapIdx (fun j x => me_fld ad (fun _ => 0) j x)) j := by
  intro j hj
  match j, hj with
  | 0, _ => exact (vp_at (x := none) rfl).symm
  | 1, _ => exact (vp_at (x := some none) rfl).symm
  | 2, _ => exact (vp_at (x := some none) rfl).symm
  | 3, _ => exact (vp_at (x := some none) rfl).symm
  | 4, _ => exact (vp_at (x := some none) rfl).symm
  | 5, _ => exact (vp_at (x := some none) rfl).symm
  | 6, _ => exact (vp_at (x := some none) rfl).symm
  | 7, _ => exact (vp_at (x := some none) rfl).symm
  | 8, _ => exact (vp_at (x := some none) rfl).symm
  | 9, _ => exact (vp_at (x := some none) rfl).symm
  | 10, _ => exact (vp_at (x := some none) rfl).symm
  | 11, _ => exact (vp_at (x := none) rfl).symm
  | 12, _ => exact (vp_at (x := none) rfl).symm
  | 13, _ => exact (vp_at (x := some none) rfl).symm
  | 14, _ => exact (vp_at (x := none) rfl).symm
  | 15, _ => exact (vp_at (x := some none) rfl).symm
  | 16, _ => exact (vp_at (x := some none) rfl).symm
  | 17, _ => exact (vp_at (x := some none) rfl).symm
  | 18, _ => exact (vp_at (x := some none) rfl).symm
  | 19, _ => exact (vp_at (x := some none) rfl).symm
  | 20, _ => exact (vp_at (x := some none) rfl).symm
  | 21, _ => exact (vp_at (x := some none) rfl).symm
  | k + 22, h => exact absurd h (by omega)
theorem hi_X5 : yX5_init.cls ≠ "java/lang/invoke/MethodHandle" ∧ yX5_init.cls ≠ "java/lang/invoke/VarHandle" ∧ (parseMethodDescriptor yX5_init.desc).map (fun d => d.parameters.length) = some 0 := by decide +kernel
theorem hi_X6 : yX6_init.cls ≠ "java/lang/invoke/MethodHandle" ∧ yX6_init.cls ≠ "java/lang/invoke/VarHandle" ∧ (parseMethodDescriptor yX6_init.desc).map (fun d => d.parameters.length) = some 0 := by decide +kernel
theorem SV_1 : SV no_T 5 40 k_1 s_1 d_1 (2 ^ 5 - 1, 0, d_1) no_A 0 no_A no_A no_T := by
  refine ⟨⟨Nat.zero_le _, fun k hk => absurd hk (Nat.not_lt_zero k)⟩, by omega, by omega, fun i _ => ?_, t_ok_1, t_ok_1, Nat.zero_le _, ⟨Nat.zero_le _, fun k hk => absurd hk (Nat.not_lt_zero k)⟩, Nat.zero_le _, fun h => absurd h (by omega), fun h => absurd h (by omega), Nat.zero_le _, fun k hk => absurd hk (Nat.not_lt_zero k)⟩
  unfold s_1
  split
  · omega
  · split <;> omega
theorem AC_1 {M : Mem} (h7 : TC M 7 5 0 40 (2 ^ 5 - 1) k_1 s_1 d_1) (h16 : TC M 16 5 0 40 (2 ^ 5 - 1) k_1 s_1 d_1) (hz : ∀ e, (e < 5 ∨ 23 ≤ e) → M e = fun _ => 0) : AC M 0 no_T 5 40 k_1 s_1 d_1 (2 ^ 5 - 1, 0, d_1) no_A 0 no_A no_A no_T := by
  refine ⟨⟨?_, fun k hk => absurd hk (Nat.not_lt_zero k)⟩, h7, h16, ⟨?_, fun k hk => absurd hk (Nat.not_lt_zero k)⟩, fun h => absurd h (by omega), fun h => absurd h (by omega), ?_, ?_, ?_⟩
  · rw [hz _ (by omega)]; rfl
  · rw [hz _ (by omega)]; rfl
  · rw [hz _ (by omega)]; rfl
  · rw [hz _ (by omega)]; rfl
  · rw [hz _ (by omega)]; rfl
theorem K_all {s : State} {b : Nat} (hw : ∀ w ∈ wsL_law, w.before #[Value.ref b] s = true) : ∃ (D : va_G) (cI : ClassId), va_K D vwCl [(cI, .int)] s := by
  obtain ⟨c0, i0, h0⟩ := u_known (C := RX0) (T := TX0) (N := 4) (n := 4) hw inlX0 (hw (.instantiable RX0 4) (by decide +kernel))
  obtain ⟨c1, i1, h1⟩ := u_known (C := RX1) (T := TX1) (N := 2) (n := 2) hw inlX1 (hw (.instantiable RX1 2) (by decide +kernel))
  obtain ⟨c2, i2, h2⟩ := u_known (C := RX2) (T := TX2) (N := 3) (n := 3) hw inlX2 (hw (.instantiable RX2 3) (by decide +kernel))
  obtain ⟨c3, i3, h3⟩ := u_known (C := RX3) (T := TX3) (N := 1) (n := 1) hw inlX3 (hw (.instantiable RX3 1) (by decide +kernel))
  obtain ⟨c4, i4, h4⟩ := u_known (C := RX4) (T := TX4) (N := 8) (n := 8) hw inlX4 (hw (.instantiable RX4 8) (by decide +kernel))
  obtain ⟨c5, i5, h5⟩ := u_known (C := RX5) (T := TX5) (N := 13) (n := 13) hw inlX5 (hw (.instantiable RX5 13) (by decide +kernel))
  obtain ⟨c6, i6, h6⟩ := u_known (C := RX6) (T := TX6) (N := 22) (n := 22) hw inlX6 (hw (.instantiable RX6 22) (by decide +kernel))
  obtain ⟨cI, kA, comp, hf, hk, hkd⟩ := Cond.arrayClass_spec (hw (.arrayClass .int) (by decide +kernel))
  refine ⟨(fun k => if k = 0 then c0 else if k = 1 then c1 else if k = 2 then c2 else if k = 3 then c3 else if k = 4 then c4 else if k = 5 then c5 else c6, fun k => if k = 0 then i0 else if k = 1 then i1 else if k = 2 then i2 else if k = 3 then i3 else if k = 4 then i4 else if k = 5 then i5 else i6), cI, ?_, ?_⟩
  · intro k q hq
    match k, hq with
    | 0, hq => cases hq; exact h0
    | 1, hq => cases hq; exact h1
    | 2, hq => cases hq; exact h2
    | 3, hq => cases hq; exact h3
    | 4, hq => cases hq; exact h4
    | 5, hq => cases hq; exact h5
    | 6, hq => cases hq; exact h6
    | k + 7, hq => simp [vwCl] at hq
  · intro k q hq
    match k, hq with
    | 0, hq =>
      cases hq
      exact ⟨fun n z => ⟨fun k h => (by cases h), kA, hk, comp, hkd⟩, hf⟩
    | k + 1, hq => simp at hq
theorem is_X5_both : is_X5 (L_X5 ++ L_X6 44) 0 := ⟨rfl, ⟨rfl, rfl⟩, ⟨rfl, rfl⟩, ⟨rfl, rfl, rfl, rfl, rfl⟩, ⟨rfl, rfl, rfl, rfl, rfl⟩, ⟨rfl, rfl, rfl, rfl, rfl⟩, ⟨rfl, rfl, rfl, rfl⟩, ⟨rfl, rfl, rfl, rfl⟩, ⟨rfl, rfl, rfl, rfl⟩, ⟨rfl, rfl, rfl⟩, rfl⟩
theorem is_X6_both : is_X6 (L_X5 ++ L_X6 44) 44 := by
  have := is_X6_made (L0 := L_X5) (r := [])
  rw [List.append_nil, L_X5_len] at this
  exact this
set_option maxRecDepth 100000 in
set_option maxHeartbeats 8000000 in
theorem whole_start {p : Program} {e : Env} {s : State} {m : MethodId} {below : List Frame} {meth : Method} {c : Code} (l : Launch) {b L : Nat} {xs : Nat → Int32} (hL : L ≤ 256) (C0 : lw_At p s m meth c b L xs) : W p l e room_1 s m #[Value.ref b] below meth c s.heap [] 0 0 (lw_Z below #[Value.ref b] s) (entryFrame m ([Value.ref b] : List Value).toArray 4) := by
  obtain ⟨hx, hb, hr, hml, hown, hts, hX, hbl, hlocks, hgv⟩ := id C0
  have hw : ∀ w ∈ wsL_law, w.before #[Value.ref b] s = true := fun w h => hts w (wsL_law_in w h)
  obtain ⟨D, cI, hK⟩ := K_all hw
  obtain ⟨aK, aV, hE⟩ := gv_E hts hgv
  obtain ⟨M1, hm5, h7, h16, hF5⟩ := c_X5_init (l := l) (D := D) (cI := cI) (b := s.heap.size) (M := fun _ _ => 0) (aK := aK) (aV := aV) (fun _ _ => rfl)
  obtain ⟨M2, e6, hR, hF6⟩ := X6_made_s (M := M1) (u := 44) (fun c h1 h2 => hF5 c (by omega))
  have hC := AC_1 h7 h16 hF5
  have hC := hC.out (M' := M2) (fun c h1 h2 => hF6 c (by omega))
  have hS : va_S (bA s.heap.size) s.heap s.heap [] := va_S.rf
  have hP : va_P D vwCl (me_ws cI (bd s.heap.size) [] (fun _ _ => 0)) s.heap := fun k q h => by simp [me_ws] at h
  have hl := lv_entry ([.ref b]) (n := 4) (Nat.le_of_ble_eq_true rfl)
  rw [lg_entry_eq]
  generalize (lg_sl ([.ref b]) ++ List.replicate (4 - (lg_sl ([.ref b])).length) Slot.unset).toArray = ls at hl ⊢
  have hl : lv_has ls 4 [(0, .ref b)] := hl
  have hbs : s.heap.size ≤ s.heap.size := Nat.le_refl _
  refine me_new (ci := 5) (C := RX5) (T := TX5) (N := 13) (k := 0) (fl := [some none, some none, some none, some none, some none, some none, some none, some none, none, none, none, some none, some none]) (L1 := [.inr (5, [some none, some none, some none, some none, some none, some none, some none, some none, none, none, none, some none, some none])]) hx hb hw inlX5 tyX5 tyX5_ok hown (hw (.classLink RL 7 RX5) (by decide +kernel)) (hw (.instantiable RX5 13) (by decide +kernel)) (hw (.initialized RX5) (by decide +kernel)) hK hP hS rfl rfl rfl rfl rfl hfs_X5 (Nat.le_of_ble_eq_true rfl) (Nat.le_of_ble_eq_true rfl) dL_law_0 (fun H hP hS => ?_)
  refine lv_dup hx hb dL_law_3 rfl ?_
  refine me_sz hP hS hbs (by show _ = s.heap.size + 1; omega) (fun hsz => ?_)
  refine mkE_callI (As := []) (rest := [.ref (bd s.heap.size 0)]) ⟨hx, hb, hml, hown, hw⟩ hm5 (cwI 0 hw gL_law_X5_init rfl rfl rfl (hw (.initialized RX5) (by decide +kernel)) (hw (.methodLink RL 9 yX5_init) (by decide +kernel)) (hw (.instanceMethod yX5_init) (by decide +kernel)) rfl hi_X5 ⟨Nat.le_of_ble_eq_true rfl, Nat.le_of_ble_eq_true rfl⟩) hE hK hP hS hsz rfl hl.1 rfl (Nat.le_of_ble_eq_true rfl) dL_law_4 ⟨Nat.le_of_ble_eq_true rfl, Nat.le_of_ble_eq_true rfl⟩ (fun H locs hP hS => ?_)
  refine lv_astore_n (lv' := [(1, .ref (bd s.heap.size 0)), (0, .ref b)]) hx hb dL_law_7 rfl hl (by decide) rfl (fun ls hl => ?_)
  refine me_sz hP hS hbs (by rw [L_X5_len]) (fun hsz => ?_)
  refine me_new (ci := 6) (C := RX6) (T := TX6) (N := 22) (k := 44) (fl := [none, some none, some none, some none, some none, some none, some none, some none, some none, some none, some none, none, none, some none, none, some none, some none, some none, some none, some none, some none, some none]) hx hb hw inlX6 tyX6 tyX6_ok hown (hw (.classLink RL 10 RX6) (by decide +kernel)) (hw (.instantiable RX6 22) (by decide +kernel)) (hw (.initialized RX6) (by decide +kernel)) hK hP hS hsz L_X5_len (hF5 44 (by omega)) rfl rfl hfs_X6 (Nat.le_of_ble_eq_true rfl) (Nat.le_of_ble_eq_true rfl) dL_law_8 (fun H hP hS => ?_)
  refine lv_dup hx hb dL_law_11 rfl ?_
  refine me_sz hP hS hbs (by rw [List.length_append, L_X5_len]; rfl) (fun hsz => ?_)
  have hm6 := c_X6_init (l := l) (D := D) (cI := cI) (b := s.heap.size) (L0 := L_X5) (M := M1) (M' := M2) (fun c h1 h2 => hF5 c (by rw [L_X5_len] at h1; omega)) (by rw [L_X5_len]; exact e6)
  rw [L_X5_len] at hm6
  refine mk_callI (As := []) (rest := [.ref (bd s.heap.size 44)]) ⟨hx, hb, hml, hown, hw⟩ hm6 (cwI 0 hw gL_law_X6_init rfl rfl rfl (hw (.initialized RX6) (by decide +kernel)) (hw (.methodLink RL 12 yX6_init) (by decide +kernel)) (hw (.instanceMethod yX6_init) (by decide +kernel)) rfl hi_X6 ⟨Nat.le_of_ble_eq_true rfl, Nat.le_of_ble_eq_true rfl⟩) hK hP hS hsz rfl hl.1 rfl (Nat.le_of_ble_eq_true rfl) dL_law_12 ⟨Nat.le_of_ble_eq_true rfl, Nat.le_of_ble_eq_true rfl⟩ (fun H locs hP hS => ?_)
  refine lv_astore_n (lv' := [(2, .ref (bd s.heap.size 44)), (1, .ref (bd s.heap.size 0)), (0, .ref b)]) hx hb dL_law_15 rfl hl (by decide) rfl (fun ls hl => ?_)
  refine lv_iconst (v := nI 0) hx hb dL_law_16 (by decide) ?_
  refine lv_istore_n (lv' := [(3, .int (nI 0)), (2, .ref (bd s.heap.size 44)), (1, .ref (bd s.heap.size 0)), (0, .ref b)]) hx hb dL_law_17 rfl hl (by decide) rfl (fun ls hl => ?_)
  refine W.widen (k := 600000) (n := 7302249) (Nat.le_of_ble_eq_true rfl) (Nat.le_of_ble_eq_true rfl) ?_
  have hCX : L_X p s m meth c b L xs D cI (bd s.heap.size) (L_X5 ++ L_X6 44) 0 44 := ⟨C0, hL, hK, bd_inj, is_X5_both, is_X6_both, Nat.le_refl _, fun k _ => Nat.le_add_right _ k, hw⟩
  exact L_loop hCX (L + 1) 0 (Nat.zero_le _) (by omega) M2 ⟨no_T, 5, 40, k_1, s_1, d_1, (2 ^ 5 - 1, 0, d_1), no_A, 0, no_A, no_A, no_T, hC, hR, SV_1⟩ H locs hP (bA_me hS) ls (lv_sub hl [3, 2, 1, 0] rfl)
