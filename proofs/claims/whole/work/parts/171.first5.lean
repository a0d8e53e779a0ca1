/-! ===== the class's first town, made ===== -/
def C_X0 (n : Nat) : List CDs := [.inr (0, [some (some (n + 1)), some (some (n + 2)), some (some (n + 3)), none]), .inl 40, .inl 40, .inl 40]
def C_X1 (n : Nat) : List CDs := [.inr (1, [some (some (n + 1)), none]), .inl 200]
def C_X2 (n : Nat) : List CDs := [.inr (2, [some (some (n + 1)), some (some (n + 2)), none]), .inl 7, .inl 128]
def C_X3 (n : Nat) : List CDs := [.inr (3, [some (some (n + 1))]), .inl 3]
def C_X4 (n : Nat) : List CDs := [.inr (4, [none, none, none, none, some (some (n + 1)), some (some (n + 2)), some (some (n + 3)), some (some (n + 4))]), .inl 8, .inl 8, .inl 64, .inl 8]
def L_fT (n : Nat) : List CDs := C_X1 n ++ (C_X4 (n + 2) ++ C_X3 (n + 7))
theorem hi_X0 : yX0_init.cls ≠ "java/lang/invoke/MethodHandle" ∧ yX0_init.cls ≠ "java/lang/invoke/VarHandle" ∧ (parseMethodDescriptor yX0_init.desc).map (fun d => d.parameters.length) = some 0 := by decide +kernel
theorem hi_X1 : yX1_init.cls ≠ "java/lang/invoke/MethodHandle" ∧ yX1_init.cls ≠ "java/lang/invoke/VarHandle" ∧ (parseMethodDescriptor yX1_init.desc).map (fun d => d.parameters.length) = some 0 := by decide +kernel
theorem hi_X2 : yX2_init.cls ≠ "java/lang/invoke/MethodHandle" ∧ yX2_init.cls ≠ "java/lang/invoke/VarHandle" ∧ (parseMethodDescriptor yX2_init.desc).map (fun d => d.parameters.length) = some 0 := by decide +kernel
theorem hi_X3 : yX3_init.cls ≠ "java/lang/invoke/MethodHandle" ∧ yX3_init.cls ≠ "java/lang/invoke/VarHandle" ∧ (parseMethodDescriptor yX3_init.desc).map (fun d => d.parameters.length) = some 0 := by decide +kernel
theorem hi_X4 : yX4_init.cls ≠ "java/lang/invoke/MethodHandle" ∧ yX4_init.cls ≠ "java/lang/invoke/VarHandle" ∧ (parseMethodDescriptor yX4_init.desc).map (fun d => d.parameters.length) = some 0 := by decide +kernel
theorem hfs_X0 {ad : Nat → Nat} : ∀ j, j < 4 → defaultValue (tyX0 j) = vp_V (([some none, some none, some none, none] : List (Option (Option Nat))).mapIdx (fun j x => me_fld ad (fun _ => 0) j x)) j := by
  intro j hj
  have h : j = 0 ∨ j = 1 ∨ j = 2 ∨ j = 3 := by omega
  rcases h with rfl | rfl | rfl | rfl <;> rfl
theorem hfs_X1 {ad : Nat → Nat} : ∀ j, j < 2 → defaultValue (tyX1 j) = vp_V (([some none, none] : List (Option (Option Nat))).mapIdx (fun j x => me_fld ad (fun _ => 0) j x)) j := by
  intro j hj
  have h : j = 0 ∨ j = 1 := by omega
  rcases h with rfl | rfl <;> rfl
theorem hfs_X2 {ad : Nat → Nat} : ∀ j, j < 3 → defaultValue (tyX2 j) = vp_V (([some none, some none, none] : List (Option (Option Nat))).mapIdx (fun j x => me_fld ad (fun _ => 0) j x)) j := by
  intro j hj
  have h : j = 0 ∨ j = 1 ∨ j = 2 := by omega
  rcases h with rfl | rfl | rfl <;> rfl
theorem hfs_X3 {ad : Nat → Nat} : ∀ j, j < 1 → defaultValue (tyX3 j) = vp_V (([some none] : List (Option (Option Nat))).mapIdx (fun j x => me_fld ad (fun _ => 0) j x)) j := by
  intro j hj
  have h : j = 0 := by omega
  subst h
  rfl
theorem hfs_X4 {ad : Nat → Nat} : ∀ j, j < 8 → defaultValue (tyX4 j) = vp_V (([none, none, none, none, some none, some none, some none, some none] : List (Option (Option Nat))).mapIdx (fun j x => me_fld ad (fun _ => 0) j x)) j := by
  intro j hj
  have h : j = 0 ∨ j = 1 ∨ j = 2 ∨ j = 3 ∨ j = 4 ∨ j = 5 ∨ j = 6 ∨ j = 7 := by omega
  rcases h with rfl | rfl | rfl | rfl | rfl | rfl | rfl | rfl <;> rfl
section MADE5
variable {l : Launch} {D : va_G} {cI : ClassId} {b n : Nat} {L0 r : List CDs} {M : Mem}
theorem c_X0_i (hn : L0.length = n) (hz : ∀ c, n ≤ c → c < n + 4 → M c = fun _ => 0) : mk_Met l yX0_init wsX0_init rmX0_init D cI b [.ref (bd b n)] none (L0 ++ [.inr (0, [some none, some none, some none, none])]) (L0 ++ C_X0 n) M M 3 120 := by subst hn; exact c_X0_init hz
theorem c_X1_i (hn : L0.length = n) (hz : ∀ c, n ≤ c → c < n + 2 → M c = fun _ => 0) : mk_Met l yX1_init wsX1_init rmX1_init D cI b [.ref (bd b n)] none (L0 ++ [.inr (1, [some none, none])]) (L0 ++ C_X1 n) M M 1 200 := by subst hn; exact c_X1_init hz
theorem c_X2_i (hn : L0.length = n) (hz : ∀ c, n ≤ c → c < n + 3 → M c = fun _ => 0) : mk_Met l yX2_init wsX2_init rmX2_init D cI b [.ref (bd b n)] none (L0 ++ [.inr (2, [some none, some none, none])]) (L0 ++ C_X2 n) M M 2 135 := by subst hn; exact c_X2_init hz
theorem c_X3_i (hn : L0.length = n) (hz : ∀ c, n ≤ c → c < n + 2 → M c = fun _ => 0) : mk_Met l yX3_init wsX3_init rmX3_init D cI b [.ref (bd b n)] none (L0 ++ [.inr (3, [some none])]) (L0 ++ C_X3 n) M M 1 3 := by subst hn; exact c_X3_init hz
theorem c_X4_i (hn : L0.length = n) (hz : ∀ c, n ≤ c → c < n + 5 → M c = fun _ => 0) : mk_Met l yX4_init wsX4_init rmX4_init D cI b [.ref (bd b n)] none (L0 ++ [.inr (4, [none, none, none, none, some none, some none, some none, some none])]) (L0 ++ C_X4 n) M M 4 88 := by subst hn; exact c_X4_init hz
theorem is_X1_new (hn : L0.length = n) : is_X1 (L0 ++ (C_X1 n ++ r)) n := by
  subst hn
  exact ⟨at_ap, by rw [at_apk]; rfl⟩
theorem is_X3_new (hn : L0.length = n) : is_X3 (L0 ++ (C_X3 n ++ r)) n := by
  subst hn
  exact ⟨at_ap, by rw [at_apk]; rfl⟩
theorem is_X4_new (hn : L0.length = n) : is_X4 (L0 ++ (C_X4 n ++ r)) n := by
  subst hn
  exact ⟨at_ap, by rw [at_apk]; rfl, by rw [at_apk]; rfl, by rw [at_apk]; rfl, by rw [at_apk]; rfl⟩
/-- the letters' memory, k of them added -/
def ad_M (c : Nat) (M : Mem) : Nat → Mem
  | 0 => M
  | k + 1 => me_upd (me_upd (ad_M c M k) (c + 1) k (nI (f_T.2 k))) c 1 (nI (k + 1))
theorem ad_len {c k : Nat} (h0 : M c = fun _ => 0) : ad_M c M k c 1 = nI k := by
  cases k with
  | zero => show M c 1 = _; rw [h0]; rfl
  | succ k => exact up_s
theorem ad_step {c k : Nat} (hk : k < 60) (h0 : M c = fun _ => 0) : X1_add c (nI (f_L.getD k 0)) (ad_M c M k) = some ((), ad_M c M (k + 1)) := by
  unfold X1_add
  rw [ad_len h0, if_neg (show ¬ (200 : Int32) ≤ nI k from nI_ge (b := 200) (by omega) (by omega)), zz_ast (by omega) (by omega), zz_put, up_c (by omega), ad_len h0, nI_1]
  rfl
theorem ad_fr {c : Nat} : ∀ k, Fr c (c + 2) M (ad_M c M k) := by
  intro k
  induction k with
  | zero => exact fun _ _ => rfl
  | succ k ih => exact fun e he => by show me_upd _ _ _ _ e = _; rw [up_c (by omega), up_c (by omega)]; exact ih e he
theorem ad_chr {c : Nat} : ∀ k q, q < k → ad_M c M k (c + 1) q = nI (f_T.2 q) := by
  intro k
  induction k with
  | zero => intro q hq; omega
  | succ k ih =>
    intro q hq
    show me_upd _ _ _ _ (c + 1) q = _
    rw [up_c (by omega)]
    by_cases hz : q = k
    · rw [hz, up_s]
    · rw [up_j hz]; exact ih q (by omega)
theorem ad_LT {c : Nat} (h0 : M c = fun _ => 0) : LT (ad_M c M 60) c f_T := ⟨ad_len h0, fun q hq => ad_chr 60 q hq⟩
end MADE5
def mkE_Met (l : Launch) (y : MethodName) (ws : List Cond) (rm : Room) (E : State → Prop) (D : va_G) (cI : ClassId) (b : Nat) (av : List Value) (ans : Option Value) (L L' : List CDs) (M M' : Mem) (mc ms : Nat) : Prop :=
  Met l y ws rm (va_Pc av (fun U => mk_Pre b D cI L M U ∧ E U)) (mk_Post b D cI ans L' M') mc ms (bA b)
theorem mkE_blind {D : va_G} {cI : ClassId} {b : Nat} {L : List CDs} {M : Mem} {av : List Value} {A : Nat → Prop} {aK aV : Nat → Nat} : FrameBlind (va_Pc av (fun U => mk_Pre b D cI L M U ∧ fs_E A aK aV U)) :=
  fun a U g mk q => ⟨q.1, ⟨q.2.1.1, q.2.1.2.1, va_K.moved (u := U) (U := U.calling g mk a) (Vm.Alike.refl U.vm) q.2.1.2.2⟩, fs_E.call (u := U) (U := U.calling g mk a) rfl rfl q.2.2⟩
theorem in_fT_X1 : ∀ w ∈ wsX10, w ∈ wsX5_firstTown := by decide +kernel
theorem in_fT_X3 : ∀ w ∈ wsX30, w ∈ wsX5_firstTown := by decide +kernel
theorem in_fT_X4 : ∀ w ∈ wsX40, w ∈ wsX5_firstTown := by decide +kernel
theorem im_fT_X1 : Cond.instanceMethod yX1_init ∈ wsX5_firstTown := by decide +kernel
theorem im_fT_X3 : Cond.instanceMethod yX3_init ∈ wsX5_firstTown := by decide +kernel
theorem im_fT_X4 : Cond.instanceMethod yX4_init ∈ wsX5_firstTown := by decide +kernel
abbrev rmX5_firstTown : Room := { frames := 5, cells := 9, slots := 302, locals := 130 }
theorem hd_X5_firstTown : yX5_firstTown.cls = RX5 ∧ yX5_firstTown.cls ≠ "java/lang/invoke/MethodHandle" ∧ yX5_firstTown.cls ≠ "java/lang/invoke/VarHandle" ∧ (parseMethodDescriptor yX5_firstTown.desc).map (fun d => d.parameters.length) = some 0 := by decide +kernel
-- the loop over the letters
set_option maxRecDepth 100000 in
set_option maxHeartbeats 4000000 in
theorem fT_loop {p : Program} {l : Launch} {e : Env} {s : State} {m : MethodId} {args : Array Value} {below : List Frame} {meth : Method} {c : Code} {Q : State → Prop} {D : va_G} {cI : ClassId} {b N : Nat} {L : List CDs} {M : Mem} {aK aV : Nat → Nat}
    (S : CallFix p m c cX5_firstTown 2 s args wsX5_firstTown RX5) (hK : va_K D vwCl [(cI, .int)] s) (hE : fs_E (bA b) aK aV s) (hbs : b ≤ s.heap.size) (hT : is_X1 L N) (h0 : M N = fun _ => 0)
    (kk : ∀ (H : Heap) (locs : List Loc) (ls : Array Slot), va_P D vwCl (me_ws cI (bd b) L (ad_M N M 60)) H → va_S (bA b) s.heap H locs → lv_has ls 2 [(1, .int (nI 60)), (0, .ref (bd b N))] → W p l e rmX5_firstTown s m args below meth c H locs 2 202 Q (F0 m 35 ls [])) :
    ∀ (d k : Nat), k + d = 60 → ∀ (H : Heap) (locs : List Loc) (ls : Array Slot), va_P D vwCl (me_ws cI (bd b) L (ad_M N M k)) H → va_S (bA b) s.heap H locs → lv_has ls 2 [(1, .int (nI k)), (0, .ref (bd b N))] → W p l e rmX5_firstTown s m args below meth c H locs 2 202 Q (F0 m 10 ls []) := by
  obtain ⟨hx, hb, hml, hown, hts⟩ := id S
  have head : ∀ (k : Nat) (H : Heap) (locs : List Loc) (ls : Array Slot), va_S (bA b) s.heap H locs → lv_has ls 2 [(1, .int (nI k)), (0, .ref (bd b N))] → (nI 60 ≤ nI k → W p l e rmX5_firstTown s m args below meth c H locs 2 202 Q (F0 m 35 ls [])) → (¬ nI 60 ≤ nI k → W p l e rmX5_firstTown s m args below meth c H locs 2 202 Q (F0 m 19 ls [])) → W p l e rmX5_firstTown s m args below meth c H locs 2 202 Q (F0 m 10 ls []) := by
    intro k H locs ls hS hl k1 k2
    refine lv_iload_n hx hb dX5_firstTown_10 rfl (lv_at hl 0 rfl) ?_
    refine va_ldcS hx hb hown hE.2.1 dX5_firstTown_11 ?_
    refine jk_callV (As := []) (rest := [.int (nI k)]) ⟨hx, hb, hml, hown, hts⟩ (c_J0_ln (A := bA b) (aK := aK) (aV := aV)) (cwV 0 hts gX5_firstTown_J0_length_8abf5 rfl rfl rfl hd_J0_ln ⟨Nat.le_of_ble_eq_true rfl, Nat.le_of_ble_eq_true rfl⟩) fs_blind (vk_recv hE.1 (by decide) hS) (fun U hU hW => hE.go hS hU hW) rfl hl.1 rfl (Nat.le_of_ble_eq_true rfl) dX5_firstTown_13 ⟨Nat.le_of_ble_eq_true rfl, Nat.le_of_ble_eq_true rfl⟩ ?_
    refine W.eq (g2 := F0 m 16 ls [.int (nI 60), .int (nI k)]) rfl ?_
    exact lv_icmp_ge (tgt := 35) hx hb dX5_firstTown_16 (by decide) k1 k2
  intro d
  induction d with
  | zero =>
    intro k hk H locs ls hP hS hl
    have h60 : k = 60 := by omega
    subst h60
    exact head 60 H locs ls hS hl (fun _ => kk H locs ls hP hS hl) (fun q => absurd (nI_le (Nat.le_refl 60) (by decide)) q)
  | succ d ih =>
    intro k hk H locs ls hP hS hl
    refine head k H locs ls hS hl (fun q => absurd q (nI_ge (by omega) (by decide))) (fun _ => ?_)
    refine lv_aload_n hx hb dX5_firstTown_19 rfl (lv_at hl 1 rfl) ?_
    refine va_ldcS hx hb hown hE.2.1 dX5_firstTown_20 ?_
    refine lv_iload_n hx hb dX5_firstTown_22 rfl (lv_at hl 0 rfl) ?_
    refine jk_callV (As := [.int (nI k)]) (rest := [.ref (bd b N)]) ⟨hx, hb, hml, hown, hts⟩ (c_J0_ca (A := bA b) (aK := aK) (aV := aV) (k := k) (by omega)) (cwV 1 hts gX5_firstTown_J0_charAt_5068e rfl rfl rfl hd_J0_ca ⟨Nat.le_of_ble_eq_true rfl, Nat.le_of_ble_eq_true rfl⟩) fs_blind (vk_recv hE.1 (by decide) hS) (fun U hU hW => hE.go hS hU hW) rfl hl.1 rfl (Nat.le_of_ble_eq_true rfl) dX5_firstTown_23 ⟨Nat.le_of_ble_eq_true rfl, Nat.le_of_ble_eq_true rfl⟩ ?_
    refine W.eq (g2 := F0 m 26 ls [.int (nI (f_L.getD k 0)), .ref (bd b N)]) rfl ?_
    have hS := bA_me (L := L) hS
    refine me_callVb (As := [.int (nI (f_L.getD k 0))]) (rest := []) ⟨hx, hb, hml, hown, hts⟩ (c_X1_add hT (ad_step (k := k) (by omega) h0)) (cwV 1 hts gX5_firstTown_X1_add rfl rfl rfl hd_X1_add ⟨Nat.le_of_ble_eq_true rfl, Nat.le_of_ble_eq_true rfl⟩) hK bd_inj hP hS hbs hT.1 rfl rfl hl.1 rfl (Nat.le_of_ble_eq_true rfl) dX5_firstTown_26 ⟨Nat.le_of_ble_eq_true rfl, Nat.le_of_ble_eq_true rfl⟩ (fun H locs hP hS => ?_)
    refine W.eq (g2 := F0 m 29 ls []) rfl ?_
    have hS := me_bA hS
    refine lv_iinc (k := 0) (v := nI (k + 1)) (lv' := [(1, .int (nI (k + 1))), (0, .ref (bd b N))]) hx hb dX5_firstTown_29 hl rfl (nI_1 k) (by decide) rfl (fun ls hl => ?_)
    refine lv_goto (tgt := 10) hx hb dX5_firstTown_32 (by decide) ?_
    exact ih (k + 1) (by omega) H locs ls hP hS hl
set_option maxRecDepth 100000 in
set_option maxHeartbeats 4000000 in
theorem c_X5_firstTown {l : Launch} {D : va_G} {cI : ClassId} {b N : Nat} {L0 : List CDs} {M : Mem} {aK aV : Nat → Nat} (hN : L0.length = N) (hz : ∀ c, N ≤ c → c < N + 9 → M c = fun _ => 0) :
    ∃ M' : Mem, mkE_Met l yX5_firstTown wsX5_firstTown rmX5_firstTown (fs_E (bA b) aK aV) D cI b [] (some (.ref (bd b (N + 2)))) L0 (L0 ++ L_fT N) M M' 9 302 ∧ TC M' (N + 2) 5 0 40 (2 ^ 5 - 1) k_1 s_1 d_1 ∧ ∀ e, (e < N ∨ N + 9 ≤ e) → M' e = M e := by
  have h0 : M N = fun _ => 0 := hz N (by omega) (by omega)
  have hz60 : ∀ c, N + 2 ≤ c → c < N + 9 → ad_M N M 60 c = fun _ => 0 := fun c h1 h2 => by rw [ad_fr 60 c (by omega)]; exact hz c (by omega) h2
  obtain ⟨M', e1, hTC, hF⟩ := first_s (t := N + 7) (q := N + 2) (ad_LT h0) (by omega) (by omega) (by omega)
  refine ⟨M', ?_, hTC, fun e he => by rw [hF e (by omega), ad_fr 60 e (by omega)]⟩
  have hl2 : (L0 ++ C_X1 N).length = N + 2 := by rw [List.length_append, hN]; rfl
  have hl4 : ((L0 ++ C_X1 N) ++ C_X4 (N + 2)).length = N + 7 := by rw [List.length_append, hl2]; rfl
  have hl3 : (((L0 ++ C_X1 N) ++ C_X4 (N + 2)) ++ C_X3 (N + 7)).length = N + 9 := by rw [List.length_append, hl4]; rfl
  have hT1 : is_X1 (L0 ++ C_X1 N) N := by
    have := is_X1_new (r := []) hN
    rw [List.append_nil] at this
    exact this
  have hT1' : is_X1 (((L0 ++ C_X1 N) ++ C_X4 (N + 2)) ++ C_X3 (N + 7)) N := by
    rw [List.append_assoc, List.append_assoc]
    exact is_X1_new hN
  have hT4' : is_X4 (((L0 ++ C_X1 N) ++ C_X4 (N + 2)) ++ C_X3 (N + 7)) (N + 2) := by
    rw [List.append_assoc]
    exact is_X4_new hl2
  have hT3' : is_X3 (((L0 ++ C_X1 N) ++ C_X4 (N + 2)) ++ C_X3 (N + 7)) (N + 7) := by
    have := is_X3_new (r := []) hl4
    rw [List.append_nil] at this
    exact this
  refine Met.ofW (cc := cX5_firstTown) (maxL := 2) (ret := some (.object "LadderOfBows$Town")) (by decide) rfl ?_
  intro p e s m args below meth c s₁ B hml hv
  obtain ⟨rfl, ⟨hsz0, hP, hK⟩, hE⟩ := hv
  have hx := B.exec
  have hb := B.bytes
  have hr := B.returns
  have hts := atoms_spec (ws := wsX5_firstTown) B.pre
  have hown : s.vm.findClass RX5 = some m.cls := findClass_of_methodNamed B.named
  have hlocks := B.notSynchronized
  rw [hN] at hsz0
  have hbs : b ≤ s.heap.size := by omega
  have hS : va_S (bA b) s.heap s.heap [] := va_S.rf
  have hl := lv_entry ([]) (n := 2) (Nat.le_of_ble_eq_true rfl)
  rw [lg_entry_eq]
  generalize (lg_sl ([]) ++ List.replicate (2 - (lg_sl ([])).length) Slot.unset).toArray = ls at hl ⊢
  have hl : lv_has ls 2 [] := hl
  refine me_sz hP hS hbs (by rw [hN]; omega) (fun hsz => ?_)
  refine me_new (ci := 1) (C := RX1) (T := TX1) (N := 2) (k := N) (fl := [some none, none]) hx hb hts in_fT_X1 tyX1 tyX1_ok hown (hts _ (List.mem_of_getElem? (i := 1) rfl)) (hts _ (List.mem_of_getElem? (i := 2) rfl)) (hts _ (List.mem_of_getElem? (i := 3) rfl)) hK hP hS hsz hN h0 rfl rfl hfs_X1 (Nat.le_of_ble_eq_true rfl) (Nat.le_of_ble_eq_true rfl) dX5_firstTown_0 (fun H hP hS => ?_)
  refine lv_dup hx hb dX5_firstTown_3 rfl ?_
  refine me_sz hP hS hbs (by rw [List.length_append, hN]; show _ = b + (N + 1); omega) (fun hsz => ?_)
  refine mk_callIN (As := []) (rest := [.ref (bd b N)]) ⟨hx, hb, hml, hown, hts⟩ (c_X1_i hN (fun c h1 h2 => hz c h1 (by omega))) ⟨va_cnB 0 hts gX5_firstTown_X1_init_n11 rfl rfl rfl (hE.2.2.2.2 (11, yX1_init) (List.mem_of_getElem? (i := 0) rfl)) (hts (.initialized RX1) (List.mem_of_getElem? (i := 3) rfl)) hi_X1 ⟨Nat.le_of_ble_eq_true rfl, Nat.le_of_ble_eq_true rfl⟩, rfl, hts _ im_fT_X1⟩ hK hP hS hsz rfl hl.1 rfl (Nat.le_of_ble_eq_true rfl) dX5_firstTown_4 ⟨Nat.le_of_ble_eq_true rfl, Nat.le_of_ble_eq_true rfl⟩ (fun H locs hP hS => ?_)
  refine lv_astore_n (lv' := [(0, .ref (bd b N))]) hx hb dX5_firstTown_7 rfl hl (by decide) rfl (fun ls hl => ?_)
  refine lv_iconst (v := nI 0) hx hb dX5_firstTown_8 (by decide) ?_
  refine lv_istore_n (lv' := [(1, .int (nI 0)), (0, .ref (bd b N))]) hx hb dX5_firstTown_9 rfl hl (by decide) rfl (fun ls hl => ?_)
  refine W.widen (k := 2) (n := 202) (Nat.le_of_ble_eq_true rfl) (Nat.le_of_ble_eq_true rfl) ?_
  refine fT_loop (L := L0 ++ C_X1 N) ⟨hx, hb, hml, hown, hts⟩ hK hE hbs hT1 h0 ?_ 60 0 rfl H locs ls hP hS hl
  clear hP hS hl hsz
  intro H locs ls hP hS hl
  refine me_sz hP hS hbs (by rw [hl2]; omega) (fun hsz => ?_)
  refine me_new (ci := 4) (C := RX4) (T := TX4) (N := 8) (k := N + 2) (fl := [none, none, none, none, some none, some none, some none, some none]) hx hb hts in_fT_X4 tyX4 tyX4_ok hown (hts _ (List.mem_of_getElem? (i := 4) rfl)) (hts _ (List.mem_of_getElem? (i := 5) rfl)) (hts _ (List.mem_of_getElem? (i := 6) rfl)) hK hP hS hsz hl2 (hz60 _ (by omega) (by omega)) rfl rfl hfs_X4 (Nat.le_of_ble_eq_true rfl) (Nat.le_of_ble_eq_true rfl) dX5_firstTown_35 (fun H hP hS => ?_)
  refine lv_dup hx hb dX5_firstTown_38 rfl ?_
  refine me_sz hP hS hbs (by rw [List.length_append, hl2]; show _ = b + (N + 2 + 1); omega) (fun hsz => ?_)
  refine mk_callIN (As := []) (rest := [.ref (bd b (N + 2))]) ⟨hx, hb, hml, hown, hts⟩ (c_X4_i hl2 (fun c h1 h2 => hz60 c h1 (by omega))) ⟨va_cnB 0 hts gX5_firstTown_X4_init_n36 rfl rfl rfl (hE.2.2.2.2 (36, yX4_init) (List.mem_of_getElem? (i := 2) rfl)) (hts (.initialized RX4) (List.mem_of_getElem? (i := 6) rfl)) hi_X4 ⟨Nat.le_of_ble_eq_true rfl, Nat.le_of_ble_eq_true rfl⟩, rfl, hts _ im_fT_X4⟩ hK hP hS hsz rfl hl.1 rfl (Nat.le_of_ble_eq_true rfl) dX5_firstTown_39 ⟨Nat.le_of_ble_eq_true rfl, Nat.le_of_ble_eq_true rfl⟩ (fun H locs hP hS => ?_)
  refine lv_astore_n (lv' := [(1, .ref (bd b (N + 2))), (0, .ref (bd b N))]) hx hb dX5_firstTown_42 rfl hl (by decide) rfl (fun ls hl => ?_)
  refine me_sz hP hS hbs (by rw [hl4]; omega) (fun hsz => ?_)
  refine me_new (ci := 3) (C := RX3) (T := TX3) (N := 1) (k := N + 7) (fl := [some none]) hx hb hts in_fT_X3 tyX3 tyX3_ok hown (hts _ (List.mem_of_getElem? (i := 7) rfl)) (hts _ (List.mem_of_getElem? (i := 8) rfl)) (hts _ (List.mem_of_getElem? (i := 9) rfl)) hK hP hS hsz hl4 (hz60 _ (by omega) (by omega)) rfl rfl hfs_X3 (Nat.le_of_ble_eq_true rfl) (Nat.le_of_ble_eq_true rfl) dX5_firstTown_43 (fun H hP hS => ?_)
  refine lv_dup hx hb dX5_firstTown_46 rfl ?_
  refine me_sz hP hS hbs (by rw [List.length_append, hl4]; show _ = b + (N + 7 + 1); omega) (fun hsz => ?_)
  refine mk_callIN (As := []) (rest := [.ref (bd b (N + 7))]) ⟨hx, hb, hml, hown, hts⟩ (c_X3_i hl4 (fun c h1 h2 => hz60 c (by omega) (by omega))) ⟨va_cnB 0 hts gX5_firstTown_X3_init_n18 rfl rfl rfl (hE.2.2.2.2 (18, yX3_init) (List.mem_of_getElem? (i := 1) rfl)) (hts (.initialized RX3) (List.mem_of_getElem? (i := 9) rfl)) hi_X3 ⟨Nat.le_of_ble_eq_true rfl, Nat.le_of_ble_eq_true rfl⟩, rfl, hts _ im_fT_X3⟩ hK hP hS hsz rfl hl.1 rfl (Nat.le_of_ble_eq_true rfl) dX5_firstTown_47 ⟨Nat.le_of_ble_eq_true rfl, Nat.le_of_ble_eq_true rfl⟩ (fun H locs hP hS => ?_)
  refine lv_aload_n hx hb dX5_firstTown_50 rfl (lv_at hl 1 rfl) ?_
  refine lv_aload_n hx hb dX5_firstTown_51 rfl (lv_at hl 0 rfl) ?_
  have hS := bA_me (L := ((L0 ++ C_X1 N) ++ C_X4 (N + 2)) ++ C_X3 (N + 7)) hS
  refine me_callVb (As := [.ref (bd b N), .ref (bd b (N + 2))]) (rest := []) ⟨hx, hb, hml, hown, hts⟩ (c_X3_readTown hT3' hT1' hT4' e1) (cwV 2 hts gX5_firstTown_X3_readTown rfl rfl rfl hd_X3_readTown ⟨Nat.le_of_ble_eq_true rfl, Nat.le_of_ble_eq_true rfl⟩) hK bd_inj hP hS hbs hT3'.1 rfl rfl hl.1 rfl (Nat.le_of_ble_eq_true rfl) dX5_firstTown_52 ⟨Nat.le_of_ble_eq_true rfl, Nat.le_of_ble_eq_true rfl⟩ (fun H locs hP hS => ?_)
  refine W.eq (g2 := F0 m 55 ls [.int (-4)]) rfl ?_
  have hS := me_bA hS
  refine lv_pop hx hb dX5_firstTown_55 rfl ?_
  refine lv_aload_n hx hb dX5_firstTown_56 rfl (lv_at hl 0 rfl) ?_
  rw [List.append_assoc, List.append_assoc] at hP
  refine W.widen (k := 9) (n := 302) (Nat.le_of_ble_eq_true rfl) (Nat.le_of_ble_eq_true rfl) ?_
  exact W.aret hx hb hr (Or.inl ⟨_, rfl⟩) (Or.inr ⟨_, rfl⟩) (fun t ht hW => ⟨⟨rfl, by rw [ht]; exact hP⟩, hS.F ht⟩) hS.2.2 dX5_firstTown_57
