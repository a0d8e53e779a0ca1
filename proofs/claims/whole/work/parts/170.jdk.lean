/-! ===== the String constant of the first town, and the JDK's methods that read it: nothing is written, nothing made ===== -/
def f_B : List Int32 := [112, 48, 44, 48, 59, 112, 48, 44, 49, 59, 112, 49, 44, 48, 59, 112, 50, 44, 49, 59, 112, 51, 44, 48, 59, 111, 48, 44, 49, 44, 49, 59, 111, 49, 44, 50, 44, 50, 59, 111, 50, 44, 48, 44, 49, 59, 111, 51, 44, 52, 44, 51, 59, 111, 52, 44, 51, 44, 49, 59]
def f_tx : String := "p0,0;p0,1;p1,0;p2,1;p3,0;o0,1,1;o1,2,2;o2,0,1;o3,4,3;o4,3,1;"
theorem f_BL : ∀ k, k < 60 → f_B.getD k 0 &&& 255 = nI (f_L.getD k 0) := by decide +kernel
/-- the class's links to its nest mates' constructors -/
def f_nw : List (Nat × MethodName) := [(11, yX1_init), (18, yX3_init), (36, yX4_init), (42, yX0_init), (55, yX2_init)]
/-- what the start gives, and what nobody changes: the String, two statics, the nest's links -/
def fs_E (A : Nat → Prop) (aK aV : Nat → Nat) (U : State) : Prop := vk_S 1 [60] [f_B] aK aV A U U.heap ∧ vk_R RX5 64 f_tx (aK 0) U ∧ va_Z "java/lang/String" "COMPACT_STRINGS" "Z" (.int 1) A U U.heap ∧ va_Zq "jdk/internal/util/Preconditions" "SIOOBE_FORMATTER" "Ljava/util/function/BiFunction;" A U U.heap ∧ ∀ q ∈ f_nw, va_Nw (.methodLinkNest RX5 q.1 q.2 RX5) U
theorem fs_E.go {A : Nat → Prop} {aK aV : Nat → Nat} {s U : State} {H : Heap} {locs : List Loc} (h : fs_E A aK aV s) (hS : va_S A s.heap H locs) (hU : U.heap = H) (hW : s.WarmedH U.vm) : fs_E A aK aV U := by
  obtain ⟨h1, h2, h3, h4, h5⟩ := h
  unfold fs_E
  rw [hU]
  exact ⟨vk_S.moved hW.alike (h1.kept hS.2.1), h2.warm hW, va_Z.moved hW.alike (h3.kept hS.2.1), va_Zq.moved hW.alike (h4.kept hS.2.1), fun q hq => va_Nw.warmM hW (h5 q hq)⟩
theorem fs_E.call {A : Nat → Prop} {aK aV : Nat → Nat} {u U : State} (hh : U.heap = u.heap) (hv : U.vm = u.vm) (h : fs_E A aK aV u) : fs_E A aK aV U := by
  obtain ⟨h1, h2, h3, h4, h5⟩ := h
  have ha : u.vm.Alike U.vm := by rw [hv]; exact Vm.Alike.refl u.vm
  unfold fs_E
  rw [hh]
  exact ⟨vk_S.moved ha h1, h2.same hv, va_Z.moved ha h3, va_Zq.moved ha h4, fun q hq => va_Nw.same rfl hv.symm (h5 q hq)⟩
theorem fs_blind {A : Nat → Prop} {aK aV : Nat → Nat} {av : List Value} : FrameBlind (va_Pc av (fs_E A aK aV)) :=
  fun a U g mk q => ⟨q.1, fs_E.call (u := U) (U := U.calling g mk a) rfl rfl q.2⟩
def jk_Post (ans : Option Value) : Array Value → State → Outcome → State → Prop := fun _ st oc t => oc = .returned ans ∧ t.heap = st.heap
def jk_Met (l : Launch) (y : MethodName) (ws : List Cond) (rm : Room) (E : State → Prop) (av : List Value) (ans : Option Value) : Prop := Met l y ws rm (va_Pc av E) (jk_Post ans) 0 0 (fun _ => False)
section JDK
variable {p : Program} {l : Launch} {e : Env} {R : Room} {s : State} {m : MethodId} {args : Array Value} {below : List Frame} {meth : Method} {c : Code} {H : Heap} {locs : List Loc} {cells slots : Nat} {Q : State → Prop}
variable {cc : ByteArray} {pc : Nat} {ls : Array Slot} {rest : List Value} {A : Nat → Prop} {aK aV : Nat → Nat}
theorem jk_run {ans : Option Value} {st0 : List Value} {a : Array Value} (hr : va_Run p l e R s m args below meth c H locs cells slots 0 0 (F0 m pc ls st0) rest (jk_Post ans a) (fun _ => False))
    (kk : W p l e R s m args below meth c H locs cells slots Q (F0 m (pc + 3) ls (ans.toList ++ rest))) : W p l e R s m args below meth c H locs cells slots Q (F0 m pc ls st0) := by
  intro T hT X
  obtain ⟨v, st₀, t, T', L1, h0, X', hL, e1, e2, ⟨hv, hq⟩, st⟩ := hr T hT X
  cases hv
  have hLn : L1 = [] := by
    cases L1 with
    | nil => rfl
    | cons q r => exact absurd (hL q List.mem_cons_self) id
  subst hLn
  rw [List.append_nil] at X'
  obtain ⟨t2, a1, b1⟩ := kk T' (by rw [e1, hq, h0]) X'
  exact ⟨t2, st t2 a1, b1⟩
variable {y : MethodName} {bytes : ByteArray} {maxL nL n index : Nat} {ret : Option FieldType} {ws Ts : List Cond} {rm : Room} {own C : String} {As : List Value} {ans : Option Value} {E : State → Prop}
theorem jk_callS (S : CallFix p m c cc nL s args Ts own) (hM : jk_Met l y ws rm E As ans) (cw : CallB R s args own index y bytes maxL ret ws rm 0 0 n ∧ (Cond.static y).before args s = true) (hbl : FrameBlind (va_Pc As E)) (hE : ∀ U : State, U.heap = H → s.WarmedH U.vm → E U)
    (hn : As.length = n) (hsize : ls.size = nL) {st0 : List Value} (hst : st0 = As.reverse ++ rest) (hW : (rest.map fun v => v.category).sum ≤ 8) (hdg : decode cc pc = .ok (.invokestatic index, 3)) (hf : cells ≤ R.cells ∧ slots ≤ R.slots)
    (kk : W p l e R s m args below meth c H locs cells slots Q (F0 m (pc + 3) ls (ans.toList ++ rest))) : W p l e R s m args below meth c H locs cells slots Q (F0 m pc ls st0) :=
  jk_run (va_runS S hM cw ⟨hbl, fun U hU hW => ⟨rfl, hE U hU hW⟩⟩ rfl hn hsize hst (lv_room hW) hdg hf) kk
theorem jk_callV (S : CallFix p m c cc nL s args Ts own) {a : Nat} (hM : jk_Met l y ws rm E (.ref a :: As) ans) (cw : CallW R s args own C index y bytes maxL ret ws rm 0 0 n) (hbl : FrameBlind (va_Pc (.ref a :: As) E)) (hrc : ∃ cell : Cell, H[a]? = some cell ∧ cell.vm.isStatics = false ∧ s.vm.findClass C = some cell.cls) (hE : ∀ U : State, U.heap = H → s.WarmedH U.vm → E U)
    (hn : As.length = n) (hsize : ls.size = nL) {st0 : List Value} (hst : st0 = As.reverse ++ .ref a :: rest) (hW : (rest.map fun v => v.category).sum ≤ 8) (hdg : decode cc pc = .ok (.invokevirtual index, 3)) (hf : cells ≤ R.cells ∧ slots ≤ R.slots)
    (kk : W p l e R s m args below meth c H locs cells slots Q (F0 m (pc + 3) ls (ans.toList ++ rest))) : W p l e R s m args below meth c H locs cells slots Q (F0 m pc ls st0) :=
  jk_run (va_runV S hM cw ⟨hbl, hrc, fun U hU hW => ⟨rfl, hE U hU hW⟩⟩ rfl hn hsize hst (lv_room hW) hdg hf) kk
end JDK
abbrev rmJ3_ci : Room := { frames := 0, cells := 0, slots := 0, locals := 0 }
theorem hd_J3_ci : yJ3_checkIndex_8e157.cls = RJ3 ∧ yJ3_checkIndex_8e157.cls ≠ "java/lang/invoke/MethodHandle" ∧ yJ3_checkIndex_8e157.cls ≠ "java/lang/invoke/VarHandle" ∧ (parseMethodDescriptor yJ3_checkIndex_8e157.desc).map (fun d => d.parameters.length) = some 3 := by decide +kernel
set_option maxRecDepth 100000 in
set_option maxHeartbeats 4000000 in
theorem c_J3_ci {l : Launch} {i n : Nat} {v : Value} (hi : i < n) (hn : n < 2 ^ 31) (hv : v = .null ∨ ∃ t, v = .ref t) : jk_Met l yJ3_checkIndex_8e157 wsJ3_checkIndex_8e157 rmJ3_ci (fun _ => True) [.int (nI i), .int (nI n), v] (some (.int (nI i))) := by
  have hle : (lg_sl [.int (nI i), .int (nI n), v]).length ≤ 3 := by
    rcases hv with rfl | ⟨t, rfl⟩ <;> exact Nat.le_of_ble_eq_true rfl
  refine Met.ofW (cc := cJ3_checkIndex_8e157) (maxL := 3) (ret := some .int) (by decide) rfl ?_
  intro p e s m args below meth c s₁ B hml hv
  obtain ⟨rfl, -⟩ := hv
  have hx := B.exec
  have hb := B.bytes
  have hr := B.returns
  have hlocks := B.notSynchronized
  have hl := lv_entry ([.int (nI i), .int (nI n), v]) (n := 3) hle
  rw [lg_entry_eq]
  generalize (lg_sl ([.int (nI i), .int (nI n), v]) ++ List.replicate (3 - (lg_sl ([.int (nI i), .int (nI n), v])).length) Slot.unset).toArray = ls at hl ⊢
  have hl : lv_has ls 3 [(0, .int (nI i)), (1, .int (nI n)), (2, v)] := hl
  refine lv_iload_n hx hb dJ3_checkIndex_8e157_0 rfl (lv_at hl 0 rfl) ?_
  refine lv_if_lt (tgt := 9) hx hb dJ3_checkIndex_8e157_1 (by decide) (fun h => absurd h (nI_pos (by omega))) (fun _ => ?_)
  refine lv_iload_n hx hb dJ3_checkIndex_8e157_4 rfl (lv_at hl 0 rfl) ?_
  refine lv_iload_n hx hb dJ3_checkIndex_8e157_5 rfl (lv_at hl 1 rfl) ?_
  refine lv_icmp_lt (tgt := 16) hx hb dJ3_checkIndex_8e157_6 (by decide) (fun _ => ?_) (fun h => absurd (nI_lt hi hn) h)
  refine lv_iload_n hx hb dJ3_checkIndex_8e157_16 rfl (lv_at hl 0 rfl) ?_
  exact W.iret hx hb hr (fun t ht _ => ⟨rfl, ht⟩) (fun q hq => by cases hq) dJ3_checkIndex_8e157_17
abbrev rmJ0_ci : Room := { frames := 1, cells := 0, slots := 0, locals := 22 }
theorem hd_J0_ci : yJ0_checkIndex_df160.cls = RJ0 ∧ yJ0_checkIndex_df160.cls ≠ "java/lang/invoke/MethodHandle" ∧ yJ0_checkIndex_df160.cls ≠ "java/lang/invoke/VarHandle" ∧ (parseMethodDescriptor yJ0_checkIndex_df160.desc).map (fun d => d.parameters.length) = some 2 := by decide +kernel
set_option maxRecDepth 100000 in
set_option maxHeartbeats 4000000 in
theorem c_J0_ci {l : Launch} {A : Nat → Prop} {aK aV : Nat → Nat} {i n : Nat} (hi : i < n) (hn : n < 2 ^ 31) : jk_Met l yJ0_checkIndex_df160 wsJ0_checkIndex_df160 rmJ0_ci (fs_E A aK aV) [.int (nI i), .int (nI n)] none := by
  refine Met.ofW (cc := cJ0_checkIndex_df160) (maxL := 2) (ret := none) (by decide) rfl ?_
  intro p e s m args below meth c s₁ B hml hv
  obtain ⟨rfl, hE⟩ := hv
  have hx := B.exec
  have hb := B.bytes
  have hr := B.returns
  have hts := atoms_spec (ws := wsJ0_checkIndex_df160) B.pre
  have hown : s.vm.findClass RJ0 = some m.cls := findClass_of_methodNamed B.named
  have hlocks := B.notSynchronized
  have hl := lv_entry ([.int (nI i), .int (nI n)]) (n := 2) (Nat.le_of_ble_eq_true rfl)
  rw [lg_entry_eq]
  generalize (lg_sl ([.int (nI i), .int (nI n)]) ++ List.replicate (2 - (lg_sl ([.int (nI i), .int (nI n)])).length) Slot.unset).toArray = ls at hl ⊢
  have hl : lv_has ls 2 [(0, .int (nI i)), (1, .int (nI n))] := hl
  obtain ⟨v, hv, hZ⟩ : ∃ v : Value, (v = .null ∨ ∃ t, v = .ref t) ∧ va_Z "jdk/internal/util/Preconditions" "SIOOBE_FORMATTER" "Ljava/util/function/BiFunction;" v A s s.heap := by
    rcases hE.2.2.2.1 with h | ⟨t, h⟩
    · exact ⟨.null, Or.inl rfl, h⟩
    · exact ⟨.ref t, Or.inr ⟨t, rfl⟩, h⟩
  have hS : va_S A s.heap s.heap [] := va_S.rf
  refine lv_iload_n hx hb dJ0_checkIndex_df160_0 rfl (lv_at hl 0 rfl) ?_
  refine lv_iload_n hx hb dJ0_checkIndex_df160_1 rfl (lv_at hl 1 rfl) ?_
  refine va_gets (ref := "jdk/internal/util/Preconditions") hx hb hZ hS hown (hts _ (List.mem_of_getElem? (i := 1) rfl)) (fun _ h => h) dJ0_checkIndex_df160_2 ?_
  refine jk_callS (As := [.int (nI i), .int (nI n), v]) (rest := []) ⟨hx, hb, hml, hown, hts⟩ (c_J3_ci hi hn hv) (va_cwS 3 hts gJ0_checkIndex_df160_J3_checkIndex_8e157 rfl rfl rfl hd_J3_ci.2 ⟨Nat.le_of_ble_eq_true rfl, Nat.le_of_ble_eq_true rfl⟩) (fun a U g mk q => q) (fun U hU hW => trivial) rfl hl.1 rfl (Nat.le_of_ble_eq_true rfl) dJ0_checkIndex_df160_5 ⟨Nat.le_refl _, Nat.le_refl _⟩ ?_
  refine W.eq (g2 := F0 m 8 ls [.int (nI i)]) rfl ?_
  refine lv_pop hx hb dJ0_checkIndex_df160_8 rfl ?_
  exact W.vret hx hb hr (fun t ht _ => ⟨rfl, ht⟩) (fun q hq => by cases hq) dJ0_checkIndex_df160_9
abbrev rmJ1_ca : Room := { frames := 2, cells := 0, slots := 0, locals := 43 }
theorem hd_J1_ca : yJ1_charAt_3b067.cls = RJ1 ∧ yJ1_charAt_3b067.cls ≠ "java/lang/invoke/MethodHandle" ∧ yJ1_charAt_3b067.cls ≠ "java/lang/invoke/VarHandle" ∧ (parseMethodDescriptor yJ1_charAt_3b067.desc).map (fun d => d.parameters.length) = some 2 := by decide +kernel
set_option maxRecDepth 100000 in
set_option maxHeartbeats 4000000 in
theorem c_J1_ca {l : Launch} {A : Nat → Prop} {aK aV : Nat → Nat} {k : Nat} (hk : k < 60) : jk_Met l yJ1_charAt_3b067 wsJ1_charAt_3b067 rmJ1_ca (fs_E A aK aV) [.ref (aV 0), .int (nI k)] (some (.int (nI (f_L.getD k 0)))) := by
  refine Met.ofW (cc := cJ1_charAt_3b067) (maxL := 2) (ret := some .char) (by decide) rfl ?_
  intro p e s m args below meth c s₁ B hml hv
  obtain ⟨rfl, hE⟩ := hv
  have hx := B.exec
  have hb := B.bytes
  have hr := B.returns
  have hts := atoms_spec (ws := wsJ1_charAt_3b067) B.pre
  have hown : s.vm.findClass RJ1 = some m.cls := findClass_of_methodNamed B.named
  have hlocks := B.notSynchronized
  have hl := lv_entry ([.ref (aV 0), .int (nI k)]) (n := 2) (Nat.le_of_ble_eq_true rfl)
  rw [lg_entry_eq]
  generalize (lg_sl ([.ref (aV 0), .int (nI k)]) ++ List.replicate (2 - (lg_sl ([.ref (aV 0), .int (nI k)])).length) Slot.unset).toArray = ls at hl ⊢
  have hl : lv_has ls 2 [(0, .ref (aV 0)), (1, .int (nI k))] := hl
  have hS : va_S A s.heap s.heap [] := va_S.rf
  have hT : va_T .byte (aV 0) 60 (fun j => .int (f_B.getD j 0)) A s s.heap := (hE.1.1 0 (by decide)).2.2.2
  refine lv_iload_n hx hb dJ1_charAt_3b067_0 rfl (lv_at hl 1 rfl) ?_
  refine lv_aload_n hx hb dJ1_charAt_3b067_1 rfl (lv_at hl 0 rfl) ?_
  refine va_tlen (v := nI 60) hx hb hT hS rfl dJ1_charAt_3b067_2 ?_
  refine jk_callS (As := [.int (nI k), .int (nI 60)]) (rest := []) ⟨hx, hb, hml, hown, hts⟩ (c_J0_ci (A := A) (aK := aK) (aV := aV) hk (by decide)) (va_cwS 2 hts gJ1_charAt_3b067_J0_checkIndex_df160 rfl rfl rfl hd_J0_ci.2 ⟨Nat.le_of_ble_eq_true rfl, Nat.le_of_ble_eq_true rfl⟩) fs_blind (fun U hU hW => hE.go hS hU hW) rfl hl.1 rfl (Nat.le_of_ble_eq_true rfl) dJ1_charAt_3b067_3 ⟨Nat.le_refl _, Nat.le_refl _⟩ ?_
  refine W.eq (g2 := F0 m 6 ls []) rfl ?_
  refine lv_aload_n hx hb dJ1_charAt_3b067_6 rfl (lv_at hl 0 rfl) ?_
  refine lv_iload_n hx hb dJ1_charAt_3b067_7 rfl (lv_at hl 1 rfl) ?_
  refine va_tb (v := .int (f_B.getD k 0)) hx hb hT hS (nI_in hk (by decide)) (by rw [nI_clamp (by omega)]) dJ1_charAt_3b067_8 ?_
  refine lv_sipush (v := 255) hx hb dJ1_charAt_3b067_9 (by decide) ?_
  refine lv_iand hx hb dJ1_charAt_3b067_12 ?_
  refine lv_i2c (v := f_B.getD k 0 &&& 255) hx hb dJ1_charAt_3b067_13 (sc_c2 _) ?_
  rw [← f_BL k hk]
  exact W.zret hx hb hr (sc_nar _) (fun t ht _ => ⟨rfl, ht⟩) (fun q hq => by cases hq) dJ1_charAt_3b067_14
abbrev rmJ0_lf : Room := { frames := 0, cells := 0, slots := 0, locals := 0 }
theorem hd_J0_cd : yJ0_coder_7d493.cls = RJ0 ∧ yJ0_coder_7d493.cls ≠ "java/lang/invoke/MethodHandle" ∧ yJ0_coder_7d493.cls ≠ "java/lang/invoke/VarHandle" ∧ (parseMethodDescriptor yJ0_coder_7d493.desc).map (fun d => d.parameters.length) = some 0 := by decide +kernel
theorem hd_J0_la : yJ0_isLatin1_aae02.cls = RJ0 ∧ yJ0_isLatin1_aae02.cls ≠ "java/lang/invoke/MethodHandle" ∧ yJ0_isLatin1_aae02.cls ≠ "java/lang/invoke/VarHandle" ∧ (parseMethodDescriptor yJ0_isLatin1_aae02.desc).map (fun d => d.parameters.length) = some 0 := by decide +kernel
set_option maxRecDepth 100000 in
set_option maxHeartbeats 4000000 in
theorem c_J0_la {l : Launch} {A : Nat → Prop} {aK aV : Nat → Nat} : jk_Met l yJ0_isLatin1_aae02 wsJ0_isLatin1_aae02 rmJ0_lf (fs_E A aK aV) [.ref (aK 0)] (some (.int 1)) := by
  refine Met.ofW (cc := cJ0_isLatin1_aae02) (maxL := 1) (ret := some .boolean) (by decide) rfl ?_
  intro p e s m args below meth c s₁ B hml hv
  obtain ⟨rfl, hE⟩ := hv
  have hx := B.exec
  have hb := B.bytes
  have hr := B.returns
  have hts := atoms_spec (ws := wsJ0_isLatin1_aae02) B.pre
  have hown : s.vm.findClass RJ0 = some m.cls := findClass_of_methodNamed B.named
  have hlocks := B.notSynchronized
  have hl := lv_entry ([.ref (aK 0)]) (n := 1) (Nat.le_of_ble_eq_true rfl)
  rw [lg_entry_eq]
  generalize (lg_sl ([.ref (aK 0)]) ++ List.replicate (1 - (lg_sl ([.ref (aK 0)])).length) Slot.unset).toArray = ls at hl ⊢
  have hl : lv_has ls 1 [(0, .ref (aK 0))] := hl
  have hS : va_S A s.heap s.heap [] := va_S.rf
  refine va_gets (ref := "java/lang/String") hx hb hE.2.2.1 hS hown (hts _ (List.mem_of_getElem? (i := 1) rfl)) (fun _ h => h) dJ0_isLatin1_aae02_0 ?_
  refine lv_if_eq (tgt := 17) hx hb dJ0_isLatin1_aae02_3 (by decide) (fun h => absurd h (by decide)) (fun _ => ?_)
  refine lv_aload_n hx hb dJ0_isLatin1_aae02_6 rfl (lv_at hl 0 rfl) ?_
  refine vk_getf (ref := "java/lang/String") hx hb (hE.1.1 0 (by decide)).2.1 hS hown (hts _ (List.mem_of_getElem? (i := 2) rfl)) (fun _ h => h) dJ0_isLatin1_aae02_7 ?_
  refine lv_if_ne (tgt := 17) hx hb dJ0_isLatin1_aae02_10 (by decide) (fun h => absurd rfl h) (fun _ => ?_)
  refine lv_iconst (v := 1) hx hb dJ0_isLatin1_aae02_13 (by decide) ?_
  refine lv_goto (tgt := 18) hx hb dJ0_isLatin1_aae02_14 (by decide) ?_
  exact W.zret hx hb hr rfl (fun t ht _ => ⟨rfl, ht⟩) (fun q hq => by cases hq) dJ0_isLatin1_aae02_18
set_option maxRecDepth 100000 in
set_option maxHeartbeats 4000000 in
theorem c_J0_cd {l : Launch} {A : Nat → Prop} {aK aV : Nat → Nat} : jk_Met l yJ0_coder_7d493 wsJ0_coder_7d493 rmJ0_lf (fs_E A aK aV) [.ref (aK 0)] (some (.int 0)) := by
  refine Met.ofW (cc := cJ0_coder_7d493) (maxL := 1) (ret := some .byte) (by decide) rfl ?_
  intro p e s m args below meth c s₁ B hml hv
  obtain ⟨rfl, hE⟩ := hv
  have hx := B.exec
  have hb := B.bytes
  have hr := B.returns
  have hts := atoms_spec (ws := wsJ0_coder_7d493) B.pre
  have hown : s.vm.findClass RJ0 = some m.cls := findClass_of_methodNamed B.named
  have hlocks := B.notSynchronized
  have hl := lv_entry ([.ref (aK 0)]) (n := 1) (Nat.le_of_ble_eq_true rfl)
  rw [lg_entry_eq]
  generalize (lg_sl ([.ref (aK 0)]) ++ List.replicate (1 - (lg_sl ([.ref (aK 0)])).length) Slot.unset).toArray = ls at hl ⊢
  have hl : lv_has ls 1 [(0, .ref (aK 0))] := hl
  have hS : va_S A s.heap s.heap [] := va_S.rf
  refine va_gets (ref := "java/lang/String") hx hb hE.2.2.1 hS hown (hts _ (List.mem_of_getElem? (i := 1) rfl)) (fun _ h => h) dJ0_coder_7d493_0 ?_
  refine lv_if_eq (tgt := 13) hx hb dJ0_coder_7d493_3 (by decide) (fun h => absurd h (by decide)) (fun _ => ?_)
  refine lv_aload_n hx hb dJ0_coder_7d493_6 rfl (lv_at hl 0 rfl) ?_
  refine vk_getf (ref := "java/lang/String") hx hb (hE.1.1 0 (by decide)).2.1 hS hown (hts _ (List.mem_of_getElem? (i := 2) rfl)) (fun _ h => h) dJ0_coder_7d493_7 ?_
  refine lv_goto (tgt := 14) hx hb dJ0_coder_7d493_10 (by decide) ?_
  exact W.zret hx hb hr rfl (fun t ht _ => ⟨rfl, ht⟩) (fun q hq => by cases hq) dJ0_coder_7d493_14
abbrev rmJ0_ln : Room := { frames := 1, cells := 0, slots := 0, locals := 20 }
theorem hd_J0_ln : yJ0_length_8abf5.cls = RJ0 ∧ yJ0_length_8abf5.cls ≠ "java/lang/invoke/MethodHandle" ∧ yJ0_length_8abf5.cls ≠ "java/lang/invoke/VarHandle" ∧ (parseMethodDescriptor yJ0_length_8abf5.desc).map (fun d => d.parameters.length) = some 0 := by decide +kernel
set_option maxRecDepth 100000 in
set_option maxHeartbeats 4000000 in
theorem c_J0_ln {l : Launch} {A : Nat → Prop} {aK aV : Nat → Nat} : jk_Met l yJ0_length_8abf5 wsJ0_length_8abf5 rmJ0_ln (fs_E A aK aV) [.ref (aK 0)] (some (.int (nI 60))) := by
  refine Met.ofW (cc := cJ0_length_8abf5) (maxL := 1) (ret := some .int) (by decide) rfl ?_
  intro p e s m args below meth c s₁ B hml hv
  obtain ⟨rfl, hE⟩ := hv
  have hx := B.exec
  have hb := B.bytes
  have hr := B.returns
  have hts := atoms_spec (ws := wsJ0_length_8abf5) B.pre
  have hown : s.vm.findClass RJ0 = some m.cls := findClass_of_methodNamed B.named
  have hlocks := B.notSynchronized
  have hl := lv_entry ([.ref (aK 0)]) (n := 1) (Nat.le_of_ble_eq_true rfl)
  rw [lg_entry_eq]
  generalize (lg_sl ([.ref (aK 0)]) ++ List.replicate (1 - (lg_sl ([.ref (aK 0)])).length) Slot.unset).toArray = ls at hl ⊢
  have hl : lv_has ls 1 [(0, .ref (aK 0))] := hl
  have hS : va_S A s.heap s.heap [] := va_S.rf
  have hT : va_T .byte (aV 0) 60 (fun j => .int (f_B.getD j 0)) A s s.heap := (hE.1.1 0 (by decide)).2.2.2
  refine lv_aload_n hx hb dJ0_length_8abf5_0 rfl (lv_at hl 0 rfl) ?_
  refine vk_getf (ref := "java/lang/String") hx hb (hE.1.1 0 (by decide)).2.2.1 hS hown (hts _ (List.mem_of_getElem? (i := 1) rfl)) (fun _ h => h) dJ0_length_8abf5_1 ?_
  refine va_tlen (v := nI 60) hx hb hT hS rfl dJ0_length_8abf5_4 ?_
  refine lv_aload_n hx hb dJ0_length_8abf5_5 rfl (lv_at hl 0 rfl) ?_
  refine jk_callV (As := []) (rest := [.int (nI 60)]) ⟨hx, hb, hml, hown, hts⟩ (c_J0_cd (A := A) (aK := aK) (aV := aV)) (cwV 0 hts gJ0_length_8abf5_J0_coder_7d493 rfl rfl rfl hd_J0_cd ⟨Nat.le_of_ble_eq_true rfl, Nat.le_of_ble_eq_true rfl⟩) fs_blind (vk_recv hE.1 (by decide) hS) (fun U hU hW => hE.go hS hU hW) rfl hl.1 rfl (Nat.le_of_ble_eq_true rfl) dJ0_length_8abf5_6 ⟨Nat.le_refl _, Nat.le_refl _⟩ ?_
  refine W.eq (g2 := F0 m 9 ls [.int 0, .int (nI 60)]) rfl ?_
  refine lv_ishr hx hb dJ0_length_8abf5_9 ?_
  refine W.eq (g2 := F0 m 10 ls [.int (nI 60)]) (by rw [sc_shr0 (by decide)]) ?_
  exact W.iret hx hb hr (fun t ht _ => ⟨rfl, ht⟩) (fun q hq => by cases hq) dJ0_length_8abf5_10
abbrev rmJ0_ca : Room := { frames := 3, cells := 0, slots := 0, locals := 64 }
theorem hd_J0_ca : yJ0_charAt_5068e.cls = RJ0 ∧ yJ0_charAt_5068e.cls ≠ "java/lang/invoke/MethodHandle" ∧ yJ0_charAt_5068e.cls ≠ "java/lang/invoke/VarHandle" ∧ (parseMethodDescriptor yJ0_charAt_5068e.desc).map (fun d => d.parameters.length) = some 1 := by decide +kernel
set_option maxRecDepth 100000 in
set_option maxHeartbeats 4000000 in
theorem c_J0_ca {l : Launch} {A : Nat → Prop} {aK aV : Nat → Nat} {k : Nat} (hk : k < 60) : jk_Met l yJ0_charAt_5068e wsJ0_charAt_5068e rmJ0_ca (fs_E A aK aV) [.ref (aK 0), .int (nI k)] (some (.int (nI (f_L.getD k 0)))) := by
  refine Met.ofW (cc := cJ0_charAt_5068e) (maxL := 2) (ret := some .char) (by decide) rfl ?_
  intro p e s m args below meth c s₁ B hml hv
  obtain ⟨rfl, hE⟩ := hv
  have hx := B.exec
  have hb := B.bytes
  have hr := B.returns
  have hts := atoms_spec (ws := wsJ0_charAt_5068e) B.pre
  have hown : s.vm.findClass RJ0 = some m.cls := findClass_of_methodNamed B.named
  have hlocks := B.notSynchronized
  have hl := lv_entry ([.ref (aK 0), .int (nI k)]) (n := 2) (Nat.le_of_ble_eq_true rfl)
  rw [lg_entry_eq]
  generalize (lg_sl ([.ref (aK 0), .int (nI k)]) ++ List.replicate (2 - (lg_sl ([.ref (aK 0), .int (nI k)])).length) Slot.unset).toArray = ls at hl ⊢
  have hl : lv_has ls 2 [(0, .ref (aK 0)), (1, .int (nI k))] := hl
  have hS : va_S A s.heap s.heap [] := va_S.rf
  refine lv_aload_n hx hb dJ0_charAt_5068e_0 rfl (lv_at hl 0 rfl) ?_
  refine jk_callV (As := []) (rest := []) ⟨hx, hb, hml, hown, hts⟩ (c_J0_la (A := A) (aK := aK) (aV := aV)) (cwV 0 hts gJ0_charAt_5068e_J0_isLatin1_aae02 rfl rfl rfl hd_J0_la ⟨Nat.le_of_ble_eq_true rfl, Nat.le_of_ble_eq_true rfl⟩) fs_blind (vk_recv hE.1 (by decide) hS) (fun U hU hW => hE.go hS hU hW) rfl hl.1 rfl (Nat.le_of_ble_eq_true rfl) dJ0_charAt_5068e_1 ⟨Nat.le_refl _, Nat.le_refl _⟩ ?_
  refine W.eq (g2 := F0 m 4 ls [.int 1]) rfl ?_
  refine lv_if_eq (tgt := 16) hx hb dJ0_charAt_5068e_4 (by decide) (fun h => absurd h (by decide)) (fun _ => ?_)
  refine lv_aload_n hx hb dJ0_charAt_5068e_7 rfl (lv_at hl 0 rfl) ?_
  refine vk_getf (ref := "java/lang/String") hx hb (hE.1.1 0 (by decide)).2.2.1 hS hown (hts _ (List.mem_of_getElem? (i := 1) rfl)) (fun _ h => h) dJ0_charAt_5068e_8 ?_
  refine lv_iload_n hx hb dJ0_charAt_5068e_11 rfl (lv_at hl 1 rfl) ?_
  refine jk_callS (As := [.ref (aV 0), .int (nI k)]) (rest := []) ⟨hx, hb, hml, hown, hts⟩ (c_J1_ca (A := A) (aK := aK) (aV := aV) hk) (va_cwS 2 hts gJ0_charAt_5068e_J1_charAt_3b067 rfl rfl rfl hd_J1_ca.2 ⟨Nat.le_of_ble_eq_true rfl, Nat.le_of_ble_eq_true rfl⟩) fs_blind (fun U hU hW => hE.go hS hU hW) rfl hl.1 rfl (Nat.le_of_ble_eq_true rfl) dJ0_charAt_5068e_12 ⟨Nat.le_refl _, Nat.le_refl _⟩ ?_
  refine W.eq (g2 := F0 m 15 ls [.int (nI (f_L.getD k 0))]) rfl ?_
  rw [← f_BL k hk]
  exact W.zret hx hb hr (sc_nar _) (fun t ht _ => ⟨rfl, ht⟩) (fun q hq => by cases hq) dJ0_charAt_5068e_15
