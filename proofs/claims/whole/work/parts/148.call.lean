/-! ===== a constructor's calls of what makes nothing ===== -/
section CALLB
variable {p : Program} {l : Launch} {e : Env} {R : Room} {s : State} {m : MethodId} {args : Array Value} {below : List Frame} {meth : Method} {c : Code} {H : Heap} {locs : List Loc} {cells slots : Nat} {Q : State → Prop}
variable {cc : ByteArray} {pc : Nat} {ls : Array Slot} {rest : List Value} {D : va_G} {cI : ClassId} {ad : Nat → Nat} {L : List CDs} {M : Mem} {H0 : Heap} {sz : Nat}
theorem bA_me {b : Nat} (hS : va_S (bA b) H0 H locs) : va_S (me_A (bd b) L b) H0 H locs := ⟨hS.1, fun q h1 h2 => hS.2.1 q h1 (fun z => h2 (Or.inr z)), fun q hq => Or.inr (hS.2.2 q hq)⟩
theorem me_bA {b : Nat} (hS : va_S (me_A (bd b) L b) H0 H locs) : va_S (bA b) H0 H locs := by
  have up : ∀ q, me_A (bd b) L b q → bA b q := fun q h => by
    rcases h with ⟨k, _, e⟩ | h
    · rw [e]; exact Nat.le_add_right b k
    · exact h
  exact ⟨hS.1, fun q h1 h2 => hS.2.1 q h1 (fun z => h2 (up q z)), fun q hq => up _ (hS.2.2 q hq)⟩
theorem me_runb {ans : Option Value} {M' : Mem} {st0 : List Value} {a : Array Value} (hr : va_Run p l e R s m args below meth c H locs cells slots 0 0 (F0 m pc ls st0) rest (me_Post D cI ad L ans M' (me_A ad L H.size) a) (me_A ad L H.size)) (hS : va_S (me_A ad L sz) H0 H locs) (hsz : sz ≤ H0.size)
    (kk : ∀ (H1 : Heap) (locs1 : List Loc), va_P D vwCl (me_ws cI ad L M') H1 → va_S (me_A ad L sz) H0 H1 locs1 → W p l e R s m args below meth c H1 locs1 cells slots Q (F0 m (pc + 3) ls (ans.toList ++ rest))) : W p l e R s m args below meth c H locs cells slots Q (F0 m pc ls st0) := by
  have up : ∀ q, me_A ad L H.size q → me_A ad L sz q := fun q h => by
    rcases h with h | h
    · exact Or.inl h
    · exact Or.inr (Nat.le_trans hsz (Nat.le_trans hS.1 h))
  intro T hT X
  obtain ⟨v, st₀, t, T', L1, h0, X', hL, e1, e2, ⟨⟨hv, hp⟩, hz, hk⟩, st⟩ := hr T hT X
  cases hv
  rw [h0] at hz hk
  rw [← e1] at hz hk hp
  obtain ⟨t2, a1, b1⟩ := kk T'.heap (locs ++ L1) hp
    ⟨Nat.le_trans hS.1 hz, fun q h1 h2 => by rw [hk q (Nat.lt_of_lt_of_le h1 hS.1) (fun z => h2 (up q z))]; exact hS.2.1 q h1 h2, fun q hq => by
      rcases List.mem_append.mp hq with h | h
      · exact hS.2.2 q h
      · exact up _ (hL q h)⟩ T' rfl X'
  exact ⟨t2, st t2 a1, b1⟩
variable {y : MethodName} {bytes : ByteArray} {maxL nL n index : Nat} {ret : Option FieldType} {ws Ts : List Cond} {rm : Room} {own C : String} {As : List Value} {M' : Mem} {ans : Option Value}
theorem me_callVb (S : CallFix p m c cc nL s args Ts own) {k ci : Nat} {fs : List (Option (Option Nat))} {T : u_T} {N : Nat} (hM : me_Met l y ws rm D cI ad L (.ref (ad k) :: As) ans M M') (cw : CallW R s args own C index y bytes maxL ret ws rm 0 0 n)
    (hK : va_K D vwCl [(cI, .int)] s) (hI : me_inj ad L) (hP : va_P D vwCl (me_ws cI ad L M) H) (hS : va_S (me_A ad L sz) s.heap H locs) (hsz : sz ≤ s.heap.size) (hL : L[k]? = some (.inr (ci, fs))) (hc : vwCl[ci]? = some (C, T, N)) (hn : As.length = n) (hsize : ls.size = nL) {st0 : List Value} (hst : st0 = As.reverse ++ .ref (ad k) :: rest) (hW : (rest.map fun v => v.category).sum ≤ 8) (hdg : decode cc pc = .ok (.invokevirtual index, 3)) (hf : cells ≤ R.cells ∧ slots ≤ R.slots)
    (kk : ∀ (H1 : Heap) (locs1 : List Loc), va_P D vwCl (me_ws cI ad L M') H1 → va_S (me_A ad L sz) s.heap H1 locs1 → W p l e R s m args below meth c H1 locs1 cells slots Q (F0 m (pc + 3) ls (ans.toList ++ rest))) : W p l e R s m args below meth c H locs cells slots Q (F0 m pc ls st0) :=
  me_runb (va_runV S (hM H.size) cw ⟨me_blind, va_recv hK hP hc (me_atO hL), fun U hU hW => ⟨rfl, by rw [hU], by rw [hU]; exact hP, va_K.moved hW.alike hK, hI⟩⟩ rfl hn hsize hst (lv_room hW) hdg hf) hS hsz kk
/-- the call of a constructor, or of what makes cells -/
theorem mk_runb {b mc ms : Nat} {ans : Option Value} {L' : List CDs} {M' : Mem} {st0 : List Value} {a : Array Value} (hr : va_Run p l e R s m args below meth c H locs cells slots mc ms (F0 m pc ls st0) rest (mk_Post b D cI ans L' M' a) (bA b)) (hS : va_S (bA b) H0 H locs)
    (kk : ∀ (H1 : Heap) (locs1 : List Loc), va_P D vwCl (me_ws cI (bd b) L' M') H1 → va_S (bA b) H0 H1 locs1 → W p l e R s m args below meth c H1 locs1 (cells + mc) (slots + ms) Q (F0 m (pc + 3) ls (ans.toList ++ rest))) : W p l e R s m args below meth c H locs cells slots Q (F0 m pc ls st0) := by
  intro T hT X
  obtain ⟨v, st₀, t, T', L1, h0, X', hL, e1, e2, ⟨⟨hv, hp⟩, hz, hk⟩, st⟩ := hr T hT X
  cases hv
  rw [h0] at hz hk
  rw [← e1] at hz hk hp
  obtain ⟨t2, a1, b1⟩ := kk T'.heap (locs ++ L1) hp
    ⟨Nat.le_trans hS.1 hz, fun q h1 h2 => by rw [hk q (Nat.lt_of_lt_of_le h1 hS.1) h2]; exact hS.2.1 q h1 h2, fun q hq => by
      rcases List.mem_append.mp hq with h | h
      · exact hS.2.2 q h
      · exact hL q h⟩ T' rfl X'
  exact ⟨t2, st t2 a1, b1⟩
theorem mk_callI (S : CallFix p m c cc nL s args Ts own) {b k mc ms : Nat} {L' : List CDs} (hM : mk_Met l y ws rm D cI b (.ref (bd b k) :: As) none L L' M M' mc ms) (cw : CallB R s args own index y bytes maxL none ws rm mc ms n ∧ y.name = "<init>" ∧ (Cond.instanceMethod y).before args s = true)
    (hK : va_K D vwCl [(cI, .int)] s) (hP : va_P D vwCl (me_ws cI (bd b) L M) H) (hS : va_S (bA b) s.heap H locs) (hsz : H.size = bd b L.length) (hn : As.length = n) (hsize : ls.size = nL) {st0 : List Value} (hst : st0 = As.reverse ++ .ref (bd b k) :: rest) (hW : (rest.map fun v => v.category).sum ≤ 8) (hdg : decode cc pc = .ok (.invokespecial index, 3)) (hf : cells + mc ≤ R.cells ∧ slots + ms ≤ R.slots)
    (kk : ∀ (H1 : Heap) (locs1 : List Loc), va_P D vwCl (me_ws cI (bd b) L' M') H1 → va_S (bA b) s.heap H1 locs1 → W p l e R s m args below meth c H1 locs1 (cells + mc) (slots + ms) Q (F0 m (pc + 3) ls rest)) : W p l e R s m args below meth c H locs cells slots Q (F0 m pc ls st0) :=
  mk_runb (va_runI S hM cw ⟨mk_blind, fun U hU hW => ⟨rfl, by rw [hU]; exact hsz, by rw [hU]; exact hP, va_K.moved hW.alike hK⟩⟩ rfl hn hsize hst (lv_room hW) hdg hf) hS kk
theorem mk_callS (S : CallFix p m c cc nL s args Ts own) {b mc ms : Nat} {L' : List CDs} (hM : mk_Met l y ws rm D cI b As ans L L' M M' mc ms) (cw : CallB R s args own index y bytes maxL ret ws rm mc ms n ∧ (Cond.static y).before args s = true)
    (hK : va_K D vwCl [(cI, .int)] s) (hP : va_P D vwCl (me_ws cI (bd b) L M) H) (hS : va_S (bA b) s.heap H locs) (hsz : H.size = bd b L.length) (hn : As.length = n) (hsize : ls.size = nL) {st0 : List Value} (hst : st0 = As.reverse ++ rest) (hW : (rest.map fun v => v.category).sum ≤ 8) (hdg : decode cc pc = .ok (.invokestatic index, 3)) (hf : cells + mc ≤ R.cells ∧ slots + ms ≤ R.slots)
    (kk : ∀ (H1 : Heap) (locs1 : List Loc), va_P D vwCl (me_ws cI (bd b) L' M') H1 → va_S (bA b) s.heap H1 locs1 → W p l e R s m args below meth c H1 locs1 (cells + mc) (slots + ms) Q (F0 m (pc + 3) ls (ans.toList ++ rest))) : W p l e R s m args below meth c H locs cells slots Q (F0 m pc ls st0) :=
  mk_runb (va_runS S hM cw ⟨mk_blind, fun U hU hW => ⟨rfl, by rw [hU]; exact hsz, by rw [hU]; exact hP, va_K.moved hW.alike hK⟩⟩ rfl hn hsize hst (lv_room hW) hdg hf) hS kk
end CALLB
