/-! ===== what a constructor makes: the cells lie one behind the other ===== -/
section MAKE
variable {p : Program} {l : Launch} {e : Env} {R : Room} {s : State} {m : MethodId} {args : Array Value} {below : List Frame} {meth : Method} {c : Code} {H : Heap} {locs : List Loc} {cells slots : Nat} {Q : State → Prop}
variable {cc : ByteArray} {pc : Nat} {ls : Array Slot} {rest : List Value} {D : va_G} {cI : ClassId} {ad : Nat → Nat} {L : List CDs} {M : Mem} {H0 : Heap} {A : Nat → Prop}
theorem me_ws_app {d : CDs} : me_ws cI ad (L ++ [d]) M = me_ws cI ad L M ++ [(ad L.length, me_ent cI ad d (M L.length))] := by
  apply List.ext_getElem?
  intro i
  by_cases hi : i < L.length
  · rw [List.getElem?_append_left (by rw [me_ws, List.length_mapIdx]; exact hi)]
    unfold me_ws
    rw [List.getElem?_mapIdx, List.getElem?_mapIdx, List.getElem?_append_left hi]
  · rw [List.getElem?_append_right (by rw [me_ws, List.length_mapIdx]; omega)]
    unfold me_ws
    rw [List.getElem?_mapIdx, List.getElem?_append_right (by omega), List.length_mapIdx]
    by_cases h0 : i - L.length = 0
    · have h1 : i = L.length := by omega
      subst h1
      rw [Nat.sub_self]
      rfl
    · rw [List.getElem?_eq_none (by simp; omega), List.getElem?_eq_none (by simp; omega)]
      rfl
theorem me_grow {H1 : Heap} (hP : va_P D vwCl (me_ws cI ad L M) H) (o1 : ∀ q, q < H.size → H1[q]? = H[q]?) {d : CDs} (hd : va_at D vwCl (ad L.length, me_ent cI ad d (M L.length)) H1) : va_P D vwCl (me_ws cI ad (L ++ [d]) M) H1 := by
  rw [me_ws_app]
  refine (hP.kept (fun k x hx => o1 x.1 ((hP k x hx).lt))).app (fun k x hx => ?_)
  have hz : k < 1 := (List.getElem?_eq_some_iff.mp hx).1
  rw [show k = 0 by omega] at hx
  cases hx
  exact hd
theorem me_newa (hx : p.tables.exec = Jvm.exec) (hb : c.code = cc) (harr : (Cond.arrayClass .int).before args s = true) (hK : va_K D vwCl [(cI, .int)] s) (hP : va_P D vwCl (me_ws cI ad L M) H) (hS : va_S A H0 H locs) (hsz : H.size = ad L.length) {k : Nat} (hk : L.length = k) (hz : M k = fun _ => 0) {n : Int32} {N : Nat} (hn : ¬ n < 0) (hN : n.toNatClampNeg = N) {L1 : List CDs} (hL1 : L ++ [.inl N] = L1) (hbytes : N * componentBytes .int ≤ 536870912) (hcells : cells + 1 ≤ R.cells) (hslots : slots + N ≤ R.slots) (hdg : decode cc pc = .ok (.newarray .int, 2))
    (kk : ∀ (H1 : Heap), va_P D vwCl (me_ws cI ad L1 M) H1 → va_S A H0 H1 locs → W p l e R s m args below meth c H1 locs (cells + 1) (slots + N) Q (F0 m (pc + 2) ls (.ref (ad k) :: rest))) : W p l e R s m args below meth c H locs cells slots Q (F0 m pc ls (.int n :: rest)) := by
  subst hk hL1
  refine va_newaK hx hb (atype := .int) harr rfl hdg rfl hn hN hbytes hcells hslots rfl fun H1 cA e1 z1 o1 hAr hNm => ?_
  have hc : cA = cI := by
    have h := (hK.2 0 _ rfl).2
    exact Option.some.inj (hNm.symm.trans h)
  subst hc
  rw [hsz] at e1
  have := kk H1 (me_grow hP o1 (d := .inl N) (by rw [hz]; exact e1)) ⟨Nat.le_trans hS.1 (by omega), fun x h1 h2 => (o1 x (Nat.lt_of_lt_of_le h1 hS.1)).trans (hS.2.1 x h1 h2), hS.2.2⟩
  rw [← hsz] at this
  exact this
theorem me_new (hx : p.tables.exec = Jvm.exec) (hb : c.code = cc) {own C : String} {T : u_T} {N ci index : Nat} {Ts : List Cond} (hts : ∀ w ∈ Ts, w.before args s = true) (hin : ∀ w ∈ u_ws C T N, w ∈ Ts) (ty : Nat → FieldType) (hty : ∀ k, k < N → parseFieldDescriptor (T k).2.2.1 = some (ty k)) (hown : s.vm.findClass own = some m.cls) (hcl : (Cond.classLink own index C).before args s = true) (hinst : (Cond.instantiable C N).before args s = true) (hini : (Cond.initialized C).before args s = true)
    (hK : va_K D vwCl [(cI, .int)] s) (hP : va_P D vwCl (me_ws cI ad L M) H) (hS : va_S A H0 H locs) (hsz : H.size = ad L.length) {k : Nat} (hk : L.length = k) (hz : M k = fun _ => 0) (hc : vwCl[ci]? = some (C, T, N)) {fl : List (Option (Option Nat))} {L1 : List CDs} (hL1 : L ++ [.inr (ci, fl)] = L1) (hfs : ∀ j, j < N → defaultValue (ty j) = vp_V (fl.mapIdx (fun j x => me_fld ad (fun _ => 0) j x)) j) (hcells : cells + 1 ≤ R.cells) (hslots : slots + N ≤ R.slots) (hdg : decode cc pc = .ok (.new index, 3))
    (kk : ∀ (H1 : Heap), va_P D vwCl (me_ws cI ad L1 M) H1 → va_S A H0 H1 locs → W p l e R s m args below meth c H1 locs (cells + 1) (slots + N) Q (F0 m (pc + 3) ls (.ref (ad k) :: rest))) : W p l e R s m args below meth c H locs cells slots Q (F0 m pc ls rest) := by
  subst hk hL1
  have hKn := hK.1 ci _ hc
  refine W.newcK hx hb hown hcl hinst hini rfl hdg hcells hslots hKn.2.1 rfl fun H1 kC hkC e1 z1 o1 => ?_
  rw [hsz] at e1
  have := kk H1 (me_grow hP o1 (d := .inr (ci, fl)) (by rw [hz]; exact ⟨_, hc, (u_born ty hts hin hKn hkC e1 hty).to hfs⟩)) ⟨Nat.le_trans hS.1 (by omega), fun x h1 h2 => (o1 x (Nat.lt_of_lt_of_le h1 hS.1)).trans (hS.2.1 x h1 h2), hS.2.2⟩
  rw [← hsz] at this
  exact this
theorem me_setR {k ci j q : Nat} {fl : List (Option (Option Nat))} (h : L[k]? = some (.inr (ci, fl))) : (me_ws cI ad L M).set k (ad k, .inr (ci, (fl.mapIdx (fun j x => me_fld ad (M k) j x)).set j (.ref (ad q)))) = me_ws cI ad (L.set k (.inr (ci, fl.set j (some (some q))))) M := by
  apply List.ext_getElem?
  intro i
  by_cases hi : i = k
  · subst hi
    have hl := me_lt h
    rw [List.getElem?_set_self (by rw [me_ws, List.length_mapIdx]; exact hl)]
    unfold me_ws
    rw [List.getElem?_mapIdx, List.getElem?_set_self hl]
    have e : (fl.mapIdx (fun j x => me_fld ad (M i) j x)).set j (.ref (ad q)) = (fl.set j (some (some q))).mapIdx (fun j x => me_fld ad (M i) j x) := by
      apply List.ext_getElem?
      intro b
      rw [List.getElem?_mapIdx, List.getElem?_set, List.getElem?_set, List.length_mapIdx, List.getElem?_mapIdx]
      by_cases hb : j = b
      · subst hb
        rw [if_pos rfl, if_pos rfl]
        by_cases hq : j < fl.length
        · rw [if_pos hq, if_pos hq]; rfl
        · rw [if_neg hq, if_neg hq]; rfl
      · rw [if_neg hb, if_neg hb]
    rw [e]
    rfl
  · rw [List.getElem?_set_ne (Ne.symm hi)]
    unfold me_ws
    rw [List.getElem?_mapIdx, List.getElem?_mapIdx, List.getElem?_set_ne (Ne.symm hi)]
theorem me_putF (hx : p.tables.exec = Jvm.exec) (hb : c.code = cc) {own C : String} {T : u_T} {N ci index : Nat} {Ts : List Cond} (hts : ∀ w ∈ Ts, w.before args s = true) (hin : ∀ w ∈ u_ws C T N, w ∈ Ts) {ty0 : Nat → FieldType} (hty : ∀ k, k < N → parseFieldDescriptor (T k).2.2.1 = some (ty0 k)) (hnm : ∀ a, a < N → ∀ b, b < N → a ≠ b → (T a).2.1 ≠ (T b).2.1) (hown : s.vm.findClass own = some m.cls) (hK : va_K D vwCl [(cI, .int)] s) (hI : me_inj ad L) (hA : ∀ k, k < L.length → A (ad k)) (hP : va_P D vwCl (me_ws cI ad L M) H) (hS : va_S A H0 H locs) {k q : Nat} {fl : List (Option (Option Nat))} (hL : L[k]? = some (.inr (ci, fl))) (hc : vwCl[ci]? = some (C, T, N)) (j : Nat) (hj : j < N) (hlink : (Cond.fieldLink own index (T j).1 (T j).2.1 (T j).2.2.1).before args s = true) (hfin : (T j).2.2.2 = true) (hin2 : meth.name = "<init>") (hdecl : (T j).1 = own) {ty : FieldType} (hd : ty0 j = ty) (hn : narrow ty (.ref (ad q)) = .ref (ad q)) (hfit : fits ty (.ref (ad q)) = true) (hl : j < fl.length) (hdg : decode cc pc = .ok (.putfield index, 3))
    (kk : ∀ (H1 : Heap) (locs1 : List Loc), va_P D vwCl (me_ws cI ad (L.set k (.inr (ci, fl.set j (some (some q))))) M) H1 → va_S A H0 H1 locs1 → W p l e R s m args below meth c H1 locs1 cells slots Q (F0 m (pc + 3) ls rest)) : W p l e R s m args below meth c H locs cells slots Q (F0 m pc ls (.ref (ad q) :: .ref (ad k) :: rest)) :=
  va_putF (ty := ty) hx hb hts hin ty0 hty hnm hown hK hP (me_vaD hI hA) hS k (me_atO hL) hc j hj hlink (fun _ h => h) hfin hin2 hdecl (by rw [hty j hj, hd]) hn hfit (by rw [List.length_mapIdx]; exact hl) hdg (fun H1 locs1 h1 _ h3 => kk H1 locs1 (by rw [me_setR hL] at h1; exact h1) h3)
/-- the cells lie one behind the other, from the base on -/
def bd (b k : Nat) : Nat := b + k
def bA (b : Nat) : Nat → Prop := fun q => b ≤ q
theorem bd_inj {b : Nat} : me_inj (bd b) L := fun i j _ _ h => Nat.add_left_cancel h
theorem bd_A {b : Nat} : ∀ k, k < L.length → bA b (bd b k) := fun k _ => Nat.le_add_right b k
/-- how many cells there are, told by the machine's own count -/
theorem me_sz {b : Nat} {g : JFrame} (hP : va_P D vwCl (me_ws cI (bd b) L M) H) (hS : va_S A s.heap H locs) (hb : b ≤ s.heap.size) (hcnt : s.heap.size + cells = b + L.length) (kk : H.size = bd b L.length → W p l e R s m args below meth c H locs cells slots Q g) : W p l e R s m args below meth c H locs cells slots Q g := by
  intro T hT X
  refine kk ?_ T hT X
  have h1 : T.heap.size ≤ s.heap.size + cells := X.same.2.2.1
  rw [hT] at h1
  have h2 : b + L.length ≤ H.size := by
    cases hl : L.length with
    | zero => exact Nat.le_trans hb hS.1
    | succ n =>
      obtain ⟨d, hd⟩ : ∃ d, L[n]? = some d := ⟨L[n]'(by omega), List.getElem?_eq_getElem _⟩
      have := (hP n _ (me_at hd)).lt
      unfold bd at this
      dsimp only at this
      omega
  unfold bd
  omega
def mk_Pre (b : Nat) (D : va_G) (cI : ClassId) (L : List CDs) (M : Mem) : State → Prop := fun U => U.heap.size = b + L.length ∧ va_P D vwCl (me_ws cI (bd b) L M) U.heap ∧ va_K D vwCl [(cI, .int)] U
def mk_Post (b : Nat) (D : va_G) (cI : ClassId) (ans : Option Value) (L' : List CDs) (M' : Mem) : Array Value → State → Outcome → State → Prop := fun _ st oc t => (oc = .returned ans ∧ va_P D vwCl (me_ws cI (bd b) L' M') t.heap) ∧ va_F (bA b) st t
def mk_Met (l : Launch) (y : MethodName) (ws : List Cond) (rm : Room) (D : va_G) (cI : ClassId) (b : Nat) (av : List Value) (ans : Option Value) (L L' : List CDs) (M M' : Mem) (mc ms : Nat) : Prop :=
  Met l y ws rm (va_Pc av (mk_Pre b D cI L M)) (mk_Post b D cI ans L' M') mc ms (bA b)
theorem mk_blind {b : Nat} {av : List Value} : FrameBlind (va_Pc av (mk_Pre b D cI L M)) :=
  fun a U g mk q => ⟨q.1, q.2.1, q.2.2.1, va_K.moved (u := U) (U := U.calling g mk a) (Vm.Alike.refl U.vm) q.2.2.2⟩
end MAKE
