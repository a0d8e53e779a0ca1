/-! ===== THE WORLD AS ONE MEMORY: cell k of the layout L lies at the address ad k; its ints by cell and place ===== -/
abbrev Mem : Type := Nat → Nat → Int32
/-- a cell's kind: an int array of n, or an object of the class ci with its fields: none an int, some none null, some (some p) the cell p -/
abbrev CDs : Type := Nat ⊕ (Nat × List (Option (Option Nat)))
def me_fld (ad : Nat → Nat) (f : Nat → Int32) (j : Nat) (o : Option (Option Nat)) : Value := match o with
  | none => .int (f j)
  | some none => .null
  | some (some p) => .ref (ad p)
def me_ent (cI : ClassId) (ad : Nat → Nat) (d : CDs) (f : Nat → Int32) : va_E := match d with
  | .inl n => .inl (cI, n, .inl f)
  | .inr o => .inr (o.1, o.2.mapIdx (fun j x => me_fld ad f j x))
def me_ws (cI : ClassId) (ad : Nat → Nat) (L : List CDs) (M : Mem) : va_W := L.mapIdx (fun k d => (ad k, me_ent cI ad d (M k)))
def me_row (M : Mem) (k : Nat) (f : Nat → Int32) : Mem := fun a => if a = k then f else M a
def me_upd (M : Mem) (k j : Nat) (x : Int32) : Mem := me_row M k (upd (M k) j x)
def me_inj (ad : Nat → Nat) (L : List CDs) : Prop := ∀ i j : Nat, i < L.length → j < L.length → ad i = ad j → i = j
def me_A (ad : Nat → Nat) (L : List CDs) (sz : Nat) : Nat → Prop := fun q => (∃ k : Nat, k < L.length ∧ q = ad k) ∨ sz ≤ q
theorem me_at {cI : ClassId} {ad : Nat → Nat} {L : List CDs} {M : Mem} {k : Nat} {d : CDs} (h : L[k]? = some d) : (me_ws cI ad L M)[k]? = some (ad k, me_ent cI ad d (M k)) := by
  simp [me_ws, h]
theorem me_atA {cI : ClassId} {ad : Nat → Nat} {L : List CDs} {M : Mem} {k n : Nat} (h : L[k]? = some (.inl n)) : (me_ws cI ad L M)[k]? = some (ad k, .inl (cI, n, .inl (M k))) := me_at h
theorem me_atO {cI : ClassId} {ad : Nat → Nat} {L : List CDs} {M : Mem} {k ci : Nat} {fs : List (Option (Option Nat))} (h : L[k]? = some (.inr (ci, fs))) : (me_ws cI ad L M)[k]? = some (ad k, .inr (ci, fs.mapIdx (fun j x => me_fld ad (M k) j x))) := me_at h
theorem me_lt {L : List CDs} {k : Nat} {d : CDs} (h : L[k]? = some d) : k < L.length := (List.getElem?_eq_some_iff.mp h).1
theorem me_vaD {cI : ClassId} {ad : Nat → Nat} {L : List CDs} {M : Mem} {A : Nat → Prop} (hI : me_inj ad L) (hA : ∀ k, k < L.length → A (ad k)) : va_D A (me_ws cI ad L M) := by
  have key : ∀ (k : Nat) (q : Nat × va_E), (me_ws cI ad L M)[k]? = some q → k < L.length ∧ q.1 = ad k := by
    intro k q h
    unfold me_ws at h
    rw [List.getElem?_mapIdx] at h
    cases hd : L[k]? with
    | none => rw [hd] at h; cases h
    | some d => rw [hd] at h; cases h; exact ⟨me_lt hd, rfl⟩
  refine ⟨fun i j p q hi hj h => ?_, fun k q h => ?_⟩
  · obtain ⟨a1, a2⟩ := key i p hi
    obtain ⟨b1, b2⟩ := key j q hj
    exact hI i j a1 b1 (a2.symm.trans (h.trans b2))
  · obtain ⟨a1, a2⟩ := key k q h
    rw [a2]
    exact hA k a1
theorem me_vaDA {cI : ClassId} {ad : Nat → Nat} {L : List CDs} {M : Mem} {sz : Nat} (hI : me_inj ad L) : va_D (me_A ad L sz) (me_ws cI ad L M) := me_vaD hI (fun k h => Or.inl ⟨k, h, rfl⟩)
theorem me_setA {cI : ClassId} {ad : Nat → Nat} {L : List CDs} {M : Mem} {k n : Nat} (h : L[k]? = some (.inl n)) (f : Nat → Int32) : (me_ws cI ad L M).set k (ad k, .inl (cI, n, .inl f)) = me_ws cI ad L (me_row M k f) := by
  apply List.ext_getElem?
  intro i
  by_cases hi : i = k
  · subst hi
    rw [List.getElem?_set_self (by rw [me_ws, List.length_mapIdx]; exact me_lt h), me_at h]
    simp [me_ent, me_row]
  · rw [List.getElem?_set_ne (Ne.symm hi)]
    simp [me_ws, me_row, hi]
theorem me_setF {cI : ClassId} {ad : Nat → Nat} {L : List CDs} {M : Mem} {k ci j : Nat} {fs : List (Option (Option Nat))} (h : L[k]? = some (.inr (ci, fs))) (hj : fs[j]? = some none) (x : Int32) : (me_ws cI ad L M).set k (ad k, .inr (ci, (fs.mapIdx (fun j x => me_fld ad (M k) j x)).set j (.int x))) = me_ws cI ad L (me_upd M k j x) := by
  apply List.ext_getElem?
  intro i
  by_cases hi : i = k
  · subst hi
    rw [List.getElem?_set_self (by rw [me_ws, List.length_mapIdx]; exact me_lt h), me_at h]
    have e : (fs.mapIdx (fun j x => me_fld ad (M i) j x)).set j (.int x) = fs.mapIdx (fun b y => me_fld ad (me_upd M i j x i) b y) := by
      apply List.ext_getElem?
      intro b
      by_cases hb : b = j
      · subst hb
        rw [List.getElem?_set_self (by rw [List.length_mapIdx]; exact (List.getElem?_eq_some_iff.mp hj).1), List.getElem?_mapIdx, hj]
        simp [me_fld, me_upd, me_row, upd]
      · rw [List.getElem?_set_ne (Ne.symm hb), List.getElem?_mapIdx, List.getElem?_mapIdx]
        have hv : ∀ o : Option (Option Nat), me_fld ad (M i) b o = me_fld ad (me_upd M i j x i) b o := by
          intro o
          match o with
          | none => simp [me_fld, me_upd, me_row, upd, hb]
          | some none => rfl
          | some (some p) => rfl
        simp only [hv]
    rw [e]
    rfl
  · rw [List.getElem?_set_ne (Ne.symm hi)]
    simp [me_ws, me_upd, me_row, hi]
/-- a method's start: the world is M; its end: the answer, the world M' -/
def me_Pre (D : va_G) (cI : ClassId) (ad : Nat → Nat) (L : List CDs) (M : Mem) (sz : Nat) : State → Prop := fun U => U.heap.size = sz ∧ va_P D vwCl (me_ws cI ad L M) U.heap ∧ va_K D vwCl [(cI, .int)] U ∧ me_inj ad L
def me_Post (D : va_G) (cI : ClassId) (ad : Nat → Nat) (L : List CDs) (ans : Option Value) (M' : Mem) (A : Nat → Prop) : Array Value → State → Outcome → State → Prop := fun _ st oc t => (oc = .returned ans ∧ va_P D vwCl (me_ws cI ad L M') t.heap) ∧ va_F A st t
def me_Met (l : Launch) (y : MethodName) (ws : List Cond) (rm : Room) (D : va_G) (cI : ClassId) (ad : Nat → Nat) (L : List CDs) (av : List Value) (ans : Option Value) (M M' : Mem) : Prop :=
  ∀ sz : Nat, Met l y ws rm (va_Pc av (me_Pre D cI ad L M sz)) (me_Post D cI ad L ans M' (me_A ad L sz)) 0 0 (me_A ad L sz)
theorem me_blind {D : va_G} {cI : ClassId} {ad : Nat → Nat} {L : List CDs} {M : Mem} {sz : Nat} {av : List Value} : FrameBlind (va_Pc av (me_Pre D cI ad L M sz)) :=
  fun a U g mk q => ⟨q.1, q.2.1, q.2.2.1, va_K.moved (u := U) (U := U.calling g mk a) (Vm.Alike.refl U.vm) q.2.2.2.1, q.2.2.2.2⟩
/-- what stands in a method's body: the machine, its code, its words, the classes' numbers, the cells apart -/
def me_X (p : Program) (s : State) (m : MethodId) (args : Array Value) (meth : Method) (c : Code) (cc : ByteArray) (nL : Nat) (ret : Option FieldType) (Ts : List Cond) (own : String) (D : va_G) (cI : ClassId) (ad : Nat → Nat) (L : List CDs) : Prop :=
  p.tables.exec = Jvm.exec ∧ c.code = cc ∧ meth.sig.returnType = ret ∧ c.maxLocals = nL ∧ s.vm.findClass own = some m.cls ∧ (∀ w ∈ Ts, w.before args s = true) ∧ meth.locks = false ∧ va_K D vwCl [(cI, .int)] s ∧ me_inj ad L
def me_W (p : Program) (l : Launch) (e : Env) (R : Room) (s : State) (m : MethodId) (args : Array Value) (below : List Frame) (meth : Method) (c : Code) (D : va_G) (cI : ClassId) (ad : Nat → Nat) (L : List CDs) (ans : Option Value) (M' : Mem) (nL pc : Nat) (lv : List (Nat × Value)) (stk : List Value) (M : Mem) : Prop :=
  ∀ (H : Heap) (locs : List Loc) (ls : Array Slot), va_P D vwCl (me_ws cI ad L M) H → va_S (me_A ad L s.heap.size) s.heap H locs → lv_has ls nL lv → W p l e R s m args below meth c H locs 0 0 (MQ below (me_Post D cI ad L ans M' (me_A ad L s.heap.size)) args s 0 0 (me_A ad L s.heap.size)) (F0 m pc ls stk)
theorem me_ofW {l : Launch} {y : MethodName} {ws ws' : List Cond} {rm : Room} {D : va_G} {cI : ClassId} {ad : Nat → Nat} {L : List CDs} {av : List Value} {ans : Option Value} {M M' : Mem} {cc : ByteArray} {maxL : Nat} {ret : Option FieldType}
    (hy : plainName y.cls = true) (hw : ws = Cond.code y cc maxL ret :: ws') (hn : (lg_sl av).length ≤ maxL)
    (body : ∀ (p : Program) (e : Env) (s : State) (m : MethodId) (below : List Frame) (meth : Method) (c : Code), me_X p s m av.toArray meth c cc maxL ret ws y.cls D cI ad L → me_W p l e rm s m av.toArray below meth c D cI ad L ans M' maxL 0 (lv_args 0 av) [] M) :
    me_Met l y ws rm D cI ad L av ans M M' := by
  intro sz
  refine Met.ofW (cc := cc) (maxL := maxL) (ret := ret) hy hw ?_
  intro p e s m args below meth c s₁ B hml hv
  obtain ⟨rfl, hsz, hP, hK, hI⟩ := hv
  subst hsz
  rw [lg_entry_eq]
  exact body p e s m below meth c ⟨B.exec, B.bytes, B.returns, hml, findClass_of_methodNamed B.named, atoms_spec (ws := ws) B.pre, B.notSynchronized, hK, hI⟩ _ _ _ hP va_S.rf (lv_entry av hn)
section MER
variable {p : Program} {l : Launch} {e : Env} {R : Room} {s : State} {m : MethodId} {args : Array Value} {below : List Frame} {meth : Method} {c : Code} {H : Heap} {locs : List Loc} {cells slots : Nat} {Q : State → Prop}
variable {cc : ByteArray} {pc : Nat} {ls : Array Slot} {rest : List Value} {D : va_G} {cI : ClassId} {ad : Nat → Nat} {L : List CDs} {M : Mem} {H0 : Heap} {sz : Nat}
theorem me_ald (hx : p.tables.exec = Jvm.exec) (hb : c.code = cc) (hK : va_K D vwCl [(cI, .int)] s) (hP : va_P D vwCl (me_ws cI ad L M) H) {k n : Nat} (hL : L[k]? = some (.inl n)) {i : Int32} (hin : vp_in i n) (hdg : decode cc pc = .ok (.iaload, 1))
    (kk : ∀ v : Int32, v = M k i.toNatClampNeg → W p l e R s m args below meth c H locs cells slots Q (F0 m (pc + 1) ls (.int v :: rest))) : W p l e R s m args below meth c H locs cells slots Q (F0 m pc ls (.int i :: .ref (ad k) :: rest)) :=
  va_iald hx hb hK hP k 0 (me_atA hL) rfl hin hdg (kk _ rfl)
theorem me_ast (hx : p.tables.exec = Jvm.exec) (hb : c.code = cc) (hK : va_K D vwCl [(cI, .int)] s) (hI : me_inj ad L) (hP : va_P D vwCl (me_ws cI ad L M) H) (hS : va_S (me_A ad L sz) H0 H locs) {k n : Nat} (hL : L[k]? = some (.inl n)) {i x : Int32} (hin : vp_in i n) (hdg : decode cc pc = .ok (.iastore, 1))
    (kk : ∀ (H1 : Heap) (locs1 : List Loc) (M1 : Mem), M1 = me_upd M k i.toNatClampNeg x → va_P D vwCl (me_ws cI ad L M1) H1 → va_S (me_A ad L sz) H0 H1 locs1 → W p l e R s m args below meth c H1 locs1 cells slots Q (F0 m (pc + 1) ls rest)) : W p l e R s m args below meth c H locs cells slots Q (F0 m pc ls (.int x :: .int i :: .ref (ad k) :: rest)) :=
  va_iast hx hb hK hP (me_vaDA hI) hS k 0 (me_atA hL) rfl hin hdg (fun H1 locs1 h1 _ h3 => kk H1 locs1 _ rfl (by rw [me_setA hL] at h1; exact h1) h3)
theorem me_alen (hx : p.tables.exec = Jvm.exec) (hb : c.code = cc) (hK : va_K D vwCl [(cI, .int)] s) (hP : va_P D vwCl (me_ws cI ad L M) H) {k n : Nat} (hL : L[k]? = some (.inl n)) (hdg : decode cc pc = .ok (.arraylength, 1))
    (kk : W p l e R s m args below meth c H locs cells slots Q (F0 m (pc + 1) ls (.int n.toInt32 :: rest))) : W p l e R s m args below meth c H locs cells slots Q (F0 m pc ls (.ref (ad k) :: rest)) :=
  W.alen (n := n.toInt32) hx hb (hP k _ (me_atA hL)) ((hK.2 0 _ rfl).1 n (fun j => .int (M k j))) (by show (arrV _ _ _).slots.size.toInt32 = _; rw [arrV_size]) rfl rfl hdg kk
theorem me_get (hx : p.tables.exec = Jvm.exec) (hb : c.code = cc) {own C : String} {T : u_T} {N ci index : Nat} {Ts : List Cond} (hts : ∀ w ∈ Ts, w.before args s = true) (hin : ∀ w ∈ u_ws C T N, w ∈ Ts) (hown : s.vm.findClass own = some m.cls) (hK : va_K D vwCl [(cI, .int)] s) (hP : va_P D vwCl (me_ws cI ad L M) H) {k : Nat} {fs : List (Option (Option Nat))} (hL : L[k]? = some (.inr (ci, fs))) (hc : vwCl[ci]? = some (C, T, N)) (j : Nat) (hj : j < N) (hlink : (Cond.fieldLink own index (T j).1 (T j).2.1 (T j).2.2.1).before args s = true) (hf : fs[j]? = some none) (hdg : decode cc pc = .ok (.getfield index, 3))
    (kk : W p l e R s m args below meth c H locs cells slots Q (F0 m (pc + 3) ls (.int (M k j) :: rest))) : W p l e R s m args below meth c H locs cells slots Q (F0 m pc ls (.ref (ad k) :: rest)) :=
  va_get hx hb hts hin hown hK hP k (me_atO hL) hc j hj hlink (fun _ h => h) (by rw [List.getElem?_mapIdx, hf]; rfl) hdg kk
theorem me_getr (hx : p.tables.exec = Jvm.exec) (hb : c.code = cc) {own C : String} {T : u_T} {N ci index : Nat} {Ts : List Cond} (hts : ∀ w ∈ Ts, w.before args s = true) (hin : ∀ w ∈ u_ws C T N, w ∈ Ts) (hown : s.vm.findClass own = some m.cls) (hK : va_K D vwCl [(cI, .int)] s) (hP : va_P D vwCl (me_ws cI ad L M) H) {k q : Nat} {fs : List (Option (Option Nat))} (hL : L[k]? = some (.inr (ci, fs))) (hc : vwCl[ci]? = some (C, T, N)) (j : Nat) (hj : j < N) (hlink : (Cond.fieldLink own index (T j).1 (T j).2.1 (T j).2.2.1).before args s = true) (hf : fs[j]? = some (some (some q))) (hdg : decode cc pc = .ok (.getfield index, 3))
    (kk : W p l e R s m args below meth c H locs cells slots Q (F0 m (pc + 3) ls (.ref (ad q) :: rest))) : W p l e R s m args below meth c H locs cells slots Q (F0 m pc ls (.ref (ad k) :: rest)) :=
  va_get hx hb hts hin hown hK hP k (me_atO hL) hc j hj hlink (fun _ h => h) (by rw [List.getElem?_mapIdx, hf]; rfl) hdg kk
theorem me_put (hx : p.tables.exec = Jvm.exec) (hb : c.code = cc) {own C : String} {T : u_T} {N ci index : Nat} {Ts : List Cond} (hts : ∀ w ∈ Ts, w.before args s = true) (hin : ∀ w ∈ u_ws C T N, w ∈ Ts) {ty0 : Nat → FieldType} (hty : ∀ k, k < N → parseFieldDescriptor (T k).2.2.1 = some (ty0 k)) (hnm : ∀ a, a < N → ∀ b, b < N → a ≠ b → (T a).2.1 ≠ (T b).2.1) (hown : s.vm.findClass own = some m.cls) (hK : va_K D vwCl [(cI, .int)] s) (hI : me_inj ad L) (hP : va_P D vwCl (me_ws cI ad L M) H) (hS : va_S (me_A ad L sz) H0 H locs) {k : Nat} {fs : List (Option (Option Nat))} (hL : L[k]? = some (.inr (ci, fs))) (hc : vwCl[ci]? = some (C, T, N)) (j : Nat) (hj : j < N) (hlink : (Cond.fieldLink own index (T j).1 (T j).2.1 (T j).2.2.1).before args s = true) (hfin : (T j).2.2.2 = false) (hd : ty0 j = .int) (hf : fs[j]? = some none) {x : Int32} (hdg : decode cc pc = .ok (.putfield index, 3))
    (kk : ∀ (H1 : Heap) (locs1 : List Loc) (M1 : Mem), M1 = me_upd M k j x → va_P D vwCl (me_ws cI ad L M1) H1 → va_S (me_A ad L sz) H0 H1 locs1 → W p l e R s m args below meth c H1 locs1 cells slots Q (F0 m (pc + 3) ls rest)) : W p l e R s m args below meth c H locs cells slots Q (F0 m pc ls (.int x :: .ref (ad k) :: rest)) :=
  va_put (ty := .int) hx hb hts hin ty0 hty hnm hown hK hP (me_vaDA hI) hS k (me_atO hL) hc j hj hlink (fun _ h => h) hfin (by rw [hty j hj, hd]) rfl rfl (by rw [List.length_mapIdx]; exact (List.getElem?_eq_some_iff.mp hf).1) hdg (fun H1 locs1 h1 _ h3 => kk H1 locs1 _ rfl (by rw [me_setF hL hf] at h1; exact h1) h3)
theorem me_cpy (hx : p.tables.exec = Jvm.exec) (hb : c.code = cc) (hml : c.maxLocals = ls.size) {own : String} {index : Nat} (hown : s.vm.findClass own = some m.cls) (hlink : (Cond.methodLink own index arraycopyName).before args s = true) (hnat : (Cond.native arraycopyName).before args s = true) (hstat : (Cond.static arraycopyName).before args s = true) (hini : (Cond.initialized "java/lang/System").before args s = true)
    (hK : va_K D vwCl [(cI, .int)] s) (hI : me_inj ad L) (hP : va_P D vwCl (me_ws cI ad L M) H) (hS : va_S (me_A ad L sz) H0 H locs) {k0 n0 k1 n1 : Nat} (hL0 : L[k0]? = some (.inl n0)) (hL1 : L[k1]? = some (.inl n1)) {sp dp n : Int32} (hin : ¬ (sp < 0 ∨ dp < 0 ∨ n < 0 ∨ n0 < sp.toNatClampNeg + n.toNatClampNeg ∨ n1 < dp.toNatClampNeg + n.toNatClampNeg))
    (hframes : 1 ≤ R.frames) (hlocals : (rest.map fun v => v.category).sum + (nativeFrameWords "java/lang/System" "arraycopy" 5 + 11) ≤ R.locals) (hdg : decode cc pc = .ok (.invokestatic index, 3))
    (kk : ∀ (H1 : Heap) (locs1 : List Loc) (M1 : Mem), M1 = me_row M k1 (va_cpy (M k0) (M k1) sp.toNatClampNeg dp.toNatClampNeg n.toNatClampNeg) → va_P D vwCl (me_ws cI ad L M1) H1 → va_S (me_A ad L sz) H0 H1 locs1 → W p l e R s m args below meth c H1 locs1 cells slots Q (F0 m (pc + 3) ls rest)) : W p l e R s m args below meth c H locs cells slots Q (F0 m pc ls (.int n :: .int dp :: .ref (ad k1) :: .int sp :: .ref (ad k0) :: rest)) := by
  simp only [not_or, Nat.not_lt] at hin
  obtain ⟨h1, h2, h3, h4, h5⟩ := hin
  exact va_copyi hx hb hml hown hlink hnat hstat hini hK hP (me_vaDA hI) hS k0 k1 0 0 (me_atA hL0) (me_atA hL1) rfl rfl rfl h1 h2 h3 h4 h5 (fun _ _ => rfl) hframes hlocals hdg (fun H1 locs1 h1 _ h3 => kk H1 locs1 _ rfl (by rw [me_setA hL1] at h1; exact h1) h3)
/-- a call's way on -/
theorem me_run {g : JFrame} {ans : Option Value} {M' : Mem} {st0 : List Value} {a : Array Value} (hr : va_Run p l e R s m args below meth c H locs cells slots 0 0 (F0 m pc ls st0) rest (me_Post D cI ad L ans M' (me_A ad L H.size) a) (me_A ad L H.size)) (hS : va_S (me_A ad L sz) H0 H locs) (hsz : H0.size = sz)
    (kk : ∀ (H1 : Heap) (locs1 : List Loc), va_P D vwCl (me_ws cI ad L M') H1 → va_S (me_A ad L sz) H0 H1 locs1 → W p l e R s m args below meth c H1 locs1 cells slots Q (F0 m (pc + 3) ls (ans.toList ++ rest))) : W p l e R s m args below meth c H locs cells slots Q (F0 m pc ls st0) := by
  have up : ∀ q, me_A ad L H.size q → me_A ad L sz q := fun q h => by
    rcases h with h | h
    · exact Or.inl h
    · exact Or.inr (by rw [← hsz]; exact Nat.le_trans hS.1 h)
  intro T hT X
  obtain ⟨v, st₀, t, T', L1, h0, X', hL, e1, e2, ⟨⟨hv, hp⟩, hz, hk⟩, st⟩ := hr T hT X
  cases hv
  rw [h0] at hz hk
  rw [← e1] at hz hk hp
  obtain ⟨t2, a1, b1⟩ := kk T'.heap (locs ++ L1) hp
    ⟨Nat.le_trans hS.1 hz, fun q h1 h2 => by rw [hk q (Nat.lt_of_lt_of_le h1 hS.1) (fun z => h2 (up q z))]; exact hS.2.1 q h1 h2, fun q hq => by
      rcases List.mem_append.mp hq with h | h
      · exact hS.2.2 q h
      · exact up _ (hL q h)⟩ T' rfl X'
  exact ⟨t2, st t2 a1, b1⟩
variable {y : MethodName} {bytes : ByteArray} {maxL nL n index : Nat} {ret : Option FieldType} {ws Ts : List Cond} {rm : Room} {own C : String} {As : List Value} {M' : Mem} {ans : Option Value}
theorem me_callV (S : CallFix p m c cc nL s args Ts own) {k ci : Nat} {fs : List (Option (Option Nat))} {T : u_T} {N : Nat} (hM : me_Met l y ws rm D cI ad L (.ref (ad k) :: As) ans M M') (cw : CallW R s args own C index y bytes maxL ret ws rm 0 0 n)
    (hK : va_K D vwCl [(cI, .int)] s) (hI : me_inj ad L) (hP : va_P D vwCl (me_ws cI ad L M) H) (hS : va_S (me_A ad L s.heap.size) s.heap H locs) (hL : L[k]? = some (.inr (ci, fs))) (hc : vwCl[ci]? = some (C, T, N)) (hn : As.length = n) (hsize : ls.size = nL) {st0 : List Value} (hst : st0 = As.reverse ++ .ref (ad k) :: rest) (hW : (rest.map fun v => v.category).sum ≤ 8) (hdg : decode cc pc = .ok (.invokevirtual index, 3)) (hf : cells ≤ R.cells ∧ slots ≤ R.slots)
    (kk : ∀ (H1 : Heap) (locs1 : List Loc), va_P D vwCl (me_ws cI ad L M') H1 → va_S (me_A ad L s.heap.size) s.heap H1 locs1 → W p l e R s m args below meth c H1 locs1 cells slots Q (F0 m (pc + 3) ls (ans.toList ++ rest))) : W p l e R s m args below meth c H locs cells slots Q (F0 m pc ls st0) :=
  me_run (g := F0 m pc ls st0) (va_runV S (hM H.size) cw ⟨me_blind, va_recv hK hP hc (me_atO hL), fun U hU hW => ⟨rfl, by rw [hU], by rw [hU]; exact hP, va_K.moved hW.alike hK, hI⟩⟩ rfl hn hsize hst (lv_room hW) hdg hf) hS rfl kk
theorem me_callS (S : CallFix p m c cc nL s args Ts own) (hM : me_Met l y ws rm D cI ad L As ans M M') (cw : CallB R s args own index y bytes maxL ret ws rm 0 0 n ∧ (Cond.static y).before args s = true)
    (hK : va_K D vwCl [(cI, .int)] s) (hI : me_inj ad L) (hP : va_P D vwCl (me_ws cI ad L M) H) (hS : va_S (me_A ad L s.heap.size) s.heap H locs) (hn : As.length = n) (hsize : ls.size = nL) {st0 : List Value} (hst : st0 = As.reverse ++ rest) (hW : (rest.map fun v => v.category).sum ≤ 8) (hdg : decode cc pc = .ok (.invokestatic index, 3)) (hf : cells ≤ R.cells ∧ slots ≤ R.slots)
    (kk : ∀ (H1 : Heap) (locs1 : List Loc), va_P D vwCl (me_ws cI ad L M') H1 → va_S (me_A ad L s.heap.size) s.heap H1 locs1 → W p l e R s m args below meth c H1 locs1 cells slots Q (F0 m (pc + 3) ls (ans.toList ++ rest))) : W p l e R s m args below meth c H locs cells slots Q (F0 m pc ls st0) :=
  me_run (g := F0 m pc ls st0) (va_runS S (hM H.size) cw ⟨me_blind, fun U hU hW => ⟨rfl, by rw [hU], by rw [hU]; exact hP, va_K.moved hW.alike hK, hI⟩⟩ rfl hn hsize hst (lv_room hW) hdg hf) hS rfl kk
/-- the ends of a method -/
theorem me_iret {r x : Int32} {Mx : Mem} (hx : p.tables.exec = Jvm.exec) (hb : c.code = cc) (hr : meth.sig.returnType = some .int) (hlocks : meth.locks = false) (hP : va_P D vwCl (me_ws cI ad L M) H) (hS : va_S (me_A ad L s.heap.size) s.heap H locs) (hq : some (r, M) = some (x, Mx)) (hdg : decode cc pc = .ok (.ireturn, 1)) :
    W p l e R s m args below meth c H locs cells slots (MQ below (me_Post D cI ad L (some (.int x)) Mx (me_A ad L s.heap.size)) args s cells slots (me_A ad L s.heap.size)) (F0 m pc ls [.int r]) := by
  cases hq
  exact W.iret hx hb hr (fun t ht hW => ⟨⟨rfl, by rw [ht]; exact hP⟩, hS.F ht⟩) hS.2.2 hdg
theorem me_vret {u : Unit} {Mx : Mem} (hx : p.tables.exec = Jvm.exec) (hb : c.code = cc) (hr : meth.sig.returnType = none) (hlocks : meth.locks = false) (hP : va_P D vwCl (me_ws cI ad L M) H) (hS : va_S (me_A ad L s.heap.size) s.heap H locs) (hq : some ((), M) = some (u, Mx)) (hdg : decode cc pc = .ok (.return_, 1)) :
    W p l e R s m args below meth c H locs cells slots (MQ below (me_Post D cI ad L none Mx (me_A ad L s.heap.size)) args s cells slots (me_A ad L s.heap.size)) (F0 m pc ls []) := by
  cases hq
  exact W.vret hx hb hr (fun t ht hW => ⟨⟨rfl, by rw [ht]; exact hP⟩, hS.F ht⟩) hS.2.2 hdg
theorem me_aret {rt : FieldType} {k : Nat} {x : Nat} {Mx : Mem} (hx : p.tables.exec = Jvm.exec) (hb : c.code = cc) (hr : meth.sig.returnType = some rt) (hrt : (∃ n, rt = .object n) ∨ ∃ t, rt = .array t) (hlocks : meth.locks = false) (hP : va_P D vwCl (me_ws cI ad L M) H) (hS : va_S (me_A ad L s.heap.size) s.heap H locs) (hq : some (k, M) = some (x, Mx)) (hdg : decode cc pc = .ok (.areturn, 1)) :
    W p l e R s m args below meth c H locs cells slots (MQ below (me_Post D cI ad L (some (.ref (ad x))) Mx (me_A ad L s.heap.size)) args s cells slots (me_A ad L s.heap.size)) (F0 m pc ls [.ref (ad k)]) := by
  cases hq
  exact W.aret hx hb hr hrt (Or.inr ⟨_, rfl⟩) (fun t ht hW => ⟨⟨rfl, by rw [ht]; exact hP⟩, hS.F ht⟩) hS.2.2 hdg
end MER
/-! ===== the pure programs' pieces ===== -/
def s_ald {β : Type} (M : Mem) (k n : Nat) (i : Int32) (c : Int32 → Option β) : Option β := if i < 0 ∨ n ≤ i.toNatClampNeg then none else c (M k i.toNatClampNeg)
def s_ast {β : Type} (M : Mem) (k n : Nat) (i x : Int32) (c : Mem → Option β) : Option β := if i < 0 ∨ n ≤ i.toNatClampNeg then none else c (me_upd M k i.toNatClampNeg x)
def s_put {β : Type} (M : Mem) (k j : Nat) (x : Int32) (c : Mem → Option β) : Option β := c (me_upd M k j x)
def s_let {β : Type} (x : Int32) (c : Int32 → Option β) : Option β := c x
def s_letl {β : Type} (x : Int64) (c : Int64 → Option β) : Option β := c x
def s_call {α β : Type} (r : Option (α × Mem)) (c : α → Mem → Option β) : Option β := match r with
  | none => none
  | some q => c q.1 q.2
def s_div {β : Type} (x y : Int32) (c : Int32 → Option β) : Option β := if y = 0 then none else c (x / y)
def s_rem {β : Type} (x y : Int32) (c : Int32 → Option β) : Option β := if y = 0 then none else c (x - x / y * y)
def s_reml {β : Type} (x y : Int64) (c : Int64 → Option β) : Option β := if y = 0 then none else c (x - x / y * y)
def s_cpy {β : Type} (M : Mem) (k0 n0 : Nat) (sp : Int32) (k1 n1 : Nat) (dp n : Int32) (c : Mem → Option β) : Option β := if sp < 0 ∨ dp < 0 ∨ n < 0 ∨ n0 < sp.toNatClampNeg + n.toNatClampNeg ∨ n1 < dp.toNatClampNeg + n.toNatClampNeg then none else c (me_row M k1 (va_cpy (M k0) (M k1) sp.toNatClampNeg dp.toNatClampNeg n.toNatClampNeg))
theorem s_ald_inv {β : Type} {M : Mem} {k n : Nat} {i : Int32} {c : Int32 → Option β} {r : β} (h : s_ald M k n i c = some r) : vp_in i n ∧ ∀ v : Int32, v = M k i.toNatClampNeg → c v = some r := by
  unfold s_ald at h
  split at h
  · cases h
  · next hi => exact ⟨hi, fun v hv => by rw [hv]; exact h⟩
theorem s_ast_inv {β : Type} {M : Mem} {k n : Nat} {i x : Int32} {c : Mem → Option β} {r : β} (h : s_ast M k n i x c = some r) : vp_in i n ∧ ∀ M1 : Mem, M1 = me_upd M k i.toNatClampNeg x → c M1 = some r := by
  unfold s_ast at h
  split at h
  · cases h
  · next hi => exact ⟨hi, fun v hv => by rw [hv]; exact h⟩
theorem s_call_inv {α β : Type} {q : Option (α × Mem)} {c : α → Mem → Option β} {r : β} (h : s_call q c = some r) : ∃ (v : α) (M1 : Mem), q = some (v, M1) ∧ c v M1 = some r := by
  cases q with
  | none => cases h
  | some z => exact ⟨z.1, z.2, rfl, h⟩
theorem s_let_inv {β : Type} {x : Int32} {c : Int32 → Option β} {r : β} (h : s_let x c = some r) : ∀ v : Int32, v = x → c v = some r := fun v hv => by rw [hv]; exact h
theorem s_letl_inv {β : Type} {x : Int64} {c : Int64 → Option β} {r : β} (h : s_letl x c = some r) : ∀ v : Int64, v = x → c v = some r := fun v hv => by rw [hv]; exact h
theorem s_div_inv {β : Type} {x y : Int32} {c : Int32 → Option β} {r : β} (h : s_div x y c = some r) : ¬ y = 0 ∧ ∀ v : Int32, v = x / y → c v = some r := by
  unfold s_div at h
  split at h
  · cases h
  · next hi => exact ⟨hi, fun v hv => by rw [hv]; exact h⟩
theorem s_rem_inv {β : Type} {x y : Int32} {c : Int32 → Option β} {r : β} (h : s_rem x y c = some r) : ¬ y = 0 ∧ ∀ v : Int32, v = x - x / y * y → c v = some r := by
  unfold s_rem at h
  split at h
  · cases h
  · next hi => exact ⟨hi, fun v hv => by rw [hv]; exact h⟩
theorem s_reml_inv {β : Type} {x y : Int64} {c : Int64 → Option β} {r : β} (h : s_reml x y c = some r) : ¬ y = 0 ∧ ∀ v : Int64, v = x - x / y * y → c v = some r := by
  unfold s_reml at h
  split at h
  · cases h
  · next hi => exact ⟨hi, fun v hv => by rw [hv]; exact h⟩
theorem s_cpy_inv {β : Type} {M : Mem} {k0 n0 k1 n1 : Nat} {sp dp n : Int32} {c : Mem → Option β} {r : β} (h : s_cpy M k0 n0 sp k1 n1 dp n c = some r) : ¬ (sp < 0 ∨ dp < 0 ∨ n < 0 ∨ n0 < sp.toNatClampNeg + n.toNatClampNeg ∨ n1 < dp.toNatClampNeg + n.toNatClampNeg) ∧ ∀ M1 : Mem, M1 = me_row M k1 (va_cpy (M k0) (M k1) sp.toNatClampNeg dp.toNatClampNeg n.toNatClampNeg) → c M1 = some r := by
  unfold s_cpy at h
  split at h
  · cases h
  · next hi => exact ⟨hi, fun v hv => by rw [hv]; exact h⟩
theorem s_put_inv {β : Type} {M : Mem} {k j : Nat} {x : Int32} {c : Mem → Option β} {r : β} (h : s_put M k j x c = some r) : ∀ M1 : Mem, M1 = me_upd M k j x → c M1 = some r := fun v hv => by rw [hv]; exact h
def s_retz (v : Int32) (M : Mem) : Option (Int32 × Mem) := if v = 0 ∨ v = 1 then some (v, M) else none
section MEZ
variable {p : Program} {l : Launch} {e : Env} {R : Room} {s : State} {m : MethodId} {args : Array Value} {below : List Frame} {meth : Method} {c : Code} {H : Heap} {locs : List Loc} {cells slots : Nat} {Q : State → Prop}
variable {cc : ByteArray} {pc : Nat} {ls : Array Slot} {rest : List Value} {D : va_G} {cI : ClassId} {ad : Nat → Nat} {L : List CDs} {M : Mem} {H0 : Heap} {sz : Nat}
theorem me_zret {r x : Int32} {Mx : Mem} (hx : p.tables.exec = Jvm.exec) (hb : c.code = cc) (hr : meth.sig.returnType = some .boolean) (hlocks : meth.locks = false) (hP : va_P D vwCl (me_ws cI ad L M) H) (hS : va_S (me_A ad L s.heap.size) s.heap H locs) (hq : s_retz r M = some (x, Mx)) (hdg : decode cc pc = .ok (.ireturn, 1)) :
    W p l e R s m args below meth c H locs cells slots (MQ below (me_Post D cI ad L (some (.int x)) Mx (me_A ad L s.heap.size)) args s cells slots (me_A ad L s.heap.size)) (F0 m pc ls [.int r]) := by
  unfold s_retz at hq
  split at hq
  · next hz =>
    cases hq
    exact W.zret hx hb hr (by rcases hz with rfl | rfl <;> rfl) (fun t ht hW => ⟨⟨rfl, by rw [ht]; exact hP⟩, hS.F ht⟩) hS.2.2 hdg
  · cases hq
variable {y : MethodName} {bytes : ByteArray} {maxL nL n index : Nat} {ret : Option FieldType} {ws Ts : List Cond} {rm : Room} {own C : String} {As : List Value} {M' : Mem}
theorem me_callVi {v : Value} (S : CallFix p m c cc nL s args Ts own) {k ci : Nat} {fs : List (Option (Option Nat))} {T : u_T} {N : Nat} (hM : me_Met l y ws rm D cI ad L (.ref (ad k) :: As) (some v) M M') (cw : CallW R s args own C index y bytes maxL ret ws rm 0 0 n)
    (hK : va_K D vwCl [(cI, .int)] s) (hI : me_inj ad L) (hP : va_P D vwCl (me_ws cI ad L M) H) (hS : va_S (me_A ad L s.heap.size) s.heap H locs) (hL : L[k]? = some (.inr (ci, fs))) (hc : vwCl[ci]? = some (C, T, N)) (hn : As.length = n) (hsize : ls.size = nL) {st0 : List Value} (hst : st0 = As.reverse ++ .ref (ad k) :: rest) (hW : (rest.map fun v => v.category).sum ≤ 8) (hdg : decode cc pc = .ok (.invokevirtual index, 3)) (hf : cells ≤ R.cells ∧ slots ≤ R.slots)
    (kk : ∀ (H1 : Heap) (locs1 : List Loc), va_P D vwCl (me_ws cI ad L M') H1 → va_S (me_A ad L s.heap.size) s.heap H1 locs1 → W p l e R s m args below meth c H1 locs1 cells slots Q (F0 m (pc + 3) ls (v :: rest))) : W p l e R s m args below meth c H locs cells slots Q (F0 m pc ls st0) := me_callV S hM cw hK hI hP hS hL hc hn hsize hst hW hdg hf kk
theorem me_callVv (S : CallFix p m c cc nL s args Ts own) {k ci : Nat} {fs : List (Option (Option Nat))} {T : u_T} {N : Nat} (hM : me_Met l y ws rm D cI ad L (.ref (ad k) :: As) none M M') (cw : CallW R s args own C index y bytes maxL ret ws rm 0 0 n)
    (hK : va_K D vwCl [(cI, .int)] s) (hI : me_inj ad L) (hP : va_P D vwCl (me_ws cI ad L M) H) (hS : va_S (me_A ad L s.heap.size) s.heap H locs) (hL : L[k]? = some (.inr (ci, fs))) (hc : vwCl[ci]? = some (C, T, N)) (hn : As.length = n) (hsize : ls.size = nL) {st0 : List Value} (hst : st0 = As.reverse ++ .ref (ad k) :: rest) (hW : (rest.map fun v => v.category).sum ≤ 8) (hdg : decode cc pc = .ok (.invokevirtual index, 3)) (hf : cells ≤ R.cells ∧ slots ≤ R.slots)
    (kk : ∀ (H1 : Heap) (locs1 : List Loc), va_P D vwCl (me_ws cI ad L M') H1 → va_S (me_A ad L s.heap.size) s.heap H1 locs1 → W p l e R s m args below meth c H1 locs1 cells slots Q (F0 m (pc + 3) ls rest)) : W p l e R s m args below meth c H locs cells slots Q (F0 m pc ls st0) := me_callV S hM cw hK hI hP hS hL hc hn hsize hst hW hdg hf kk
theorem me_callSi {v : Value} (S : CallFix p m c cc nL s args Ts own) (hM : me_Met l y ws rm D cI ad L As (some v) M M') (cw : CallB R s args own index y bytes maxL ret ws rm 0 0 n ∧ (Cond.static y).before args s = true)
    (hK : va_K D vwCl [(cI, .int)] s) (hI : me_inj ad L) (hP : va_P D vwCl (me_ws cI ad L M) H) (hS : va_S (me_A ad L s.heap.size) s.heap H locs) (hn : As.length = n) (hsize : ls.size = nL) {st0 : List Value} (hst : st0 = As.reverse ++ rest) (hW : (rest.map fun v => v.category).sum ≤ 8) (hdg : decode cc pc = .ok (.invokestatic index, 3)) (hf : cells ≤ R.cells ∧ slots ≤ R.slots)
    (kk : ∀ (H1 : Heap) (locs1 : List Loc), va_P D vwCl (me_ws cI ad L M') H1 → va_S (me_A ad L s.heap.size) s.heap H1 locs1 → W p l e R s m args below meth c H1 locs1 cells slots Q (F0 m (pc + 3) ls (v :: rest))) : W p l e R s m args below meth c H locs cells slots Q (F0 m pc ls st0) := me_callS S hM cw hK hI hP hS hn hsize hst hW hdg hf kk
theorem me_callSv (S : CallFix p m c cc nL s args Ts own) (hM : me_Met l y ws rm D cI ad L As none M M') (cw : CallB R s args own index y bytes maxL ret ws rm 0 0 n ∧ (Cond.static y).before args s = true)
    (hK : va_K D vwCl [(cI, .int)] s) (hI : me_inj ad L) (hP : va_P D vwCl (me_ws cI ad L M) H) (hS : va_S (me_A ad L s.heap.size) s.heap H locs) (hn : As.length = n) (hsize : ls.size = nL) {st0 : List Value} (hst : st0 = As.reverse ++ rest) (hW : (rest.map fun v => v.category).sum ≤ 8) (hdg : decode cc pc = .ok (.invokestatic index, 3)) (hf : cells ≤ R.cells ∧ slots ≤ R.slots)
    (kk : ∀ (H1 : Heap) (locs1 : List Loc), va_P D vwCl (me_ws cI ad L M') H1 → va_S (me_A ad L s.heap.size) s.heap H1 locs1 → W p l e R s m args below meth c H1 locs1 cells slots Q (F0 m (pc + 3) ls rest)) : W p l e R s m args below meth c H locs cells slots Q (F0 m pc ls st0) := me_callS S hM cw hK hI hP hS hn hsize hst hW hdg hf kk
end MEZ
