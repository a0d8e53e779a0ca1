/-! ===== numbers: the pure programs' pieces at nI ===== -/
theorem fa_and (a b : Nat) : nI a &&& nI b = nI (a &&& b) := by
  apply Int32.toBitVec_inj.1
  show BitVec.ofNat 32 a &&& BitVec.ofNat 32 b = BitVec.ofNat 32 (a &&& b)
  apply BitVec.eq_of_getLsbD_eq
  intro i hi
  simp [hi]
theorem fa_or (a b : Nat) : nI a ||| nI b = nI (a ||| b) := by
  apply Int32.toBitVec_inj.1
  show BitVec.ofNat 32 a ||| BitVec.ofNat 32 b = BitVec.ofNat 32 (a ||| b)
  apply BitVec.eq_of_getLsbD_eq
  intro i hi
  simp [hi]
theorem zz_sl : ∀ n, n < 32 → ((nI n &&& 31).toBitVec.smod 32).toNat = n := by decide +kernel
theorem zz_shr {a i : Nat} (ha : a < 2 ^ 31) (hi : i < 32) : nI a >>> (nI i &&& 31) = nI (a / 2 ^ i) := pk_shrN ha _ i (zz_sl i hi)
theorem zz_shl {i : Nat} (hi : i < 31) : (1 : Int32) <<< (nI i &&& 31) = nI (2 ^ i) := by
  have h := pk_shlN (n := 1) (nI i &&& 31) i (zz_sl i (by omega)) (by
    rw [Nat.one_mul]; exact Nat.pow_lt_pow_right (by decide) (by omega))
  rw [Nat.one_mul] at h
  exact h
theorem zz_bit {a i : Nat} (ha : a < 2 ^ 31) (hi : i < 32) : ((nI a >>> (nI i &&& 31)) &&& (1 : Int32)) = (1 : Int32) ↔ a.testBit i = true := by
  rw [zz_shr ha hi, show (1 : Int32) = nI 1 from rfl, fa_and, nI_eq (Nat.lt_of_le_of_lt Nat.and_le_right (by decide)) (by decide), Nat.and_one_is_mod, Nat.testBit_eq_decide_div_mod_eq, decide_eq_true_iff]
theorem zz_ald {β : Type} {M : Mem} {a n k : Nat} {c : Int32 → Option β} (h : k < n) (hn : n < 2 ^ 31) : s_ald M a n (nI k) c = c (M a k) := by
  unfold s_ald
  rw [if_neg (nI_in h hn), nI_clamp (Nat.lt_trans h hn)]
theorem zz_ast {β : Type} {M : Mem} {a n k : Nat} {x : Int32} {c : Mem → Option β} (h : k < n) (hn : n < 2 ^ 31) : s_ast M a n (nI k) x c = c (me_upd M a k x) := by
  unfold s_ast
  rw [if_neg (nI_in h hn), nI_clamp (Nat.lt_trans h hn)]
theorem zz_let {β : Type} {x : Int32} {c : Int32 → Option β} : s_let x c = c x := rfl
theorem zz_letl {β : Type} {x : Int64} {c : Int64 → Option β} : s_letl x c = c x := rfl
theorem zz_call {α β : Type} {v : α} {M : Mem} {c : α → Mem → Option β} : s_call (some (v, M)) c = c v M := rfl
theorem zz_put {β : Type} {M : Mem} {k j : Nat} {x : Int32} {c : Mem → Option β} : s_put M k j x c = c (me_upd M k j x) := rfl
theorem zz_rem {β : Type} {a b : Nat} {c : Int32 → Option β} (ha : a < 2 ^ 31) (h0 : 0 < b) (hb : b < 2 ^ 31) : s_rem (nI a) (nI b) c = c (nI (a % b)) := by
  unfold s_rem
  rw [if_neg (nI_ne0 h0 hb), pk_rem ha h0 hb]
theorem zz_div {β : Type} {a b : Nat} {c : Int32 → Option β} (ha : a < 2 ^ 31) (h0 : 0 < b) (hb : b < 2 ^ 31) : s_div (nI a) (nI b) c = c (nI (a / b)) := by
  unfold s_div
  rw [if_neg (nI_ne0 h0 hb), pk_div ha h0 hb]
theorem zz_cpy {β : Type} {M : Mem} {k0 n0 k1 n1 n : Nat} {c : Mem → Option β} (h0 : n ≤ n0) (h1 : n ≤ n1) (hn : n < 2 ^ 31) : s_cpy M k0 n0 (nI 0) k1 n1 (nI 0) (nI n) c = c (me_row M k1 (va_cpy (M k0) (M k1) 0 0 n)) := by
  unfold s_cpy
  rw [nI_clamp hn, nI_clamp (n := 0) (by decide), if_neg]
  intro h
  rcases h with h | h | h | h | h
  · exact absurd h (by decide)
  · exact absurd h (by decide)
  · exact nI_pos hn h
  · omega
  · omega
theorem nl0 : (0 : Int32) = nI 0 := rfl
theorem nl1 : (1 : Int32) = nI 1 := rfl
theorem nl2 : (2 : Int32) = nI 2 := rfl
theorem nl3 : (3 : Int32) = nI 3 := rfl
theorem nl4 : (4 : Int32) = nI 4 := rfl
theorem nl5 : (5 : Int32) = nI 5 := rfl
theorem nl6 : (6 : Int32) = nI 6 := rfl
theorem nl7 : (7 : Int32) = nI 7 := rfl
theorem nl8 : (8 : Int32) = nI 8 := rfl
theorem nl9 : (9 : Int32) = nI 9 := rfl
theorem nl10 : (10 : Int32) = nI 10 := rfl
theorem nl32 : (32 : Int32) = nI 32 := rfl
theorem nl40 : (40 : Int32) = nI 40 := rfl
theorem nl44 : (44 : Int32) = nI 44 := rfl
theorem nl48 : (48 : Int32) = nI 48 := rfl
theorem nl57 : (57 : Int32) = nI 57 := rfl
theorem nl59 : (59 : Int32) = nI 59 := rfl
theorem nl60 : (60 : Int32) = nI 60 := rfl
theorem nl63 : (63 : Int32) = nI 63 := rfl
theorem nl64 : (64 : Int32) = nI 64 := rfl
theorem nl99 : (99 : Int32) = nI 99 := rfl
theorem nl100 : (100 : Int32) = nI 100 := rfl
theorem nl101 : (101 : Int32) = nI 101 := rfl
theorem nl111 : (111 : Int32) = nI 111 := rfl
theorem nl112 : (112 : Int32) = nI 112 := rfl
theorem nl126 : (126 : Int32) = nI 126 := rfl
theorem nl128 : (128 : Int32) = nI 128 := rfl
theorem nl200 : (200 : Int32) = nI 200 := rfl
theorem nl504 : (504 : Int32) = nI 504 := rfl
theorem nl9999 : (9999 : Int32) = nI 9999 := rfl
theorem nl65521 : (65521 : Int32) = nI 65521 := rfl
def b2 (b : Bool) : Int32 := if b then 1 else 0
theorem b2_t : b2 true = 1 := rfl
theorem b2_f : b2 false = 0 := rfl
theorem b2_0 {b : Bool} : b2 b = nI 0 ↔ b = false := by cases b <;> decide
theorem b2_1 {b : Bool} : b2 b = nI 1 ↔ b = true := by cases b <;> decide
theorem zz_rz {b : Bool} {M : Mem} : s_retz (b2 b) M = some (b2 b, M) := by cases b <;> rfl
theorem zz_rz0 {M : Mem} : s_retz (nI 0) M = some (b2 false, M) := rfl
theorem zz_rz1 {M : Mem} : s_retz (nI 1) M = some (b2 true, M) := rfl
/-- reading behind a write -/
theorem up_s {M : Mem} {k j : Nat} {x : Int32} : me_upd M k j x k j = x := by simp [me_upd, me_row, upd]
theorem up_c {M : Mem} {k j a : Nat} {x : Int32} (h : a ≠ k) : me_upd M k j x a = M a := by simp [me_upd, me_row, h]
theorem up_j {M : Mem} {k j a b : Nat} {x : Int32} (h : b ≠ j) : me_upd M k j x a b = M a b := by
  unfold me_upd me_row
  by_cases hk : a = k
  · rw [if_pos hk, hk]; simp [upd, h]
  · rw [if_neg hk]
theorem rw_s {M : Mem} {k : Nat} {f : Nat → Int32} : me_row M k f k = f := by simp [me_row]
theorem rw_c {M : Mem} {k a : Nat} {f : Nat → Int32} (h : a ≠ k) : me_row M k f a = M a := by simp [me_row, h]
/-- nothing but the cells from lo on, below hi, has changed -/
def Fr (lo hi : Nat) (M M' : Mem) : Prop := ∀ c, (c < lo ∨ hi ≤ c) → M' c = M c
theorem Fr.rf {lo hi : Nat} {M : Mem} : Fr lo hi M M := fun _ _ => rfl
theorem Fr.tr {lo hi : Nat} {M M1 M2 : Mem} (h : Fr lo hi M M1) (h2 : Fr lo hi M1 M2) : Fr lo hi M M2 := fun c hc => (h2 c hc).trans (h c hc)
theorem Fr.up {lo hi k j : Nat} {M : Mem} {x : Int32} (h1 : lo ≤ k) (h2 : k < hi) : Fr lo hi M (me_upd M k j x) := fun c hc => up_c (by omega)
theorem Fr.row {lo hi k : Nat} {M : Mem} {f : Nat → Int32} (h1 : lo ≤ k) (h2 : k < hi) : Fr lo hi M (me_row M k f) := fun c hc => rw_c (by omega)
theorem Fr.wd {lo hi lo' hi' : Nat} {M M' : Mem} (h : Fr lo' hi' M M') (h1 : lo ≤ lo') (h2 : hi' ≤ hi) : Fr lo hi M M' := fun c hc => h c (by omega)
/-- a loop: the invariant I at its k-th turn, N turns at most, P of what it answers -/
theorem lp {S β : Type} (g : Nat → S → Option β) (I : Nat → S → Prop) (P : Option β → Prop) (N : Nat)
    (hs : ∀ k f s, k < N → I k s → (∃ s', g (f + 1) s = g f s' ∧ I (k + 1) s') ∨ P (g (f + 1) s))
    (he : ∀ f s, I N s → P (g (f + 1) s)) : ∀ (k F : Nat) (s : S), k ≤ N → N - k < F → I k s → P (g F s) := by
  have key : ∀ (m k F : Nat) (s : S), N - k = m → k ≤ N → m < F → I k s → P (g F s) := by
    intro m
    induction m with
    | zero =>
      intro k F s hm hk hF hI
      have : k = N := by omega
      subst this
      obtain ⟨f, rfl⟩ : ∃ f, F = f + 1 := ⟨F - 1, by omega⟩
      exact he f s hI
    | succ m ih =>
      intro k F s hm hk hF hI
      obtain ⟨f, rfl⟩ : ∃ f, F = f + 1 := ⟨F - 1, by omega⟩
      rcases hs k f s (by omega) hI with ⟨s', e, hI'⟩ | h
      · rw [e]
        exact ih (k + 1) f s' (by omega) (by omega) (by omega) hI'
      · exact h
  intro k F s hk hF hI
  exact key (N - k) k F s rfl hk hF hI
theorem FU_lt {n : Nat} (h : n < 100000) : n < FU := h
/-- a fold over 0 .. k - 1 -/
def fo {S : Type} (f : Nat → S → S) : Nat → S → S
  | 0, s => s
  | k + 1, s => f k (fo f k s)
theorem fo_inv {S : Type} {f : Nat → S → S} {I : S → Prop} {N : Nat} (hs : ∀ k s, k < N → I s → I (f k s)) : ∀ k s, k ≤ N → I s → I (fo f k s) := by
  intro k
  induction k with
  | zero => intro s _ h; exact h
  | succ k ih => intro s hk h; exact hs k _ (by omega) (ih s (by omega) h)
/-! ===== a town in the abstract: al the living as bits, K kinds, d debts ===== -/
abbrev Dm : Type := Nat → Nat → Nat
def d_up (d : Dm) (i j v : Nat) : Dm := fun a b => if a = i ∧ b = j then v else d a b
def d_sm (f : Nat → Nat) : Nat → Nat
  | 0 => 0
  | k + 1 => d_sm f k + f k
def d_row (d : Dm) (i : Nat) : Nat := d_sm (d i) 8
def d_col (d : Dm) (j : Nat) : Nat := d_sm (fun i => d i j) 8
def d_all (d : Dm) : Nat := d_sm (d_row d) 8
theorem d_sm_le {f : Nat → Nat} {c : Nat} (h : ∀ i, f i ≤ c) : ∀ k, d_sm f k ≤ k * c := by
  intro k
  induction k with
  | zero => exact Nat.zero_le _
  | succ k ih => have := h k; rw [Nat.succ_mul]; show d_sm f k + f k ≤ _; omega
theorem d_sm_ext {f g : Nat → Nat} : ∀ k, (∀ i, i < k → f i = g i) → d_sm f k = d_sm g k := by
  intro k
  induction k with
  | zero => intro _; rfl
  | succ k ih => intro h; show d_sm f k + f k = d_sm g k + g k; rw [ih (fun i hi => h i (by omega)), h k (by omega)]
theorem d_sm_0 {f : Nat → Nat} {a : Nat} : ∀ b, (∀ i, a ≤ i → i < a + b → f i = 0) → d_sm f (a + b) = d_sm f a := by
  intro b
  induction b with
  | zero => intro _; rfl
  | succ b ih => intro h; show d_sm f (a + b) + f (a + b) = _; rw [ih (fun i h1 h2 => h i h1 (by omega)), h _ (by omega) (by omega)]; rfl
theorem d_sm_at {f : Nat → Nat} {j v : Nat} : ∀ k, j < k → d_sm (fun b => if b = j then v else f b) k + f j = d_sm f k + v := by
  intro k
  induction k with
  | zero => intro h; omega
  | succ k ih =>
    intro h
    show d_sm (fun b => if b = j then v else f b) k + (if k = j then v else f k) + f j = d_sm f k + f k + v
    by_cases hk : k = j
    · subst hk
      rw [if_pos rfl, d_sm_ext (f := fun b => if b = k then v else f b) (g := f) k (fun i hi => if_neg (by omega))]
      omega
    · rw [if_neg hk]
      have := ih (by omega)
      omega
theorem d_sm_pos {f : Nat → Nat} {j : Nat} : ∀ k, j < k → f j ≤ d_sm f k := by
  intro k
  induction k with
  | zero => intro h; omega
  | succ k ih =>
    intro h
    show f j ≤ d_sm f k + f k
    by_cases hk : k = j
    · subst hk; omega
    · have := ih (by omega); omega
theorem d_row_up {d : Dm} {i j v : Nat} (hj : j < 8) : d_row (d_up d i j v) i + d i j = d_row d i + v := by
  have e : (d_up d i j v) i = fun b => if b = j then v else d i b := by
    funext b
    simp [d_up]
  show d_sm ((d_up d i j v) i) 8 + d i j = _
  rw [e]
  exact d_sm_at 8 hj
theorem d_row_ne {d : Dm} {i j v a : Nat} (h : a ≠ i) : d_row (d_up d i j v) a = d_row d a := by
  have e : (d_up d i j v) a = d a := by
    funext b
    simp [d_up, h]
  show d_sm ((d_up d i j v) a) 8 = _
  rw [e]
  rfl
theorem d_up_s {d : Dm} {i j v : Nat} : d_up d i j v i j = v := by simp [d_up]
theorem d_up_n {d : Dm} {i j v a b : Nat} (h : a ≠ i ∨ b ≠ j) : d_up d i j v a b = d a b := by
  unfold d_up
  rw [if_neg]
  omega
/-- what holds of every town here -/
def t_ok (n al : Nat) (K : Nat → Nat) (d : Dm) : Prop := n ≤ 7 ∧ al < 2 ^ n ∧ (∀ i, i < n → K i ≤ 3) ∧ (∀ i j, d i j ≤ 9) ∧ (∀ i j, d i j ≠ 0 → i < n ∧ j < n ∧ i ≠ j ∧ al.testBit i = true ∧ al.testBit j = true)
theorem t_ok.al {n al : Nat} {K : Nat → Nat} {d : Dm} (h : t_ok n al K d) : al < 128 := by
  have h1 := h.2.1
  have h2 : 2 ^ n ≤ 2 ^ 7 := Nat.pow_le_pow_right (by decide) h.1
  omega
theorem t_ok.row {n al : Nat} {K : Nat → Nat} {d : Dm} (h : t_ok n al K d) (i : Nat) : d_row d i ≤ 72 := d_sm_le (c := 9) (h.2.2.2.1 i) 8
theorem t_ok.all {n al : Nat} {K : Nat → Nat} {d : Dm} (h : t_ok n al K d) : d_all d ≤ 576 := d_sm_le (c := 72) (fun i => h.row i) 8
theorem t_ok.up {n al : Nat} {K : Nat → Nat} {d : Dm} (h : t_ok n al K d) {i j v : Nat} (hv : v ≤ 9) (h2 : v ≠ 0 → i < n ∧ j < n ∧ i ≠ j ∧ al.testBit i = true ∧ al.testBit j = true) : t_ok n al K (d_up d i j v) := by
  refine ⟨h.1, h.2.1, h.2.2.1, fun a b => ?_, fun a b => ?_⟩
  · unfold d_up
    split
    · exact hv
    · exact h.2.2.2.1 a b
  · unfold d_up
    split
    · next e => rw [e.1, e.2]; exact h2
    · exact h.2.2.2.2 a b
