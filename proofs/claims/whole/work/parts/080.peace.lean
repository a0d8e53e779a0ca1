/-! ===== PEACE: no BOW hinders another one ===== -/
def ff (P : Nat → Bool) : Nat → Option Nat
  | 0 => none
  | k + 1 => match ff P k with
    | some a => some a
    | none => if P k = true then some k else none
theorem ff_some {P : Nat → Bool} : ∀ {N a : Nat}, ff P N = some a → a < N ∧ P a = true ∧ ∀ b, b < a → P b = false := by
  intro N
  induction N with
  | zero => intro a h; cases h
  | succ N ih =>
    intro a h
    unfold ff at h
    cases e : ff P N with
    | some c =>
      rw [e] at h
      cases h
      obtain ⟨h1, h2, h3⟩ := ih e
      exact ⟨by omega, h2, h3⟩
    | none =>
      rw [e] at h
      change (if P N = true then some N else none) = some a at h
      split at h
      · next hp =>
        cases h
        refine ⟨by omega, hp, fun b hb => ?_⟩
        have key : ∀ M, ff P M = none → ∀ b, b < M → P b = false := by
          intro M
          induction M with
          | zero => intro _ b hb; omega
          | succ M ih2 =>
            intro h b hb
            unfold ff at h
            cases e : ff P M with
            | some c => rw [e] at h; cases h
            | none =>
              rw [e] at h
              change (if P M = true then some M else none) = none at h
              split at h
              · cases h
              · next hq =>
                by_cases hbM : b = M
                · rw [hbM]; simpa using hq
                · exact ih2 e b (by omega)
        exact key N e b hb
      · cases h
theorem ff_none {P : Nat → Bool} : ∀ {N : Nat}, ff P N = none → ∀ b, b < N → P b = false := by
  intro M
  induction M with
  | zero => intro _ b hb; omega
  | succ M ih2 =>
    intro h b hb
    unfold ff at h
    cases e : ff P M with
    | some c => rw [e] at h; cases h
    | none =>
      rw [e] at h
      change (if P M = true then some M else none) = none at h
      split at h
      · cases h
      · next hq =>
        by_cases hbM : b = M
        · rw [hbM]; simpa using hq
        · exact ih2 e b (by omega)
theorem ff_is {P : Nat → Bool} {N a : Nat} (h1 : a < N) (h2 : P a = true) (h3 : ∀ b, b < a → P b = false) : ff P N = some a := by
  cases e : ff P N with
  | none => rw [ff_none e a h1] at h2; cases h2
  | some c =>
    obtain ⟨g1, g2, g3⟩ := ff_some e
    rcases Nat.lt_trichotomy a c with h | h | h
    · rw [g3 a h] at h2; cases h2
    · rw [h]
    · rw [h3 c h] at g2; cases g2
theorem ff_no {P : Nat → Bool} {N : Nat} (h : ∀ b, b < N → P b = false) : ff P N = none := by
  cases e : ff P N with
  | none => rfl
  | some c =>
    obtain ⟨g1, g2, g3⟩ := ff_some e
    rw [h c g1] at g2
    cases g2
theorem d_all_up {d : Dm} {i j v : Nat} (hi : i < 8) (hj : j < 8) : d_all (d_up d i j v) + d i j = d_all d + v := by
  have e : d_row (d_up d i j v) = fun a => if a = i then d_row (d_up d i j v) i else d_row d a := by
    funext a
    by_cases h : a = i
    · rw [if_pos h, h]
    · rw [if_neg h, d_row_ne h]
  have h1 := d_sm_at (f := d_row d) (j := i) (v := d_row (d_up d i j v) i) 8 hi
  have h2 := d_row_up (d := d) (i := i) (j := j) (v := v) hj
  unfold d_all
  rw [e]
  omega
section PEACE
variable {n day al i j : Nat} {K : Nat → Nat} {d : Dm}
theorem t_ok.all7 (h : t_ok n al K d) : d_all d ≤ 441 := by
  have w := h.1
  have hz : ∀ a, d a 7 = 0 := fun a => by
    by_cases z : d a 7 = 0
    · exact z
    · have := h.2.2.2.2 a 7 z; omega
  have hz2 : d_row d 7 = 0 := by
    have e : d 7 = fun _ => 0 := by
      funext b
      by_cases z : d 7 b = 0
      · exact z
      · have := h.2.2.2.2 7 b z; omega
    unfold d_row
    rw [e]
    rfl
  have hr : ∀ a, d_row d a ≤ 63 := fun a => by
    have := d_sm_le (c := 9) (h.2.2.2.1 a) 7
    show d_sm (d a) 7 + d a 7 ≤ 63
    rw [hz a]
    omega
  have := d_sm_le (c := 63) hr 7
  show d_sm (d_row d) 7 + d_row d 7 ≤ 441
  rw [hz2]
  omega
def p_en (K : Nat → Nat) (day : Nat) (d : Dm) (i j : Nat) : Bool := o_bow K d i j && o_py K day i
theorem p_en_iff : p_en K day d i j = true ↔ 0 < d i j ∧ (K j = 1 ∨ d_row d j = 0) ∧ o_py K day i = true := by
  unfold p_en o_bow o_tk
  simp only [Bool.and_eq_true, Bool.or_eq_true, decide_eq_true_eq]
  constructor
  · intro h; exact ⟨h.1.1, h.1.2, h.2⟩
  · intro h; exact ⟨⟨h.1, h.2.1⟩, h.2.2⟩
theorem o_pay_en (h : p_en K day d i j = true) : o_pay K day d i j = d_up d i j (if K i = 2 then 0 else d i j - 1) := by
  have h := p_en_iff.1 h
  unfold o_pay
  rw [if_pos ⟨h.2.2, h.1⟩]
theorem o_pay_all (hi : i < 8) (hj : j < 8) (h : p_en K day d i j = true) : d_all (o_pay K day d i j) < d_all d := by
  rw [o_pay_en h]
  have h := (p_en_iff.1 h).1
  have e := d_all_up (d := d) (v := if K i = 2 then 0 else d i j - 1) hi hj
  have : (if K i = 2 then 0 else d i j - 1) < d i j := by split <;> omega
  omega
theorem o_pay_row (a : Nat) (hj : j < 8) : d_row (o_pay K day d i j) a ≤ d_row d a := by
  unfold o_pay
  split
  · next h =>
    by_cases ha : a = i
    · subst ha
      have e := d_row_up (d := d) (i := a) (v := if K a = 2 then 0 else d a j - 1) hj
      have : (if K a = 2 then 0 else d a j - 1) < d a j := by split <;> omega
      omega
    · rw [d_row_ne ha]
      exact Nat.le_refl _
  · exact Nat.le_refl _
theorem p_en_keep {a b : Nat} (hb : b < 8) (hne : a ≠ i ∨ b ≠ j) (h : p_en K day d i j = true) : p_en K day (o_pay K day d a b) i j = true := by
  have h := p_en_iff.1 h
  refine p_en_iff.2 ⟨?_, ?_, h.2.2⟩
  · rw [o_pay_ne hne]; exact h.1
  · rcases h.2.1 with h1 | h1
    · exact Or.inl h1
    · have := o_pay_row (K := K) (day := day) (d := d) (i := a) (j := b) j hb
      right
      omega
theorem d_up_comm {a b v w : Nat} (hne : a ≠ i ∨ b ≠ j) : d_up (d_up d a b v) i j w = d_up (d_up d i j w) a b v := by
  funext x y
  unfold d_up
  by_cases h1 : x = i ∧ y = j
  · rw [if_pos h1, if_neg (by omega), if_pos h1]
  · rw [if_neg h1]
    by_cases h2 : x = a ∧ y = b
    · rw [if_pos h2, if_pos h2]
    · rw [if_neg h2, if_neg h2, if_neg h1]
theorem o_pay_comm {a b : Nat} (hb : b < 8) (hj : j < 8) (hne : a ≠ i ∨ b ≠ j) (h1 : p_en K day d a b = true) (h2 : p_en K day d i j = true) : o_pay K day (o_pay K day d a b) i j = o_pay K day (o_pay K day d i j) a b := by
  rw [o_pay_en (p_en_keep hb hne h2), o_pay_en (p_en_keep hj (by omega) h1), o_pay_ne hne, o_pay_ne (by omega), o_pay_en h1, o_pay_en h2]
  exact d_up_comm hne
/-- the first BOW that can be, one at a time, till there is none -/
def fbP (K : Nat → Nat) (day : Nat) (d : Dm) (k : Nat) : Bool := p_en K day d (k / 8) (k % 8)
def bw (K : Nat → Nat) (day : Nat) : Nat → Dm → Nat × Dm
  | 0, d => (0, d)
  | f + 1, d => (ff (fbP K day d) 64).elim (0, d) (fun k => ((bw K day f (o_pay K day d (k / 8) (k % 8))).1 + 1, (bw K day f (o_pay K day d (k / 8) (k % 8))).2))
theorem bw_succ {f : Nat} : bw K day (f + 1) d = (ff (fbP K day d) 64).elim (0, d) (fun k => ((bw K day f (o_pay K day d (k / 8) (k % 8))).1 + 1, (bw K day f (o_pay K day d (k / 8) (k % 8))).2)) := rfl
theorem fb_in {P : Nat → Bool} {k : Nat} (h : ff P 64 = some k) : k / 8 < 8 ∧ k % 8 < 8 := by
  have := (ff_some h).1
  omega
theorem bw_none {f : Nat} (h : ff (fbP K day d) 64 = none) : bw K day f d = (0, d) := by
  cases f with
  | zero => rfl
  | succ f => rw [bw_succ, h]; rfl
theorem bw_fuel : ∀ (f : Nat) (d : Dm), d_all d ≤ f → ∀ g, d_all d ≤ g → bw K day f d = bw K day g d := by
  intro f
  induction f with
  | zero =>
    intro d h g hg
    cases e : ff (fbP K day d) 64 with
    | none => rw [bw_none e, bw_none e]
    | some k =>
      obtain ⟨h1, h2⟩ := fb_in e
      have h3 := o_pay_all h1 h2 (ff_some e).2.1
      omega
  | succ f ih =>
    intro d h g hg
    cases e : ff (fbP K day d) 64 with
    | none => rw [bw_none e, bw_none e]
    | some k =>
      obtain ⟨h1, h2⟩ := fb_in e
      have h3 := o_pay_all h1 h2 (ff_some e).2.1
      cases g with
      | zero => omega
      | succ g =>
        rw [bw_succ, bw_succ, e]
        show ((bw K day f _).1 + 1, (bw K day f _).2) = ((bw K day g _).1 + 1, (bw K day g _).2)
        rw [ih _ (by omega) g (by omega)]
def bwF (K : Nat → Nat) (day : Nat) (d : Dm) : Nat × Dm := bw K day (d_all d) d
theorem bwF_some {k : Nat} (h : ff (fbP K day d) 64 = some k) : bwF K day d = ((bwF K day (o_pay K day d (k / 8) (k % 8))).1 + 1, (bwF K day (o_pay K day d (k / 8) (k % 8))).2) := by
  obtain ⟨h1, h2⟩ := fb_in h
  have h3 := o_pay_all h1 h2 (ff_some h).2.1
  unfold bwF
  obtain ⟨g, hg⟩ : ∃ g, d_all d = g + 1 := ⟨d_all d - 1, by omega⟩
  rw [hg]
  show bw K day (g + 1) d = _
  rw [bw_succ, h]
  show ((bw K day g _).1 + 1, (bw K day g _).2) = _
  rw [bw_fuel g _ (by omega) (d_all (o_pay K day d (k / 8) (k % 8))) (Nat.le_refl _)]
/-- any BOW that can be may come first -/
theorem bwF_any : ∀ (m : Nat) (d : Dm), d_all d ≤ m → ∀ i j, i < 8 → j < 8 → p_en K day d i j = true → bwF K day d = ((bwF K day (o_pay K day d i j)).1 + 1, (bwF K day (o_pay K day d i j)).2) := by
  intro m
  induction m with
  | zero =>
    intro d h i j hi hj he
    have := o_pay_all hi hj he
    omega
  | succ m ih =>
    intro d h i j hi hj he
    cases e : ff (fbP K day d) 64 with
    | none =>
      have := ff_none e (8 * i + j) (by omega)
      unfold fbP at this
      rw [show (8 * i + j) / 8 = i by omega, show (8 * i + j) % 8 = j by omega, he] at this
      cases this
    | some k =>
      obtain ⟨h1, h2⟩ := fb_in e
      have hk := (ff_some e).2.1
      unfold fbP at hk
      rw [bwF_some e]
      by_cases hc : k / 8 = i ∧ k % 8 = j
      · rw [hc.1, hc.2]
      · have l1 := o_pay_all h1 h2 hk
        have l2 := o_pay_all hi hj he
        have c1 := ih (o_pay K day d (k / 8) (k % 8)) (by omega) i j hi hj (p_en_keep h2 (by omega) he)
        have c2 := ih (o_pay K day d i j) (by omega) (k / 8) (k % 8) h1 h2 (p_en_keep hj (by omega) hk)
        rw [c1, c2, o_pay_comm h2 hj (by omega) hk he]
theorem bwF_1 (hi : i < 8) (hj : j < 8) (he : p_en K day d i j = true) : bwF K day d = ((bwF K day (o_pay K day d i j)).1 + 1, (bwF K day (o_pay K day d i j)).2) := bwF_any _ d (Nat.le_refl _) i j hi hj he
/-- a debt that can be paid, paid whole -/
theorem bwF_whole : ∀ (v : Nat) (d : Dm), d i j = v → i < 8 → j < 8 → i ≠ j → p_en K day d i j = true → bwF K day d = ((bwF K day (d_up d i j 0)).1 + (if K i = 2 then 1 else v), (bwF K day (d_up d i j 0)).2) := by
  intro v
  induction v with
  | zero =>
    intro d hv hi hj hij he
    have := (p_en_iff.1 he).1
    omega
  | succ v ih =>
    intro d hv hi hj hij he
    rw [bwF_1 hi hj he, o_pay_en he]
    by_cases c : K i = 2
    · rw [if_pos c, if_pos c]
    · rw [if_neg c, if_neg c, hv]
      by_cases z : v = 0
      · subst z; rfl
      · have e1 : d_up (d_up d i j (v + 1 - 1)) i j 0 = d_up d i j 0 := by
          funext x y
          unfold d_up
          split <;> rfl
        have he' := p_en_iff.1 he
        have := ih (d_up d i j (v + 1 - 1)) (by rw [d_up_s]; omega) hi hj hij (p_en_iff.2 ⟨by rw [d_up_s]; omega, by rw [d_row_ne (Ne.symm hij)]; exact he'.2.1, he'.2.2⟩)
        rw [e1, if_neg c] at this
        rw [this]
        show (_ + v + 1, _) = (_ + (v + 1), _)
        rw [Nat.add_assoc]
/-! the whole PEACE, as the reference makes it -/
def aoP (K : Nat → Nat) (day : Nat) (d : Dm) (k : Nat) : Bool := decide (k / 8 < k % 8) && o_ao d (k / 8) (k % 8) && (o_py K day (k / 8) || o_py K day (k % 8))
def o_two (K : Nat → Nat) (day : Nat) (d : Dm) (i j : Nat) : Dm := o_pay K day (o_pay K day d i j) j i
def mp (K : Nat → Nat) (day : Nat) : Nat → Dm → Nat × Dm
  | 0, d => (0, d)
  | f + 1, d => (ff (fbP K day d) 64).elim ((ff (aoP K day d) 64).elim (0, d) (fun k => ((mp K day f (o_two K day d (k / 8) (k % 8))).1 + 1, (mp K day f (o_two K day d (k / 8) (k % 8))).2))) (fun k => ((mp K day f (o_pay K day d (k / 8) (k % 8))).1 + 1, (mp K day f (o_pay K day d (k / 8) (k % 8))).2))
theorem mp_succ {f : Nat} : mp K day (f + 1) d = (ff (fbP K day d) 64).elim ((ff (aoP K day d) 64).elim (0, d) (fun k => ((mp K day f (o_two K day d (k / 8) (k % 8))).1 + 1, (mp K day f (o_two K day d (k / 8) (k % 8))).2))) (fun k => ((mp K day f (o_pay K day d (k / 8) (k % 8))).1 + 1, (mp K day f (o_pay K day d (k / 8) (k % 8))).2)) := rfl
theorem o_pay_all_le (hi : i < 8) (hj : j < 8) : d_all (o_pay K day d i j) ≤ d_all d := by
  unfold o_pay
  split
  · next h =>
    have e := d_all_up (d := d) (v := if K i = 2 then 0 else d i j - 1) hi hj
    have : (if K i = 2 then 0 else d i j - 1) < d i j := by split <;> omega
    omega
  · exact Nat.le_refl _
theorem o_two_all (hi : i < 8) (hj : j < 8) (hij : i ≠ j) (h1 : 0 < d i j) (h2 : 0 < d j i) (hp : o_py K day i = true ∨ o_py K day j = true) : d_all (o_two K day d i j) < d_all d := by
  unfold o_two
  have g1 := o_pay_all_le (K := K) (day := day) (d := d) hi hj
  have g2 := o_pay_all_le (K := K) (day := day) (d := o_pay K day d i j) hj hi
  by_cases c : o_py K day i = true
  · have : d_all (o_pay K day d i j) < d_all d := by
      unfold o_pay
      rw [if_pos ⟨c, h1⟩]
      have e := d_all_up (d := d) (v := if K i = 2 then 0 else d i j - 1) hi hj
      have : (if K i = 2 then 0 else d i j - 1) < d i j := by split <;> omega
      omega
    omega
  · have c2 : o_py K day j = true := by
      rcases hp with h | h
      · exact absurd h c
      · exact h
    have : d_all (o_pay K day (o_pay K day d i j) j i) < d_all (o_pay K day d i j) := by
      generalize hd : o_pay K day d i j = d1
      have e0 : d1 j i = d j i := by rw [← hd]; exact o_pay_ne (by omega)
      unfold o_pay
      rw [if_pos ⟨c2, by omega⟩]
      have e := d_all_up (d := d1) (v := if K j = 2 then 0 else d1 j i - 1) hj hi
      have : (if K j = 2 then 0 else d1 j i - 1) < d1 j i := by split <;> omega
      omega
    omega
theorem aoP_iff {k : Nat} : aoP K day d k = true ↔ k / 8 < k % 8 ∧ o_ao d (k / 8) (k % 8) = true ∧ (o_py K day (k / 8) = true ∨ o_py K day (k % 8) = true) := by
  unfold aoP
  simp only [Bool.and_eq_true, Bool.or_eq_true, decide_eq_true_eq]
  constructor
  · intro h; exact ⟨h.1.1, h.1.2, h.2⟩
  · intro h; exact ⟨⟨h.1, h.2.1⟩, h.2.2⟩
theorem o_ao_iff : o_ao d i j = true ↔ 0 < d i j ∧ 0 < d j i ∧ d_row d i = d i j ∧ d_row d j = d j i := by
  unfold o_ao
  simp only [Bool.and_eq_true, decide_eq_true_eq]
  constructor
  · intro h; exact ⟨h.1.1.1, h.1.1.2, h.1.2, h.2⟩
  · intro h; exact ⟨⟨⟨h.1, h.2.1⟩, h.2.2.1⟩, h.2.2.2⟩
theorem ao_all {k : Nat} (h : ff (aoP K day d) 64 = some k) : d_all (o_two K day d (k / 8) (k % 8)) < d_all d := by
  obtain ⟨h1, h2⟩ := fb_in h
  have h3 := aoP_iff.1 (ff_some h).2.1
  have h4 := o_ao_iff.1 h3.2.1
  exact o_two_all h1 h2 (by omega) h4.1 h4.2.1 h3.2.2
theorem mp_none {f : Nat} (h : ff (fbP K day d) 64 = none) (h2 : ff (aoP K day d) 64 = none) : mp K day f d = (0, d) := by
  cases f with
  | zero => rfl
  | succ f => rw [mp_succ, h, h2]; rfl
theorem mp_fuel : ∀ (f : Nat) (d : Dm), d_all d ≤ f → ∀ g, d_all d ≤ g → mp K day f d = mp K day g d := by
  intro f
  induction f with
  | zero =>
    intro d h g hg
    cases e : ff (fbP K day d) 64 with
    | none =>
      cases e2 : ff (aoP K day d) 64 with
      | none => rw [mp_none e e2, mp_none e e2]
      | some k => have := ao_all e2; omega
    | some k =>
      obtain ⟨h1, h2⟩ := fb_in e
      have h3 := o_pay_all h1 h2 (ff_some e).2.1
      omega
  | succ f ih =>
    intro d h g hg
    cases g with
    | zero =>
      cases e : ff (fbP K day d) 64 with
      | none =>
        cases e2 : ff (aoP K day d) 64 with
        | none => rw [mp_none e e2, mp_none e e2]
        | some k => have := ao_all e2; omega
      | some k =>
        obtain ⟨h1, h2⟩ := fb_in e
        have h3 := o_pay_all h1 h2 (ff_some e).2.1
        omega
    | succ g =>
      cases e : ff (fbP K day d) 64 with
      | none =>
        cases e2 : ff (aoP K day d) 64 with
        | none => rw [mp_none e e2, mp_none e e2]
        | some k =>
          have h3 := ao_all e2
          rw [mp_succ, mp_succ, e, e2]
          show ((mp K day f _).1 + 1, (mp K day f _).2) = ((mp K day g _).1 + 1, (mp K day g _).2)
          rw [ih _ (by omega) g (by omega)]
      | some k =>
        obtain ⟨h1, h2⟩ := fb_in e
        have h3 := o_pay_all h1 h2 (ff_some e).2.1
        rw [mp_succ, mp_succ, e]
        show ((mp K day f _).1 + 1, (mp K day f _).2) = ((mp K day g _).1 + 1, (mp K day g _).2)
        rw [ih _ (by omega) g (by omega)]
def mpF (K : Nat → Nat) (day : Nat) (d : Dm) : Nat × Dm := mp K day (d_all d) d
theorem mpF_bow {k : Nat} (h : ff (fbP K day d) 64 = some k) : mpF K day d = ((mpF K day (o_pay K day d (k / 8) (k % 8))).1 + 1, (mpF K day (o_pay K day d (k / 8) (k % 8))).2) := by
  obtain ⟨h1, h2⟩ := fb_in h
  have h3 := o_pay_all h1 h2 (ff_some h).2.1
  unfold mpF
  obtain ⟨g, hg⟩ : ∃ g, d_all d = g + 1 := ⟨d_all d - 1, by omega⟩
  rw [hg]
  show mp K day (g + 1) d = _
  rw [mp_succ, h]
  show ((mp K day g _).1 + 1, (mp K day g _).2) = _
  rw [mp_fuel g _ (by omega) (d_all (o_pay K day d (k / 8) (k % 8))) (Nat.le_refl _)]
theorem mpF_ao {k : Nat} (h : ff (fbP K day d) 64 = none) (h2 : ff (aoP K day d) 64 = some k) : mpF K day d = ((mpF K day (o_two K day d (k / 8) (k % 8))).1 + 1, (mpF K day (o_two K day d (k / 8) (k % 8))).2) := by
  have h3 := ao_all h2
  unfold mpF
  obtain ⟨g, hg⟩ : ∃ g, d_all d = g + 1 := ⟨d_all d - 1, by omega⟩
  rw [hg]
  show mp K day (g + 1) d = _
  rw [mp_succ, h, h2]
  show ((mp K day g _).1 + 1, (mp K day g _).2) = _
  rw [mp_fuel g _ (by omega) (d_all (o_two K day d (k / 8) (k % 8))) (Nat.le_refl _)]
theorem mpF_none (h : ff (fbP K day d) 64 = none) (h2 : ff (aoP K day d) 64 = none) : mpF K day d = (0, d) := mp_none h h2
/-- first all BOWS, then the rest -/
theorem mpF_bw : ∀ (m : Nat) (d : Dm), d_all d ≤ m → mpF K day d = ((bwF K day d).1 + (mpF K day (bwF K day d).2).1, (mpF K day (bwF K day d).2).2) ∧ ff (fbP K day (bwF K day d).2) 64 = none := by
  intro m
  induction m with
  | zero =>
    intro d h
    cases e : ff (fbP K day d) 64 with
    | none =>
      have : bwF K day d = (0, d) := bw_none e
      rw [this]
      exact ⟨by rw [Nat.zero_add], e⟩
    | some k =>
      obtain ⟨h1, h2⟩ := fb_in e
      have h3 := o_pay_all h1 h2 (ff_some e).2.1
      omega
  | succ m ih =>
    intro d h
    cases e : ff (fbP K day d) 64 with
    | none =>
      have : bwF K day d = (0, d) := bw_none e
      rw [this]
      exact ⟨by rw [Nat.zero_add], e⟩
    | some k =>
      obtain ⟨h1, h2⟩ := fb_in e
      have h3 := o_pay_all h1 h2 (ff_some e).2.1
      obtain ⟨c1, c2⟩ := ih (o_pay K day d (k / 8) (k % 8)) (by omega)
      rw [mpF_bow e, bwF_some e]
      refine ⟨?_, c2⟩
      show _ = ((bwF K day (o_pay K day d (k / 8) (k % 8))).1 + 1 + _, _)
      rw [c1]
      show (_ + _ + 1, _) = _
      rw [Nat.add_right_comm]
end PEACE
