/-! ===== who can have wronged whom ===== -/
def sP (Z : Tx) (S : Nat → Nat) (al : Nat) (d : Dm) (q : Nat) : Bool := decide (q / 8 < q % 8) && (zb Z).testBit (S (q / 8)) && decide (S (q / 8) = S (q % 8)) && o_may al d (q / 8) (q % 8)
def rP (Z : Tx) (S : Nat → Nat) (al : Nat) (d : Dm) (r q : Nat) : Bool := o_may al d (q / 8) (q % 8) && decide (S (q / 8) = Z.2 r) && decide (S (q % 8) = Z.2 r)
def aF (P : Nat → Bool) (k : Nat) (b : Bool) : Bool := fo (fun q b => b && !P q) k b
theorem aF_iff {P : Nat → Bool} : ∀ (k : Nat) (b : Bool), aF P k b = true ↔ b = true ∧ ∀ q, q < k → P q = false := by
  intro k
  induction k with
  | zero => intro b; exact ⟨fun h => ⟨h, fun q hq => by omega⟩, fun h => h.1⟩
  | succ k ih =>
    intro b
    show (aF P k b && !P k) = true ↔ _
    rw [Bool.and_eq_true, ih b, Bool.not_eq_true']
    constructor
    · intro h
      refine ⟨h.1.1, fun q hq => ?_⟩
      by_cases hz : q = k
      · rw [hz]; exact h.2
      · exact h.1.2 q (by omega)
    · intro h
      exact ⟨⟨h.1, fun q hq => h.2 q (by omega)⟩, h.2 k (by omega)⟩
theorem or_bit {Z : Tx} {b : Nat} : ∀ k, (fo (fun k x => x ||| 2 ^ Z.2 k) k 0).testBit b = true ↔ ∃ r, r < k ∧ Z.2 r = b := by
  intro k
  induction k with
  | zero =>
    constructor
    · intro h
      rw [show fo (fun k x => x ||| 2 ^ Z.2 k) 0 0 = 0 from rfl, Nat.zero_testBit] at h
      cases h
    · intro h
      obtain ⟨r, hr, _⟩ := h
      omega
  | succ k ih =>
    show ((fo (fun k x => x ||| 2 ^ Z.2 k) k 0) ||| 2 ^ Z.2 k).testBit b = true ↔ _
    rw [Nat.testBit_or, Bool.or_eq_true, ih]
    constructor
    · intro h
      rcases h with ⟨r, h1, h2⟩ | h
      · exact ⟨r, by omega, h2⟩
      · refine ⟨k, by omega, ?_⟩
        by_cases e : Z.2 k = b
        · exact e
        · rw [Nat.testBit_two_pow_of_ne e] at h
          cases h
    · intro h
      obtain ⟨r, h1, h2⟩ := h
      by_cases hz : r = k
      · right
        rw [← hz, h2, Nat.testBit_two_pow_self]
      · exact Or.inl ⟨r, by omega, h2⟩
theorem zb_bit {Z : Tx} {b : Nat} : (zb Z).testBit b = true ↔ ∃ r, r < Z.1 ∧ Z.2 r = b := or_bit Z.1
theorem zb_lt {Z : Tx} (hZ : ∀ k, k < Z.1 → Z.2 k ≤ 3) : zb Z < 16 := by
  unfold zb
  have : ∀ k, k ≤ Z.1 → fo (fun k x => x ||| 2 ^ Z.2 k) k 0 < 2 ^ 4 := by
    intro k
    induction k with
    | zero => intro _; exact (by decide : 0 < 2 ^ 4)
    | succ k ih =>
      intro hk
      refine Nat.or_lt_two_pow (ih (by omega)) ?_
      exact Nat.pow_lt_pow_right (by omega) (by have := hZ k (by omega); omega)
  exact this Z.1 (Nat.le_refl _)
theorem cn_ff {P : Nat → Bool} : ∀ k, cn P k = 0 ↔ ff P k = none := by
  intro k
  induction k with
  | zero => exact ⟨fun _ => rfl, fun _ => rfl⟩
  | succ k ih =>
    constructor
    · intro h
      apply ff_no
      intro b hb
      cases e : P b with
      | false => rfl
      | true => have := cn_st hb e; omega
    · intro h
      have := cn_same (P := P) (a := 0) (k + 1) (fun q h1 h2 => ff_none h q (by omega))
      rw [Nat.zero_add] at this
      rw [this]
      rfl
section FITS
variable {M M' : Mem} {t u n ea kp i j c kind day al : Nat} {K S : Nat → Nat} {d0 d : Dm} {s : Ts} {A A1 A2 : Al} {tx Z : Tx}
theorem may_n (hV : t_ok n al K d) (h : o_may al d i j = true) : i < n ∧ j < n ∧ i ≠ j := by
  unfold o_may at h
  simp only [Bool.and_eq_true, Bool.not_eq_true', decide_eq_false_iff_not, decide_eq_true_eq] at h
  exact ⟨t_bit hV h.1.1.1.2, t_bit hV h.1.1.2, h.1.1.1.1⟩
theorem may_sym : o_may al d i j = o_may al d j i := by
  unfold o_may
  by_cases a : i = j
  · rw [a]
  · have a' : ¬ j = i := fun h => a h.symm
    rw [decide_eq_false a, decide_eq_false a']
    cases al.testBit i <;> cases al.testBit j <;> cases decide (d i j = 0) <;> cases decide (d j i = 0) <;> rfl
theorem sP_out (hV : t_ok n al K d) {q : Nat} (h : n ≤ q / 8 ∨ n ≤ q % 8 ∨ q % 8 ≤ q / 8) : sP Z S al d q = false := by
  cases e : sP Z S al d q with
  | false => rfl
  | true =>
    unfold sP at e
    simp only [Bool.and_eq_true, decide_eq_true_eq] at e
    have := may_n hV e.2
    omega
theorem X4_any14_s {z : Nat} {k2 : Int32 → Mem → Option (Int32 × Mem)} (hT : TC M t n day ea al K S d) (hV : t_ok n al K d) (hS : ∀ i, i < n → S i ≤ 3) (hz : z = zb Z) (hz16 : z < 16) (hi : i < n) (hp : ∀ k, k < 8 * i → sP Z S al d k = false) :
    (X4_anySpeakIn_14 t (nI z) (nI i) k2 FU (nI (i + 1)) M = k2 (nI (i + 1)) M ∧ ∀ k, k < 8 * (i + 1) → sP Z S al d k = false) ∨ (X4_anySpeakIn_14 t (nI z) (nI i) k2 FU (nI (i + 1)) M = some (b2 true, M) ∧ ∃ k, ff (sP Z S al d) 64 = some k) := by
  have w := hV.1
  have hSi := hS i hi
  obtain ⟨h0, h1, h2, h3, hk, hs, hd, ho⟩ := id hT
  refine lp (S := Int32 × Mem) (fun f s => X4_anySpeakIn_14 t (nI z) (nI i) k2 f s.1 s.2) (fun k s => s = (nI k, M) ∧ i < k ∧ ∀ q, q < 8 * i + k → sP Z S al d q = false)
    (fun r => (r = k2 (nI (i + 1)) M ∧ ∀ k, k < 8 * (i + 1) → sP Z S al d k = false) ∨ (r = some (b2 true, M) ∧ ∃ k, ff (sP Z S al d) 64 = some k)) n ?_ ?_ (i + 1) FU (nI (i + 1), M) (by omega) (FU_lt (by omega)) ⟨rfl, by omega, fun q hq => ?_⟩
  · intro k f s hk ⟨e1, hik, hq⟩
    subst e1
    have hSk := hS k hk
    have e8 : (8 * i + k) / 8 = i := by omega
    have e9 : (8 * i + k) % 8 = k := by omega
    have next : sP Z S al d (8 * i + k) = false → ∃ s' : Int32 × Mem, X4_anySpeakIn_14 t (nI z) (nI i) k2 f (nI (k + 1)) M = X4_anySpeakIn_14 t (nI z) (nI i) k2 f s'.1 s'.2 ∧ (s' = (nI (k + 1), M) ∧ i < k + 1 ∧ ∀ q, q < 8 * i + (k + 1) → sP Z S al d q = false) := by
      intro h
      refine ⟨(nI (k + 1), M), rfl, rfl, by omega, fun q hq' => ?_⟩
      by_cases hzz : q = 8 * i + k
      · rw [hzz]; exact h
      · exact hq q (by omega)
    show (∃ s', X4_anySpeakIn_14 t (nI z) (nI i) k2 (f + 1) (nI k) M = _ ∧ _) ∨ (_ ∨ X4_anySpeakIn_14 t (nI z) (nI i) k2 (f + 1) (nI k) M = _ ∧ _)
    rw [X4_anySpeakIn_14, h0, if_neg (nI_ge hk (by omega)), zz_ald (by omega) (by omega), hs i hi]
    unfold X4_anySpeakIn_41
    cases hb : z.testBit (S i) with
    | false =>
      left
      rw [if_pos (fun h => by rw [(zz_bit (by omega) (by omega)).1 h] at hb; cases hb), if_pos rfl, nI_1]
      exact next (by unfold sP; rw [e8, ← hz, hb]; simp)
    | true =>
      rw [if_neg (not_not_intro ((zz_bit (by omega) (by omega)).2 hb)), if_neg (by decide), zz_ald (by omega) (by omega), hs i hi, zz_ald (by omega) (by omega), hs k hk]
      by_cases hSS : S i = S k
      · rw [if_neg (not_not_intro (by rw [hSS])), X4_maySpeak_s hT hV (by omega) (by omega), zz_call]
        cases hm : o_may al d i k with
        | false =>
          left
          rw [if_pos (by decide), nI_1]
          exact next (by unfold sP; rw [e8, e9, hm, Bool.and_false])
        | true =>
          right
          right
          rw [if_neg (by decide)]
          refine ⟨zz_rz1, 8 * i + k, ff_is (by omega) ?_ hq⟩
          unfold sP
          rw [e8, e9, hm, ← hz, hb, decide_eq_true hik, decide_eq_true hSS]
          rfl
      · left
        rw [if_pos (fun h => hSS ((nI_eq (by omega) (by omega)).1 h)), nI_1]
        exact next (by unfold sP; rw [e8, e9, decide_eq_false hSS]; simp)
  · intro f s ⟨e1, hik, hq⟩
    subst e1
    left
    refine ⟨?_, fun q hq' => ?_⟩
    · show X4_anySpeakIn_14 t (nI z) (nI i) k2 (f + 1) (nI n) M = _
      rw [X4_anySpeakIn_14, h0, if_pos (nI_le (Nat.le_refl _) (by omega)), nI_1]
    · by_cases hzz : q < 8 * i + n
      · exact hq q hzz
      · exact sP_out hV (by omega)
  · by_cases hzz : q < 8 * i
    · exact hp q hzz
    · exact sP_out hV (by omega)
theorem X4_any_s (hT : TC M t n day ea al K S d) (hV : t_ok n al K d) (hS : ∀ i, i < n → S i ≤ 3) (hz16 : zb Z < 16) : X4_anySpeakIn t (nI (zb Z)) M = some (b2 (ff (sP Z S al d) 64).isSome, M) := by
  have w := hV.1
  unfold X4_anySpeakIn
  refine lp (S := Int32 × Mem) (fun f s => X4_anySpeakIn_2 t (nI (zb Z)) f s.1 s.2) (fun k s => s = (nI k, M) ∧ ∀ q, q < 8 * k → sP Z S al d q = false) (fun r => r = some (b2 (ff (sP Z S al d) 64).isSome, M)) n ?_ ?_ 0 FU (nI 0, M) (by omega) (FU_lt (by omega)) ⟨rfl, fun q hq => by omega⟩
  · intro k f s hk ⟨e1, hq⟩
    subst e1
    show (∃ s', X4_anySpeakIn_2 t (nI (zb Z)) (f + 1) (nI k) M = _ ∧ _) ∨ X4_anySpeakIn_2 t (nI (zb Z)) (f + 1) (nI k) M = _
    rw [X4_anySpeakIn_2, hT.1, if_neg (nI_ge hk (by omega)), zz_let, nI_1]
    rcases X4_any14_s (k2 := X4_anySpeakIn_2 t (nI (zb Z)) f) hT hV hS rfl hz16 hk hq with ⟨e, hq2⟩ | ⟨e, q, h1⟩
    · left
      exact ⟨(nI (k + 1), M), e, rfl, hq2⟩
    · right
      rw [e, h1]
      rfl
  · intro f s ⟨e1, hq⟩
    subst e1
    show X4_anySpeakIn_2 t (nI (zb Z)) (f + 1) (nI n) M = _
    rw [X4_anySpeakIn_2, hT.1, if_pos (nI_le (Nat.le_refl _) (by omega)), ff_no (fun q hq' => ?_)]
    · exact zz_rz0
    · by_cases hzz : q < 8 * n
      · exact hq q hzz
      · exact sP_out hV (by omega)
/-! the same, as the reference asks it -/
theorem sil65 {b : Bool} {x1 x3 : Int32} {y q : Nat} {k4 k15 : Int32 → Int32 → Mem → Option (Int32 × Mem)} (hT : TR M u 1 n day al K S d) (hV : t_ok n al K d) (hq : q < 64) : X6_areSilent_65 u (nI 1) (b2 b) x3 (nI q) k4 k15 (nI y) M = k15 (b2 (b && !(!decide (nI y = nI 0) && o_may al d (q / 8) (q % 8)))) (nI (q + 1)) M := by
  unfold X6_areSilent_65
  cases b with
  | false => rw [if_pos (by decide), nI_1]; rfl
  | true =>
    rw [if_neg (by decide), nI_1]
    by_cases hy : nI y = nI 0
    · rw [if_pos (show nI y = 0 from hy), decide_eq_true hy]; rfl
    · rw [if_neg (show ¬ nI y = 0 from hy), decide_eq_false hy, nl8, zz_div (by omega) (by omega) (by omega), zz_rem (by omega) (by omega) (by omega), X6_maySpeak_s hT hV (by omega) (by omega) (by omega), zz_call]
      cases o_may al d (q / 8) (q % 8) <;> rfl
theorem X6_sil15_s {b : Bool} {r : Nat} {k4 : Int32 → Int32 → Mem → Option (Int32 × Mem)} (hT : TR M u 1 n day al K S d) (hV : t_ok n al K d) (hS : ∀ i, i < n → S i ≤ 3) (hr : r < 6) (hZr : M (u + 11) r = nI (Z.2 r)) (hZ3 : Z.2 r ≤ 3) : X6_areSilent_15 u (nI 1) (nI r) k4 FU (b2 b) (nI 0) M = k4 (b2 (aF (rP Z S al d r) 64 b)) (nI (r + 1)) M := by
  have w := hV.1
  refine lp (S := Int32 × Int32 × Mem) (fun f z => X6_areSilent_15 u (nI 1) (nI r) k4 f z.1 z.2.1 z.2.2) (fun k z => z = (b2 (aF (rP Z S al d r) k b), nI k, M)) (fun res => res = k4 (b2 (aF (rP Z S al d r) 64 b)) (nI (r + 1)) M) 64 ?_ ?_ 0 FU (b2 b, nI 0, M) (by omega) (FU_lt (by omega)) rfl
  · intro k f z hk e
    subst e
    left
    refine ⟨(b2 (aF (rP Z S al d r) (k + 1) b), nI (k + 1), M), ?_, rfl⟩
    have ea : aF (rP Z S al d r) (k + 1) b = (aF (rP Z S al d r) k b && !rP Z S al d r k) := rfl
    generalize aF (rP Z S al d r) k b = fl at ea
    show X6_areSilent_15 u (nI 1) (nI r) k4 (f + 1) (b2 fl) (nI k) M = X6_areSilent_15 u (nI 1) (nI r) k4 f (b2 (aF (rP Z S al d r) (k + 1) b)) (nI (k + 1)) M
    rw [X6_areSilent_15, if_neg (show ¬ (64 : Int32) ≤ nI k from nI_ge (b := 64) hk (by omega)), nl8, zz_div (by omega) (by omega) (by omega), zz_ald (by omega) (by omega), zz_ald (by omega) (by omega), hZr, zz_rem (by omega) (by omega) (by omega), zz_ald (by omega) (by omega), zz_ald (by omega) (by omega), hZr, ea, nl0, nl1, sil65 (y := 0) (x1 := nI 1) hT hV hk, sil65 (y := 1) (x1 := nI 1) hT hV hk]
    cases hm : o_may al d (k / 8) (k % 8) with
    | false =>
      have er : rP Z S al d r k = false := by unfold rP; rw [hm]; rfl
      rw [er, Bool.and_false, Bool.and_false]
      split
      · rfl
      · split <;> rfl
    | true =>
      obtain ⟨g1, g2, g3⟩ := may_n hV hm
      have s1 := hS _ g1
      have s2 := hS _ g2
      rw [hT.2.2.2.2.1 _ g1, hT.2.2.2.2.1 _ g2]
      by_cases c1 : S (k / 8) = Z.2 r
      · rw [if_neg (not_not_intro (by rw [c1]))]
        by_cases c2 : S (k % 8) = Z.2 r
        · rw [if_neg (not_not_intro (by rw [c2]))]
          have er : rP Z S al d r k = true := by unfold rP; rw [hm, decide_eq_true c1, decide_eq_true c2]; rfl
          rw [er]
          rfl
        · rw [if_pos (fun h => c2 ((nI_eq (by omega) (by omega)).1 h))]
          have er : rP Z S al d r k = false := by unfold rP; rw [decide_eq_false c2, Bool.and_false]
          rw [er]
          rfl
      · rw [if_pos (fun h => c1 ((nI_eq (by omega) (by omega)).1 h))]
        have er : rP Z S al d r k = false := by unfold rP; rw [decide_eq_false c1, Bool.and_false, Bool.false_and]
        rw [er]
        rfl
  · intro f z e
    subst e
    show X6_areSilent_15 u (nI 1) (nI r) k4 (f + 1) _ (nI 64) M = _
    rw [X6_areSilent_15, if_pos (by decide), nI_1]
theorem sil_eq (hV : t_ok n al K d) : fo (fun r b => aF (rP Z S al d r) 64 b) Z.1 true = !(ff (sP Z S al d) 64).isSome := by
  have key : ∀ k, fo (fun r b => aF (rP Z S al d r) 64 b) k true = true ↔ ∀ r, r < k → ∀ q, q < 64 → rP Z S al d r q = false := by
    intro k
    induction k with
    | zero => exact ⟨fun _ r hr => by omega, fun _ => rfl⟩
    | succ k ih =>
      show aF (rP Z S al d k) 64 (fo (fun r b => aF (rP Z S al d r) 64 b) k true) = true ↔ _
      rw [aF_iff, ih]
      constructor
      · intro h r hr
        by_cases hz : r = k
        · rw [hz]; exact h.2
        · exact h.1 r (by omega)
      · intro h
        exact ⟨fun r hr => h r (by omega), h k (by omega)⟩
  have w := hV.1
  cases e : ff (sP Z S al d) 64 with
  | none =>
    show _ = true
    rw [key]
    intro r hr q hq
    cases hrp : rP Z S al d r q with
    | false => rfl
    | true =>
      exfalso
      unfold rP at hrp
      simp only [Bool.and_eq_true, decide_eq_true_eq] at hrp
      obtain ⟨g1, g2, g3⟩ := may_n hV hrp.1.1
      rcases Nat.lt_or_ge (q / 8) (q % 8) with hl | hl
      · have := ff_none e q hq
        unfold sP at this
        rw [decide_eq_true hl, hrp.1.1, (zb_bit).2 ⟨r, hr, hrp.1.2.symm⟩, decide_eq_true (by rw [hrp.1.2, hrp.2])] at this
        cases this
      · have := ff_none e (8 * (q % 8) + q / 8) (by omega)
        unfold sP at this
        rw [show (8 * (q % 8) + q / 8) / 8 = q % 8 by omega, show (8 * (q % 8) + q / 8) % 8 = q / 8 by omega, decide_eq_true (by omega), may_sym, hrp.1.1, (zb_bit).2 ⟨r, hr, hrp.2.symm⟩, decide_eq_true (by rw [hrp.1.2, hrp.2])] at this
        cases this
  | some q =>
    show _ = false
    obtain ⟨h1, h2, _⟩ := ff_some e
    cases hf : fo (fun r b => aF (rP Z S al d r) 64 b) Z.1 true with
    | false => rfl
    | true =>
      exfalso
      unfold sP at h2
      simp only [Bool.and_eq_true, decide_eq_true_eq] at h2
      obtain ⟨r, hr, hrb⟩ := (zb_bit).1 h2.1.1.2
      have := (key Z.1).1 hf r hr q h1
      unfold rP at this
      rw [h2.2, decide_eq_true hrb.symm, decide_eq_true (by rw [← h2.1.2]; exact hrb.symm)] at this
      cases this
theorem X6_silent_s (hR : AR M u tx n ea K S d0 s A kp A1 A2 Z) (hT : TR M u 1 n day al K S d) (hV : t_ok n al K d) (hS : ∀ i, i < n → S i ≤ 3) (hZ6 : Z.1 ≤ 6) (hZ3 : ∀ k, k < Z.1 → Z.2 k ≤ 3) : X6_areSilent u (nI 1) M = some (b2 (!(ff (sP Z S al d) 64).isSome), M) := by
  unfold X6_areSilent
  rw [← sil_eq (S := S) hV]
  refine lp (S := Int32 × Int32 × Mem) (fun f z => X6_areSilent_4 u (nI 1) f z.1 z.2.1 z.2.2) (fun k z => z = (b2 (fo (fun r b => aF (rP Z S al d r) 64 b) k true), nI k, M)) (fun res => res = some (b2 (fo (fun r b => aF (rP Z S al d r) 64 b) Z.1 true), M)) Z.1 ?_ ?_ 0 FU (b2 true, nI 0, M) (by omega) (FU_lt (by omega)) rfl
  · intro k f z hk e
    subst e
    left
    refine ⟨(b2 (fo (fun r b => aF (rP Z S al d r) 64 b) (k + 1) true), nI (k + 1), M), ?_, rfl⟩
    show X6_areSilent_4 u (nI 1) (f + 1) _ (nI k) M = _
    rw [X6_areSilent_4, hR.2.2.2.2.2.2.2.2.2.1, if_neg (nI_ge hk (by omega)), nl0, X6_sil15_s (Z := Z) hT hV hS (by omega) (hR.2.2.2.2.2.2.2.2.2.2 k hk) (hZ3 k hk)]
    rfl
  · intro f z e
    subst e
    show X6_areSilent_4 u (nI 1) (f + 1) _ (nI Z.1) M = _
    rw [X6_areSilent_4, hR.2.2.2.2.2.2.2.2.2.1, if_pos (nI_le (Nat.le_refl _) (by omega)), zz_rz]
end FITS
