/-! ===== how many mouths a word goes through ===== -/
def stp (R : Nat → Nat) (n S : Nat) : Nat := fo (fun i x => if S.testBit i = true then x ||| R i else x) n 0
def Wk (R : Nat → Nat) (n a : Nat) : Nat → Nat
  | 0 => 2 ^ a
  | k + 1 => Wk R n a k ||| stp R n (Wk R n a k)
section WORD
variable {M M' : Mem} {t t1 u n ea kp i j c kind day al a b : Nat} {K S : Nat → Nat} {d0 d : Dm} {s : Ts} {A A1 A2 : Al} {tx Z : Tx} {R : Nat → Nat}
theorem st_bit {W : Nat} : ∀ k, (fo (fun i x => if W.testBit i = true then x ||| R i else x) k 0).testBit b = true ↔ ∃ i, i < k ∧ W.testBit i = true ∧ (R i).testBit b = true := by
  intro k
  induction k with
  | zero =>
    constructor
    · intro h
      rw [show fo (fun i x => if W.testBit i = true then x ||| R i else x) 0 0 = 0 from rfl, Nat.zero_testBit] at h
      cases h
    · intro h
      obtain ⟨r, hr, _⟩ := h
      omega
  | succ k ih =>
    show (if W.testBit k = true then fo (fun i x => if W.testBit i = true then x ||| R i else x) k 0 ||| R k else fo (fun i x => if W.testBit i = true then x ||| R i else x) k 0).testBit b = true ↔ _
    by_cases hw : W.testBit k = true
    · rw [if_pos hw, Nat.testBit_or, Bool.or_eq_true, ih]
      constructor
      · intro h
        rcases h with ⟨r, h1, h2⟩ | h
        · exact ⟨r, by omega, h2⟩
        · exact ⟨k, by omega, hw, h⟩
      · intro h
        obtain ⟨r, h1, h2, h3⟩ := h
        by_cases hz : r = k
        · right
          rw [← hz]; exact h3
        · exact Or.inl ⟨r, by omega, h2, h3⟩
    · rw [if_neg hw, ih]
      constructor
      · intro h
        obtain ⟨r, h1, h2⟩ := h
        exact ⟨r, by omega, h2⟩
      · intro h
        obtain ⟨r, h1, h2, h3⟩ := h
        by_cases hz : r = k
        · rw [hz] at h2; exact absurd h2 hw
        · exact ⟨r, by omega, h2, h3⟩
theorem st_lt {W : Nat} (hR : ∀ i, i < n → R i < 128) : ∀ k, k ≤ n → fo (fun i x => if W.testBit i = true then x ||| R i else x) k 0 < 2 ^ 7 := by
  intro k
  induction k with
  | zero => intro _; exact (by decide : (0 : Nat) < 2 ^ 7)
  | succ k ih =>
    intro hk
    show (if W.testBit k = true then fo (fun i x => if W.testBit i = true then x ||| R i else x) k 0 ||| R k else fo (fun i x => if W.testBit i = true then x ||| R i else x) k 0) < 2 ^ 7
    split
    · exact Nat.or_lt_two_pow (ih (by omega)) (hR k (by omega))
    · exact ih (by omega)
theorem stp_lt {W : Nat} (hR : ∀ i, i < n → R i < 128) : stp R n W < 128 := st_lt hR n (Nat.le_refl _)
theorem Wk_lt (hR : ∀ i, i < n → R i < 128) (ha : a < 7) : ∀ k, Wk R n a k < 128 := by
  intro k
  induction k with
  | zero => exact Nat.pow_lt_pow_right (n := 7) (by omega) ha
  | succ k ih => exact Nat.or_lt_two_pow (n := 7) ih (stp_lt hR)
theorem X2_any_s {W : Nat} (hL : LK M t n R) (hn : n ≤ 7) (hW : W < 128) : X2_linkedToAny t (nI W) M = some (nI (stp R n W), M) := by
  unfold X2_linkedToAny
  refine lp (S := Int32 × Int32 × Mem) (fun f z => X2_linkedToAny_4 t (nI W) f z.1 z.2.1 z.2.2) (fun k z => z = (nI (fo (fun i x => if W.testBit i = true then x ||| R i else x) k 0), nI k, M)) (fun r => r = some (nI (stp R n W), M)) n ?_ ?_ 0 FU (nI 0, nI 0, M) (by omega) (FU_lt (by omega)) rfl
  · intro k f z hk e
    subst e
    left
    refine ⟨(nI (fo (fun i x => if W.testBit i = true then x ||| R i else x) (k + 1) 0), nI (k + 1), M), ?_, rfl⟩
    have er : fo (fun i x => if W.testBit i = true then x ||| R i else x) (k + 1) 0 = if W.testBit k = true then fo (fun i x => if W.testBit i = true then x ||| R i else x) k 0 ||| R k else fo (fun i x => if W.testBit i = true then x ||| R i else x) k 0 := rfl
    show X2_linkedToAny_4 t (nI W) (f + 1) _ (nI k) M = X2_linkedToAny_4 t (nI W) f _ (nI (k + 1)) M
    rw [X2_linkedToAny_4, hL.1, if_neg (nI_ge hk (by omega)), er, nI_1]
    by_cases hw : W.testBit k = true
    · rw [if_neg (not_not_intro ((zz_bit (by omega) (by omega)).2 hw)), if_pos hw, zz_ald (by omega) (by omega), hL.2 k (by omega), zz_let, fa_or]
    · rw [if_pos (fun h => hw ((zz_bit (by omega) (by omega)).1 h)), if_neg hw]
  · intro f z e
    subst e
    show X2_linkedToAny_4 t (nI W) (f + 1) _ (nI n) M = _
    rw [X2_linkedToAny_4, hL.1, if_pos (nI_le (Nat.le_refl _) (by omega))]
    rfl
theorem X2_steps_s (hL : LK M t n R) (hR : ∀ i, i < n → R i < 128) (hn : n ≤ 7) (ha : a < 7) (hb : b < 7) : X2_steps t (nI a) (nI b) M = some (fI (ff (fun k => (Wk R n a k).testBit b) n), M) := by
  unfold X2_steps
  rw [zz_let, zz_shl (by omega)]
  refine lp (S := Int32 × Int32 × Mem) (fun f z => X2_steps_7 t (nI b) f z.1 z.2.1 z.2.2) (fun k z => z = (nI (Wk R n a k), nI k, M) ∧ ∀ q, q < k → (Wk R n a q).testBit b = false) (fun r => r = some (fI (ff (fun k => (Wk R n a k).testBit b) n), M)) n ?_ ?_ 0 FU (nI (2 ^ a), nI 0, M) (by omega) (FU_lt (by omega)) ⟨rfl, fun q hq => by omega⟩
  · intro k f z hk ⟨e, hq⟩
    subst e
    have hW := Wk_lt hR ha k
    show (∃ s', X2_steps_7 t (nI b) (f + 1) (nI (Wk R n a k)) (nI k) M = _ ∧ _) ∨ X2_steps_7 t (nI b) (f + 1) (nI (Wk R n a k)) (nI k) M = _
    rw [X2_steps_7, hL.1, if_neg (nI_ge hk (by omega))]
    by_cases hw : (Wk R n a k).testBit b = true
    · right
      rw [if_neg (not_not_intro ((zz_bit (by omega) (by omega)).2 hw)), ff_is hk hw hq]
      rfl
    · left
      rw [if_pos (fun h => hw ((zz_bit (by omega) (by omega)).1 h)), X2_any_s hL hn hW, zz_call, zz_let, fa_or, nI_1]
      refine ⟨(nI (Wk R n a (k + 1)), nI (k + 1), M), rfl, rfl, fun q hq' => ?_⟩
      by_cases hz : q = k
      · rw [hz]; simpa using hw
      · exact hq q (by omega)
  · intro f z ⟨e, hq⟩
    subst e
    show X2_steps_7 t (nI b) (f + 1) _ (nI n) M = _
    rw [X2_steps_7, hL.1, if_pos (nI_le (Nat.le_refl _) (by omega)), ff_no hq]
    rfl
/-! reached within k steps -/
def Rd (E : Nat → Nat → Prop) : Nat → Nat → Nat → Prop
  | 0, a, b => a = b
  | k + 1, a, b => Rd E k a b ∨ ∃ c, Rd E k a c ∧ E c b
theorem Wk_Rd {E : Nat → Nat → Prop} (hE : ∀ c b, E c b ↔ c < n ∧ (R c).testBit b = true) : ∀ k b, (Wk R n a k).testBit b = true ↔ Rd E k a b := by
  intro k
  induction k with
  | zero =>
    intro b
    show (2 ^ a).testBit b = true ↔ a = b
    rw [Nat.testBit_two_pow, decide_eq_true_iff]
  | succ k ih =>
    intro b
    show (Wk R n a k ||| stp R n (Wk R n a k)).testBit b = true ↔ Rd E k a b ∨ ∃ c, Rd E k a c ∧ E c b
    rw [Nat.testBit_or, Bool.or_eq_true, ih b]
    unfold stp
    rw [st_bit n]
    constructor
    · intro h
      rcases h with h | ⟨c, h1, h2, h3⟩
      · exact Or.inl h
      · exact Or.inr ⟨c, (ih c).1 h2, (hE c b).2 ⟨h1, h3⟩⟩
    · intro h
      rcases h with h | ⟨c, h1, h2⟩
      · exact Or.inl h
      · obtain ⟨h3, h4⟩ := (hE c b).1 h2
        exact Or.inr ⟨c, h3, (ih c).2 h1, h4⟩
theorem Rd_front {E : Nat → Nat → Prop} : ∀ k a b, Rd E (k + 1) a b ↔ Rd E k a b ∨ ∃ c, E a c ∧ Rd E k c b := by
  intro k
  induction k with
  | zero =>
    intro a b
    show (a = b ∨ ∃ c, a = c ∧ E c b) ↔ (a = b ∨ ∃ c, E a c ∧ c = b)
    constructor
    · intro h
      rcases h with h | ⟨c, rfl, h⟩
      · exact Or.inl h
      · exact Or.inr ⟨b, h, rfl⟩
    · intro h
      rcases h with h | ⟨c, h, rfl⟩
      · exact Or.inl h
      · exact Or.inr ⟨a, rfl, h⟩
  | succ k ih =>
    intro a b
    show (Rd E (k + 1) a b ∨ ∃ c, Rd E (k + 1) a c ∧ E c b) ↔ _
    constructor
    · intro h
      rcases h with h | ⟨c, h1, h2⟩
      · exact Or.inl h
      · rcases (ih a c).1 h1 with h3 | ⟨e, h3, h4⟩
        · exact Or.inl (Or.inr ⟨c, h3, h2⟩)
        · exact Or.inr ⟨e, h3, Or.inr ⟨c, h4, h2⟩⟩
    · intro h
      rcases h with h | ⟨c, h1, h2⟩
      · exact Or.inl h
      · rcases h2 with h2 | ⟨e, h2, h3⟩
        · exact Or.inl ((ih a b).2 (Or.inr ⟨c, h1, h2⟩))
        · exact Or.inr ⟨e, (ih a e).2 (Or.inr ⟨c, h1, h2⟩), h3⟩
theorem Rd_mono {E : Nat → Nat → Prop} {a b k : Nat} : ∀ m, k ≤ m → Rd E k a b → Rd E m a b := by
  intro m
  induction m with
  | zero => intro h hr; rw [show k = 0 by omega] at hr; exact hr
  | succ m ih =>
    intro h hr
    by_cases hz : k = m + 1
    · rw [← hz]; exact hr
    · exact Or.inl (ih (by omega) hr)
theorem cn_strict {P Q : Nat → Bool} {b : Nat} (h : ∀ q, P q = true → Q q = true) (hQ : Q b = true) (hP : P b = false) : ∀ N, b < N → cn P N < cn Q N := by
  intro N
  induction N with
  | zero => intro h; omega
  | succ N ih =>
    intro hb
    show cn P N + (if P N = true then 1 else 0) < cn Q N + (if Q N = true then 1 else 0)
    by_cases hz : b = N
    · subst hz
      rw [if_pos hQ, if_neg (by rw [hP]; decide)]
      have := cn_mono h b
      omega
    · have := ih (by omega)
      by_cases hp : P N = true
      · rw [if_pos hp, if_pos (h N hp)]; omega
      · rw [if_neg hp]; omega
/-- who is reached at all is reached within n - 1 steps -/
theorem Rd_sat {E : Nat → Nat → Prop} (hE : ∀ c b, E c b ↔ c < n ∧ (R c).testBit b = true) (hb : ∀ c b, E c b → b < n) (ha : a < n) : ∀ m b, Rd E m a b → Rd E (n - 1) a b := by
  have hlt : ∀ m b, Rd E m a b → b < n := by
    intro m
    induction m with
    | zero => intro b h; change a = b at h; omega
    | succ m ih =>
      intro b h
      rcases h with h | ⟨c, _, h⟩
      · exact ih b h
      · exact hb c b h
  have claim : ∀ k, (∃ j, j < k ∧ ∀ b, Rd E (j + 1) a b → Rd E j a b) ∨ k + 1 ≤ cn (fun b => (Wk R n a k).testBit b) n := by
    intro k
    induction k with
    | zero =>
      right
      have h : (Wk R n a 0).testBit a = true := (Wk_Rd hE 0 a).2 rfl
      have := cn_st (P := fun b => (Wk R n a 0).testBit b) ha h
      omega
    | succ k ih =>
      rcases ih with ⟨j, h1, h2⟩ | h
      · exact Or.inl ⟨j, by omega, h2⟩
      · by_cases hs : ∀ b, Rd E (k + 1) a b → Rd E k a b
        · exact Or.inl ⟨k, by omega, hs⟩
        · right
          have hex : ∃ b, Rd E (k + 1) a b ∧ ¬ Rd E k a b := by
            apply Classical.byContradiction
            intro hn
            apply hs
            intro b hb
            apply Classical.byContradiction
            intro hb2
            exact hn ⟨b, hb, hb2⟩
          obtain ⟨b, h1, h2⟩ := hex
          have := cn_strict (P := fun b => (Wk R n a k).testBit b) (Q := fun b => (Wk R n a (k + 1)).testBit b) (b := b) (fun q hq => (Wk_Rd hE _ q).2 (Or.inl ((Wk_Rd hE _ q).1 hq))) ((Wk_Rd hE _ b).2 h1) (by
            cases e : (Wk R n a k).testBit b with
            | false => rfl
            | true => exact absurd ((Wk_Rd hE _ b).1 e) h2) n (hlt _ b h1)
          omega
  intro m b h
  rcases claim n with ⟨j, h1, h2⟩ | h3
  · have st : ∀ q b, Rd E (j + q) a b → Rd E j a b := by
      intro q
      induction q with
      | zero => intro b h; exact h
      | succ q ih =>
        intro b h
        rcases h with h | ⟨c, h4, h5⟩
        · exact ih b h
        · exact h2 b (Or.inr ⟨c, ih c h4, h5⟩)
    have hm : Rd E (j + m) a b := Rd_mono _ (by omega) h
    exact Rd_mono _ (by omega) (st m b hm)
  · have := cn_le (P := fun b => (Wk R n a n).testBit b) n
    omega
theorem may_E (hV : t_ok n al K d) : ∀ c b, (c < n ∧ (rB (o_may al d c) n).testBit b = true) ↔ o_may al d c b = true := by
  intro c b
  rw [rB_bit, Bool.and_eq_true, decide_eq_true_iff]
  constructor
  · intro h; exact h.2.2
  · intro h
    have := may_n hV h
    exact ⟨this.1, this.2.1, h⟩
/-! the reference's word -/
def mo (al : Nat) (d : Dm) (W k : Nat) : Nat := fo (fun q x => if W.testBit (q / 8) = true ∧ o_may al d (q / 8) (q % 8) = true then x ||| 2 ^ (q % 8) else x) k W
theorem mo_bit {W : Nat} : ∀ k, (mo al d W k).testBit b = true ↔ W.testBit b = true ∨ ∃ q, q < k ∧ W.testBit (q / 8) = true ∧ o_may al d (q / 8) (q % 8) = true ∧ q % 8 = b := by
  intro k
  induction k with
  | zero =>
    constructor
    · intro h; exact Or.inl h
    · intro h
      rcases h with h | ⟨q, hq, _⟩
      · exact h
      · omega
  | succ k ih =>
    show (if W.testBit (k / 8) = true ∧ o_may al d (k / 8) (k % 8) = true then mo al d W k ||| 2 ^ (k % 8) else mo al d W k).testBit b = true ↔ _
    by_cases hc : W.testBit (k / 8) = true ∧ o_may al d (k / 8) (k % 8) = true
    · rw [if_pos hc, Nat.testBit_or, Bool.or_eq_true, ih, Nat.testBit_two_pow, decide_eq_true_iff]
      constructor
      · intro h
        rcases h with (h | ⟨q, h1, h2⟩) | h
        · exact Or.inl h
        · exact Or.inr ⟨q, by omega, h2⟩
        · exact Or.inr ⟨k, by omega, hc.1, hc.2, h⟩
      · intro h
        rcases h with h | ⟨q, h1, h2, h3, h4⟩
        · exact Or.inl (Or.inl h)
        · by_cases hz : q = k
          · exact Or.inr (by rw [← hz]; exact h4)
          · exact Or.inl (Or.inr ⟨q, by omega, h2, h3, h4⟩)
    · rw [if_neg hc, ih]
      constructor
      · intro h
        rcases h with h | ⟨q, h1, h2⟩
        · exact Or.inl h
        · exact Or.inr ⟨q, by omega, h2⟩
      · intro h
        rcases h with h | ⟨q, h1, h2, h3, h4⟩
        · exact Or.inl h
        · by_cases hz : q = k
          · rw [hz] at h2 h3; exact absurd ⟨h2, h3⟩ hc
          · exact Or.inr ⟨q, by omega, h2, h3, h4⟩
theorem mo_stp {W : Nat} (hV : t_ok n al K d) : mo al d W 64 = W ||| stp (fun a => rB (o_may al d a) n) n W := by
  have w := hV.1
  apply Nat.eq_of_testBit_eq
  intro b
  apply Bool.eq_iff_iff.2
  rw [mo_bit, Nat.testBit_or, Bool.or_eq_true]
  unfold stp
  rw [st_bit n]
  constructor
  · intro h
    rcases h with h | ⟨q, h1, h2, h3, h4⟩
    · exact Or.inl h
    · obtain ⟨g1, g2, g3⟩ := may_n hV h3
      refine Or.inr ⟨q / 8, g1, h2, ?_⟩
      show (rB (o_may al d (q / 8)) n).testBit b = true
      rw [rB_bit, ← h4, h3, decide_eq_true g2]
      rfl
  · intro h
    rcases h with h | ⟨c, h1, h2, h3⟩
    · exact Or.inl h
    · change (rB (o_may al d c) n).testBit b = true at h3
      have h4 := (may_E hV c b).1 ⟨h1, h3⟩
      obtain ⟨g1, g2, g3⟩ := may_n hV h4
      refine Or.inr ⟨8 * c + b, by omega, ?_, ?_, by omega⟩
      · rw [show (8 * c + b) / 8 = c by omega]; exact h2
      · rw [show (8 * c + b) / 8 = c by omega, show (8 * c + b) % 8 = b by omega]; exact h4
theorem X6_word62_s {W : Nat} {x2 x4 : Int32} {k38 : Int32 → Int32 → Mem → Option (Int32 × Mem)} (hT : TR M u 0 n day al K S d) (hV : t_ok n al K d) (hW : W < 128) : X6_word_62 u x2 (nI W) x4 k38 FU (nI W) (nI 0) M = k38 (nI (mo al d W 64)) (x4 + nI 1) M := by
  refine lp (S := Int32 × Int32 × Mem) (fun f z => X6_word_62 u x2 (nI W) x4 k38 f z.1 z.2.1 z.2.2) (fun k z => z = (nI (mo al d W k), nI k, M)) (fun r => r = k38 (nI (mo al d W 64)) (x4 + nI 1) M) 64 ?_ ?_ 0 FU (nI W, nI 0, M) (by omega) (FU_lt (by omega)) rfl
  · intro k f z hk e
    subst e
    left
    refine ⟨(nI (mo al d W (k + 1)), nI (k + 1), M), ?_, rfl⟩
    have er : mo al d W (k + 1) = if W.testBit (k / 8) = true ∧ o_may al d (k / 8) (k % 8) = true then mo al d W k ||| 2 ^ (k % 8) else mo al d W k := rfl
    show X6_word_62 u x2 (nI W) x4 k38 (f + 1) (nI (mo al d W k)) (nI k) M = X6_word_62 u x2 (nI W) x4 k38 f _ (nI (k + 1)) M
    rw [X6_word_62, if_neg (show ¬ (64 : Int32) ≤ nI k from nI_ge (b := 64) hk (by omega)), nl8, zz_div (by omega) (by omega) (by omega), X6_has_s (by omega) (by omega), zz_call, nI_1, er]
    cases hw : W.testBit (k / 8) with
    | false =>
      rw [if_pos (by decide), zz_let, nl0, fa_or, Nat.or_zero, if_neg (fun h => by cases h.1)]
    | true =>
      rw [if_neg (by decide), zz_div (by omega) (by omega) (by omega), zz_rem (by omega) (by omega) (by omega), nl0, X6_maySpeak_s hT hV (by omega) (by omega) (by omega), zz_call, zz_rem (by omega) (by omega) (by omega)]
      cases hm : o_may al d (k / 8) (k % 8) with
      | false =>
        rw [if_pos (by decide), zz_let, fa_or, Nat.or_zero, if_neg (fun h => by cases h.2)]
      | true =>
        rw [if_neg (by decide), zz_let, zz_shl (by omega), fa_or, if_pos ⟨rfl, rfl⟩]
  · intro f z e
    subst e
    show X6_word_62 u x2 (nI W) x4 k38 (f + 1) _ (nI 64) M = _
    rw [X6_word_62, if_pos (by decide)]
    rfl
theorem P_word {x y : Int32} (hC : AC M t tx n ea K S d0 s A kp A1 A2 Z) (hR : AR M u tx n ea K S d0 s A kp A1 A2 Z) (hV : SV tx n ea K S d0 s A kp A1 A2 Z) (htu : t + 44 ≤ u) : PS t u M (X5_word t x y) (X6_word u x y) := by
  have hn := hV.2.1
  have hn7 := hV.2.2.2.2.1.1
  have hV1 := hV.2.2.2.2.2.1
  have qa := hV1.al
  rcases inR_c (lo := 0) (hi := n - 1) (x := x) (by omega) (by omega) with ⟨h, i, _, hi, rfl⟩ | ⟨h, _⟩
  · rcases inR_c (lo := 0) (hi := n - 1) (x := y) (by omega) (by omega) with ⟨h', j, _, hj, rfl⟩ | ⟨h', _⟩
    · obtain ⟨R, hRdef⟩ : ∃ R : Nat → Nat, R = fun a => rB (o_may s.1 s.2.2 a) n := ⟨_, rfl⟩
      have hR128 : ∀ i, i < n → R i < 128 := fun i _ => by rw [hRdef]; exact rB_7 hn7
      have hE : ∀ c b, o_may s.1 s.2.2 c b = true ↔ c < n ∧ (R c).testBit b = true := fun c b => by rw [hRdef]; exact (may_E hV1 c b).symm
      -- the reference: eight turns
      have ref : ∀ M1, AR M1 u tx n ea K S d0 s A kp A1 A2 Z → s.1.testBit i = true → X6_word u (nI i) (nI j) M1 = some (fI (ff (fun k => (Wk R n i k).testBit j) 8), M1) := by
        intro M1 hR1 hal
        unfold X6_word
        rw [X6_isPerson_s hR1 hn hn7, h, zz_call, if_neg (by decide), X6_isPerson_s hR1 hn hn7, h', zz_call, if_pos (by decide), show X6_isAlive u 0 (nI i) M1 = _ from X6_isAlive_s (b := 0) hR1.2.2.2.2.1 (by omega) qa (by omega), hal, zz_call, if_neg (by decide), zz_let, zz_shl (by omega)]
        refine lp (S := Int32 × Int32 × Mem) (fun f z => X6_word_38 u (nI j) f z.1 z.2.1 z.2.2) (fun k z => z = (nI (Wk R n i k), nI k, M1) ∧ ∀ q, q < k → (Wk R n i q).testBit j = false) (fun r => r = some (fI (ff (fun k => (Wk R n i k).testBit j) 8), M1)) 8 ?_ ?_ 0 FU (nI (2 ^ i), nI 0, M1) (by omega) (FU_lt (by omega)) ⟨rfl, fun q hq => by omega⟩
        · intro k f z hk ⟨e, hq⟩
          subst e
          have hW := Wk_lt hR128 (show i < 7 by omega) k
          show (∃ s', X6_word_38 u (nI j) (f + 1) (nI (Wk R n i k)) (nI k) M1 = _ ∧ _) ∨ X6_word_38 u (nI j) (f + 1) (nI (Wk R n i k)) (nI k) M1 = _
          rw [X6_word_38, if_neg (show ¬ (8 : Int32) ≤ nI k from nI_ge (b := 8) hk (by omega)), X6_has_s (by omega) (by omega), zz_call]
          cases hw : (Wk R n i k).testBit j with
          | true =>
            right
            rw [if_neg (by decide), ff_is hk hw hq]
            rfl
          | false =>
            left
            rw [if_pos (by decide), nl0, X6_word62_s hR1.2.2.2.2.1 hV1 hW, mo_stp hV1, ← hRdef, nI_add]
            refine ⟨(nI (Wk R n i (k + 1)), nI (k + 1), M1), rfl, rfl, fun q hq' => ?_⟩
            by_cases hz : q = k
            · rw [hz]; exact hw
            · exact hq q (by omega)
        · intro f z ⟨e, hq⟩
          subst e
          show X6_word_38 u (nI j) (f + 1) _ (nI 8) M1 = _
          rw [X6_word_38, if_pos (by decide), ff_no hq]
          rfl
      have e8 : ff (fun k => (Wk R n i k).testBit j) 8 = ff (fun k => (Wk R n i k).testBit j) n := by
        cases e : ff (fun k => (Wk R n i k).testBit j) n with
        | some k =>
          obtain ⟨h1, h2, h3⟩ := ff_some e
          exact ff_is (by omega) h2 h3
        | none =>
          apply ff_no
          intro k hk
          cases e2 : (Wk R n i k).testBit j with
          | false => rfl
          | true =>
            have h1 := Rd_sat (E := fun c b => o_may s.1 s.2.2 c b = true) hE (fun c b hcb => (may_n hV1 hcb).2.1) (show i < n by omega) k j ((Wk_Rd hE k j).1 e2)
            have h2 := (Wk_Rd hE (n - 1) j).2 h1
            have h3 : (Wk R n i (n - 1)).testBit j = false := ff_none e (n - 1) (by omega)
            rw [h3] at h2
            cases h2
      by_cases ha : s.1.testBit i = true ∧ s.1.testBit j = true
      · refine PS.ro (v := fI (ff (fun k => (Wk R n i k).testBit j) n)) hC hR hV htu ?_ (fun M1 hR1 => ⟨M1, ?_, ScR.rf⟩)
        · obtain ⟨M1, e1, hL1, hS1⟩ := hC.speakers hV1
          rw [← hRdef] at hL1
          refine ⟨M1, ?_, hS1⟩
          unfold X5_word
          rw [X5_isPerson_s hC hn hn7, h, zz_call, if_neg (by decide), X5_isPerson_s hC hn hn7, h', zz_call, if_pos (by decide), X4_isAlive_s hC.2.2.1 qa (by omega), ha.1, zz_call, if_neg (by decide), X4_isAlive_s hC.2.2.1 qa (by omega), ha.2, zz_call, if_pos (by decide), e1, zz_call, X2_steps_s hL1 hR128 hn7 (by omega) (by omega), zz_call]
        · rw [ref M1 hR1 ha.1, e8]
      · refine PS.ro (v := -4) hC hR hV htu ⟨M, ?_, Sc.rf⟩ (fun M1 hR1 => ⟨M1, ?_, ScR.rf⟩)
        · unfold X5_word
          rw [X5_isPerson_s hC hn hn7, h, zz_call, if_neg (by decide), X5_isPerson_s hC hn hn7, h', zz_call, if_pos (by decide), X4_isAlive_s hC.2.2.1 qa (by omega), zz_call]
          cases h1 : s.1.testBit i with
          | false => rw [if_pos (by decide)]
          | true =>
            rw [if_neg (by decide), X4_isAlive_s hC.2.2.1 qa (by omega), zz_call]
            cases h2 : s.1.testBit j with
            | false => rw [if_neg (by decide)]
            | true => exact absurd ⟨h1, h2⟩ ha
        · cases h1 : s.1.testBit i with
          | true =>
            rw [ref M1 hR1 h1]
            have hj2 : s.1.testBit j = false := by
              cases h2 : s.1.testBit j with
              | false => rfl
              | true => exact absurd ⟨h1, h2⟩ ha
            have : ff (fun k => (Wk R n i k).testBit j) 8 = none := by
              apply ff_no
              intro k _
              cases e2 : (Wk R n i k).testBit j with
              | false => rfl
              | true =>
                have h3 := (Wk_Rd hE k j).1 e2
                have key : ∀ k, Rd (fun c b => o_may s.1 s.2.2 c b = true) k i j → i = j ∨ s.1.testBit j = true := by
                  intro k
                  induction k with
                  | zero => intro h; exact Or.inl h
                  | succ k ih =>
                    intro h
                    rcases h with h | ⟨c, _, h⟩
                    · exact ih h
                    · right
                      unfold o_may at h
                      simp only [Bool.and_eq_true] at h
                      exact h.1.1.2
                rcases key k h3 with h4 | h4
                · rw [h4, hj2] at h1; cases h1
                · rw [hj2] at h4; cases h4
            rw [this]
            rfl
          | false =>
            unfold X6_word
            rw [X6_isPerson_s hR1 hn hn7, h, zz_call, if_neg (by decide), X6_isPerson_s hR1 hn hn7, h', zz_call, if_pos (by decide), show X6_isAlive u 0 (nI i) M1 = _ from X6_isAlive_s (b := 0) hR1.2.2.2.2.1 (by omega) qa (by omega), h1, zz_call, if_pos (by decide)]
            refine lp (S := Int32 × Int32 × Mem) (fun f z => X6_word_38 u (nI j) f z.1 z.2.1 z.2.2) (fun k z => z = (nI 0, nI k, M1)) (fun r => r = some (-4, M1)) 8 ?_ ?_ 0 FU (nI 0, nI 0, M1) (by omega) (FU_lt (by omega)) rfl
            · intro k f z hk e
              subst e
              left
              refine ⟨(nI 0, nI (k + 1), M1), ?_, rfl⟩
              show X6_word_38 u (nI j) (f + 1) (nI 0) (nI k) M1 = _
              have e0 : mo s.1 s.2.2 0 64 = 0 := by
                apply Nat.eq_of_testBit_eq
                intro b
                rw [Nat.zero_testBit]
                cases e : (mo s.1 s.2.2 0 64).testBit b with
                | false => rfl
                | true =>
                  rcases (mo_bit 64).1 e with h | ⟨q, _, h, _⟩
                  · rw [Nat.zero_testBit] at h; cases h
                  · rw [Nat.zero_testBit] at h; cases h
              rw [X6_word_38, if_neg (show ¬ (8 : Int32) ≤ nI k from nI_ge (b := 8) hk (by omega)), X6_has_s (by omega) (by omega), zz_call, Nat.zero_testBit, if_pos (by decide), show (0 : Int32) = nI 0 from rfl, X6_word62_s hR1.2.2.2.2.1 hV1 (by omega), e0, nI_add]
            · intro f z e
              subst e
              show X6_word_38 u (nI j) (f + 1) _ (nI 8) M1 = _
              rw [X6_word_38, if_pos (by decide)]
    · refine PS.ro (v := -1) hC hR hV htu ⟨M, ?_, Sc.rf⟩ (fun M1 hR1 => ⟨M1, ?_, ScR.rf⟩)
      · unfold X5_word
        rw [X5_isPerson_s hC hn hn7, h, zz_call, if_neg (by decide), X5_isPerson_s hC hn hn7, h', zz_call, if_neg (by decide)]
      · unfold X6_word
        rw [X6_isPerson_s hR1 hn hn7, h, zz_call, if_neg (by decide), X6_isPerson_s hR1 hn hn7, h', zz_call, if_neg (by decide)]
  · refine PS.ro (v := -1) hC hR hV htu ⟨M, ?_, Sc.rf⟩ (fun M1 hR1 => ⟨M1, ?_, ScR.rf⟩)
    · unfold X5_word
      rw [X5_isPerson_s hC hn hn7, h, zz_call, if_pos (by decide)]
    · unfold X6_word
      rw [X6_isPerson_s hR1 hn hn7, h, zz_call, if_pos (by decide)]
end WORD
