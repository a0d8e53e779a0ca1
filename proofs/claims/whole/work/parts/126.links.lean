/-! ===== links ===== -/
def rB (P : Nat → Bool) (k : Nat) : Nat := fo (fun j x => if P j = true then x ||| 2 ^ j else x) k 0
theorem rB_bit {P : Nat → Bool} {b : Nat} : ∀ k, (rB P k).testBit b = (decide (b < k) && P b) := by
  intro k
  induction k with
  | zero =>
    show (0 : Nat).testBit b = _
    rw [Nat.zero_testBit, decide_eq_false (by omega)]
    rfl
  | succ k ih =>
    show (if P k = true then rB P k ||| 2 ^ k else rB P k).testBit b = _
    by_cases hp : P k = true
    · rw [if_pos hp, Nat.testBit_or, ih]
      by_cases hz : b = k
      · rw [hz, Nat.testBit_two_pow_self, hp, decide_eq_true (show k < k + 1 by omega)]
        simp
      · rw [Nat.testBit_two_pow_of_ne (Ne.symm hz), Bool.or_false]
        by_cases hb : b < k
        · rw [decide_eq_true hb, decide_eq_true (by omega)]
        · rw [decide_eq_false hb, decide_eq_false (by omega)]
    · rw [if_neg hp, ih]
      by_cases hz : b = k
      · have : P k = false := by simpa using hp
        rw [hz, this, Bool.and_false, Bool.and_false]
      · by_cases hb : b < k
        · rw [decide_eq_true hb, decide_eq_true (by omega)]
        · rw [decide_eq_false hb, decide_eq_false (by omega)]
theorem rB_lt {P : Nat → Bool} : ∀ k, rB P k < 2 ^ k := by
  intro k
  induction k with
  | zero => exact (by decide : (0 : Nat) < 2 ^ 0)
  | succ k ih =>
    show (if P k = true then rB P k ||| 2 ^ k else rB P k) < 2 ^ (k + 1)
    have h1 : rB P k < 2 ^ (k + 1) := Nat.lt_trans ih (Nat.pow_lt_pow_right (by omega) (by omega))
    split
    · exact Nat.or_lt_two_pow h1 (Nat.pow_lt_pow_right (by omega) (by omega))
    · exact h1
theorem rB_7 {P : Nat → Bool} {k : Nat} (h : k ≤ 7) : rB P k < 128 := Nat.lt_of_lt_of_le (rB_lt k) (Nat.pow_le_pow_right (n := 2) (by omega) h)
def LK (M : Mem) (t n : Nat) (R : Nat → Nat) : Prop := M t 2 = nI n ∧ ∀ i, i < 7 → M (t + 1) i = nI (R i)
section LINKS
variable {M M' : Mem} {t t1 u n ea kp i j c kind day al : Nat} {K S : Nat → Nat} {d0 d : Dm} {s : Ts} {A A1 A2 : Al} {tx Z : Tx} {R : Nat → Nat}
theorem X2_clear_s (hn : n ≤ 7) : ∃ M', X2_clear t (nI n) M = some ((), M') ∧ LK M' t n (fun _ => 0) ∧ Fr t (t + 2) M M' := by
  obtain ⟨M', e, h1, h2⟩ := J7_fill_s (M := me_upd M t 2 (nI n)) (c := t + 1) (len := 7) (by omega)
  refine ⟨M', ?_, ⟨?_, fun i hi => h1 i hi⟩, fun c hc => by rw [h2 c (by omega), up_c (by omega)]⟩
  · unfold X2_clear
    rw [zz_put, show (if (7 : Int32) < nI n then (7 : Int32) else nI n) = nI n from if_neg (nI_nlt (a := 7) hn (by omega)), nl0, e, zz_call]
  · rw [h2 t (by omega), up_s]
theorem X2_link_s (h : LK M t n R) (hn : n ≤ 7) (hi : i < n) (hj : j < n) : ∃ M', X2_link t (nI i) (nI j) M = some ((), M') ∧ LK M' t n (fun a => if a = i then R a ||| 2 ^ j else R a) ∧ Fr t (t + 2) M M' := by
  obtain ⟨h0, h1⟩ := h
  refine ⟨me_upd M (t + 1) i (nI (R i ||| 2 ^ j)), ?_, ⟨by rw [up_c (by omega)]; exact h0, fun a ha => ?_⟩, Fr.up (by omega) (by omega)⟩
  · unfold X2_link
    rw [h0, if_neg (nI_ge hi (by omega)), if_neg (nI_ge hj (by omega)), zz_ald (by omega) (by omega), h1 i (by omega), zz_shl (by omega), fa_or, zz_ast (by omega) (by omega)]
  · by_cases hz : a = i
    · rw [hz, up_s]
      show _ = nI (if i = i then R i ||| 2 ^ j else R i)
      rw [if_pos rfl]
    · rw [up_j hz]
      show _ = nI (if a = i then R a ||| 2 ^ j else R a)
      rw [if_neg hz]
      exact h1 a ha
theorem LK.ext {R' : Nat → Nat} (h : LK M t n R) (e : ∀ i, i < 7 → R i = R' i) : LK M t n R' := ⟨h.1, fun i hi => by rw [← e i hi]; exact h.2 i hi⟩
theorem LK.fr (h : LK M t n R) (e : ∀ c, t ≤ c → c < t + 2 → M' c = M c) : LK M' t n R := by
  unfold LK
  rw [e t (by omega) (by omega), e (t + 1) (by omega) (by omega)]
  exact h
/-- rows as they are laid: row i, as far as j -/
def lR (P : Nat → Nat → Bool) (n i j a : Nat) : Nat := if a < i then rB (P a) n else if a = i then rB (P a) j else 0
theorem lR_t {P : Nat → Nat → Bool} {a : Nat} (h : P i j = true) : (if a = i then lR P n i j a ||| 2 ^ j else lR P n i j a) = lR P n i (j + 1) a := by
  unfold lR
  by_cases hz : a = i
  · rw [if_pos hz, hz, if_neg (by omega), if_pos rfl, if_neg (by omega), if_pos rfl]
    show _ = if P i j = true then rB (P i) j ||| 2 ^ j else rB (P i) j
    rw [if_pos h]
  · rw [if_neg hz, if_neg hz, if_neg hz]
theorem lR_f {P : Nat → Nat → Bool} {a : Nat} (h : P i j = false) : lR P n i j a = lR P n i (j + 1) a := by
  unfold lR
  by_cases hz : a = i
  · rw [hz, if_neg (by omega), if_pos rfl, if_neg (by omega), if_pos rfl]
    show _ = if P i j = true then rB (P i) j ||| 2 ^ j else rB (P i) j
    rw [if_neg (by rw [h]; decide)]
  · rw [if_neg hz, if_neg hz]
theorem lR_n {P : Nat → Nat → Bool} {a : Nat} : lR P n i n a = lR P n (i + 1) 0 a := by
  unfold lR
  by_cases hl : a < i
  · rw [if_pos hl, if_pos (by omega)]
  · rw [if_neg hl]
    by_cases hz : a = i
    · rw [if_pos hz, if_pos (by omega)]
    · rw [if_neg hz, if_neg (by omega)]
      split <;> rfl
theorem X4_lsp20_s {k10 : Int32 → Mem → Option (Unit × Mem)} (hT : TC M t n day ea al K S d) (hV : t_ok n al K d) (ht : t + 5 ≤ t1) (hi : i < n) (hL : LK M t1 n (lR (o_may al d) n i 0)) :
    ∃ M', X4_linkSpeakers_20 t t1 (nI i) k10 FU (nI 0) M = k10 (nI (i + 1)) M' ∧ LK M' t1 n (lR (o_may al d) n (i + 1) 0) ∧ Fr t1 (t1 + 2) M M' := by
  have w := hV.1
  refine lp (S := Int32 × Mem) (fun f z => X4_linkSpeakers_20 t t1 (nI i) k10 f z.1 z.2) (fun k z => z.1 = nI k ∧ LK z.2 t1 n (lR (o_may al d) n i k) ∧ Fr t1 (t1 + 2) M z.2) (fun r => ∃ M', r = k10 (nI (i + 1)) M' ∧ LK M' t1 n (lR (o_may al d) n (i + 1) 0) ∧ Fr t1 (t1 + 2) M M') n ?_ ?_ 0 FU (nI 0, M) (by omega) (FU_lt (by omega)) ⟨rfl, hL, Fr.rf⟩
  · intro k f z hk ⟨e1, hT1, hF1⟩
    obtain ⟨x, M1⟩ := z
    dsimp only at e1 hT1 hF1
    subst e1
    left
    have hT2 : TC M1 t n day ea al K S d := hT.fr (fun c h1 h2 => hF1 c (by omega))
    show ∃ s', X4_linkSpeakers_20 t t1 (nI i) k10 (f + 1) (nI k) M1 = _ ∧ _
    rw [X4_linkSpeakers_20, hT2.1, if_neg (nI_ge hk (by omega)), X4_maySpeak_s hT2 hV (by omega) (by omega), zz_call, nI_1]
    cases hm : o_may al d i k with
    | false =>
      rw [if_pos (by decide)]
      exact ⟨(nI (k + 1), M1), rfl, rfl, hT1.ext (fun a _ => lR_f hm), hF1⟩
    | true =>
      obtain ⟨M2, e2, hL2, hF2⟩ := X2_link_s hT1 w hi hk
      rw [if_neg (by decide), e2, zz_call]
      exact ⟨(nI (k + 1), M2), rfl, rfl, hL2.ext (fun a _ => lR_t hm), hF1.tr hF2⟩
  · intro f z ⟨e1, hT1, hF1⟩
    obtain ⟨x, M1⟩ := z
    dsimp only at e1 hT1 hF1
    subst e1
    have hT2 : TC M1 t n day ea al K S d := hT.fr (fun c h1 h2 => hF1 c (by omega))
    refine ⟨M1, ?_, hT1.ext (fun a _ => lR_n), hF1⟩
    show X4_linkSpeakers_20 t t1 (nI i) k10 (f + 1) (nI n) M1 = _
    rw [X4_linkSpeakers_20, hT2.1, if_pos (nI_le (Nat.le_refl _) (by omega)), nI_1]
theorem X4_ldb20_s {k10 : Int32 → Mem → Option (Unit × Mem)} (hT : TC M t n day ea al K S d) (hV : t_ok n al K d) (ht : t + 5 ≤ t1) (hi : i < n) (hL : LK M t1 n (lR (fun a b => decide (0 < d a b)) n i 0)) :
    ∃ M', X4_linkDebts_20 t t1 (nI i) k10 FU (nI 0) M = k10 (nI (i + 1)) M' ∧ LK M' t1 n (lR (fun a b => decide (0 < d a b)) n (i + 1) 0) ∧ Fr t1 (t1 + 2) M M' := by
  have w := hV.1
  refine lp (S := Int32 × Mem) (fun f z => X4_linkDebts_20 t t1 (nI i) k10 f z.1 z.2) (fun k z => z.1 = nI k ∧ LK z.2 t1 n (lR (fun a b => decide (0 < d a b)) n i k) ∧ Fr t1 (t1 + 2) M z.2) (fun r => ∃ M', r = k10 (nI (i + 1)) M' ∧ LK M' t1 n (lR (fun a b => decide (0 < d a b)) n (i + 1) 0) ∧ Fr t1 (t1 + 2) M M') n ?_ ?_ 0 FU (nI 0, M) (by omega) (FU_lt (by omega)) ⟨rfl, hL, Fr.rf⟩
  · intro k f z hk ⟨e1, hT1, hF1⟩
    obtain ⟨x, M1⟩ := z
    dsimp only at e1 hT1 hF1
    subst e1
    left
    have hT2 : TC M1 t n day ea al K S d := hT.fr (fun c h1 h2 => hF1 c (by omega))
    have q9 := hV.2.2.2.1 i k
    show ∃ s', X4_linkDebts_20 t t1 (nI i) k10 (f + 1) (nI k) M1 = _ ∧ _
    rw [X4_linkDebts_20, hT2.1, if_neg (nI_ge hk (by omega)), X4_debt_s hT2 (by omega) (by omega), zz_call, nI_1]
    by_cases hm : 0 < d i k
    · obtain ⟨M2, e2, hL2, hF2⟩ := X2_link_s hT1 w hi hk
      rw [if_neg (nI_nle hm (by omega)), e2, zz_call]
      exact ⟨(nI (k + 1), M2), rfl, rfl, hL2.ext (fun a _ => lR_t (P := fun a b => decide (0 < d a b)) (decide_eq_true hm)), hF1.tr hF2⟩
    · rw [if_pos (show nI (d i k) ≤ 0 from nI_le (b := 0) (by omega) (by omega))]
      exact ⟨(nI (k + 1), M1), rfl, rfl, hT1.ext (fun a _ => lR_f (P := fun a b => decide (0 < d a b)) (decide_eq_false hm)), hF1⟩
  · intro f z ⟨e1, hT1, hF1⟩
    obtain ⟨x, M1⟩ := z
    dsimp only at e1 hT1 hF1
    subst e1
    have hT2 : TC M1 t n day ea al K S d := hT.fr (fun c h1 h2 => hF1 c (by omega))
    refine ⟨M1, ?_, hT1.ext (fun a _ => lR_n), hF1⟩
    show X4_linkDebts_20 t t1 (nI i) k10 (f + 1) (nI n) M1 = _
    rw [X4_linkDebts_20, hT2.1, if_pos (nI_le (Nat.le_refl _) (by omega)), nI_1]
theorem lR_0 {P : Nat → Nat → Bool} {a : Nat} : lR P n 0 0 a = 0 := by
  unfold lR
  rw [if_neg (by omega)]
  split <;> rfl
theorem lR_end {P : Nat → Nat → Bool} {a : Nat} (h : ∀ a b, P a b = true → a < n) : lR P n n 0 a = rB (P a) n := by
  unfold lR
  by_cases hl : a < n
  · rw [if_pos hl]
  · rw [if_neg hl]
    have e : rB (P a) n = 0 := by
      apply Nat.eq_of_testBit_eq
      intro b
      rw [rB_bit, Nat.zero_testBit]
      cases hp : P a b with
      | false => rw [Bool.and_false]
      | true => exact absurd (h a b hp) hl
    rw [e]
    split <;> rfl
theorem X4_linkSpeakers_s (hT : TC M t n day ea al K S d) (hV : t_ok n al K d) (ht : t + 5 ≤ t1) : ∃ M', X4_linkSpeakers t t1 M = some ((), M') ∧ LK M' t1 n (fun a => rB (o_may al d a) n) ∧ Fr t1 (t1 + 2) M M' := by
  have w := hV.1
  obtain ⟨M1, e1, hL1, hF1⟩ := X2_clear_s (t := t1) (M := M) w
  unfold X4_linkSpeakers
  rw [hT.1, e1, zz_call]
  refine lp (S := Int32 × Mem) (fun f z => X4_linkSpeakers_10 t t1 f z.1 z.2) (fun k z => z.1 = nI k ∧ LK z.2 t1 n (lR (o_may al d) n k 0) ∧ Fr t1 (t1 + 2) M z.2) (fun r => ∃ M', r = some ((), M') ∧ LK M' t1 n (fun a => rB (o_may al d a) n) ∧ Fr t1 (t1 + 2) M M') n ?_ ?_ 0 FU (nI 0, M1) (by omega) (FU_lt (by omega)) ⟨rfl, hL1.ext (fun a _ => lR_0.symm), hF1⟩
  · intro k f z hk ⟨e1, hT1, hF1⟩
    obtain ⟨x, M1⟩ := z
    dsimp only at e1 hT1 hF1
    subst e1
    left
    have hT2 : TC M1 t n day ea al K S d := hT.fr (fun c h1 h2 => hF1 c (by omega))
    obtain ⟨M2, e2, hL2, hF2⟩ := X4_lsp20_s (k10 := X4_linkSpeakers_10 t t1 f) hT2 hV ht hk hT1
    refine ⟨(nI (k + 1), M2), ?_, rfl, hL2, hF1.tr hF2⟩
    show X4_linkSpeakers_10 t t1 (f + 1) (nI k) M1 = _
    rw [X4_linkSpeakers_10, hT2.1, if_neg (nI_ge hk (by omega)), nl0, e2]
  · intro f z ⟨e1, hT1, hF1⟩
    obtain ⟨x, M1⟩ := z
    dsimp only at e1 hT1 hF1
    subst e1
    have hT2 : TC M1 t n day ea al K S d := hT.fr (fun c h1 h2 => hF1 c (by omega))
    refine ⟨M1, ?_, hT1.ext (fun a _ => lR_end (fun a b h => (may_n hV h).1)), hF1⟩
    show X4_linkSpeakers_10 t t1 (f + 1) (nI n) M1 = _
    rw [X4_linkSpeakers_10, hT2.1, if_pos (nI_le (Nat.le_refl _) (by omega))]
theorem X4_linkDebts_s (hT : TC M t n day ea al K S d) (hV : t_ok n al K d) (ht : t + 5 ≤ t1) : ∃ M', X4_linkDebts t t1 M = some ((), M') ∧ LK M' t1 n (fun a => rB (fun b => decide (0 < d a b)) n) ∧ Fr t1 (t1 + 2) M M' := by
  have w := hV.1
  obtain ⟨M1, e1, hL1, hF1⟩ := X2_clear_s (t := t1) (M := M) w
  unfold X4_linkDebts
  rw [hT.1, e1, zz_call]
  refine lp (S := Int32 × Mem) (fun f z => X4_linkDebts_10 t t1 f z.1 z.2) (fun k z => z.1 = nI k ∧ LK z.2 t1 n (lR (fun a b => decide (0 < d a b)) n k 0) ∧ Fr t1 (t1 + 2) M z.2) (fun r => ∃ M', r = some ((), M') ∧ LK M' t1 n (fun a => rB (fun b => decide (0 < d a b)) n) ∧ Fr t1 (t1 + 2) M M') n ?_ ?_ 0 FU (nI 0, M1) (by omega) (FU_lt (by omega)) ⟨rfl, hL1.ext (fun a _ => lR_0.symm), hF1⟩
  · intro k f z hk ⟨e1, hT1, hF1⟩
    obtain ⟨x, M1⟩ := z
    dsimp only at e1 hT1 hF1
    subst e1
    left
    have hT2 : TC M1 t n day ea al K S d := hT.fr (fun c h1 h2 => hF1 c (by omega))
    obtain ⟨M2, e2, hL2, hF2⟩ := X4_ldb20_s (k10 := X4_linkDebts_10 t t1 f) hT2 hV ht hk hT1
    refine ⟨(nI (k + 1), M2), ?_, rfl, hL2, hF1.tr hF2⟩
    show X4_linkDebts_10 t t1 (f + 1) (nI k) M1 = _
    rw [X4_linkDebts_10, hT2.1, if_neg (nI_ge hk (by omega)), nl0, e2]
  · intro f z ⟨e1, hT1, hF1⟩
    obtain ⟨x, M1⟩ := z
    dsimp only at e1 hT1 hF1
    subst e1
    have hT2 : TC M1 t n day ea al K S d := hT.fr (fun c h1 h2 => hF1 c (by omega))
    refine ⟨M1, ?_, hT1.ext (fun a _ => lR_end (P := fun a b => decide (0 < d a b)) (fun a b h => (hV.2.2.2.2 a b (Nat.ne_of_gt (of_decide_eq_true h))).1)), hF1⟩
    show X4_linkDebts_10 t t1 (f + 1) (nI n) M1 = _
    rw [X4_linkDebts_10, hT2.1, if_pos (nI_le (Nat.le_refl _) (by omega))]
theorem AC.speakers (hC : AC M t tx n ea K S d0 s A kp A1 A2 Z) (hV : t_ok n s.1 K s.2.2) : ∃ M', X4_linkSpeakers (t + 16) (t + 40) M = some ((), M') ∧ LK M' (t + 40) n (fun a => rB (o_may s.1 s.2.2 a) n) ∧ Sc t M M' := by
  obtain ⟨M', e, hL, hF⟩ := X4_linkSpeakers_s (t1 := t + 40) hC.2.2.1 hV (by omega)
  exact ⟨M', e, hL, fun c hc => hF c (by omega)⟩
theorem P_guests {x y : Int32} (hC : AC M t tx n ea K S d0 s A kp A1 A2 Z) (hR : AR M u tx n ea K S d0 s A kp A1 A2 Z) (hV : SV tx n ea K S d0 s A kp A1 A2 Z) (htu : t + 44 ≤ u) : PS t u M (X5_guests t x y) (X6_guests u x y) := by
  have hn := hV.2.1
  have hn7 := hV.2.2.2.2.1.1
  have hV1 := hV.2.2.2.2.2.1
  have qa := hV1.al
  rcases two_c (x := x) (y := y) hn hn7 with ⟨h, i, j, hi, hj, hij, rfl, rfl⟩ | h
  · by_cases ha : s.1.testBit i = true ∧ s.1.testBit j = true
    · refine PS.ro (v := nI (rB (o_may s.1 s.2.2 i) n &&& rB (o_may s.1 s.2.2 j) n)) hC hR hV htu ?_ (fun M1 hR1 => ⟨M1, ?_, ScR.rf⟩)
      · obtain ⟨M1, e1, hL1, hS1⟩ := hC.speakers hV1
        refine ⟨M1, ?_, hS1⟩
        unfold X5_guests X2_linkedTo
        rw [X5_areTwo_s hC hn hn7, h, zz_call, if_pos (by decide), X4_isAlive_s hC.2.2.1 qa (by omega), ha.1, zz_call, if_neg (by decide), X4_isAlive_s hC.2.2.1 qa (by omega), ha.2, zz_call, if_pos (by decide), e1, zz_call, zz_ald (by omega) (by omega), zz_call, zz_ald (by omega) (by omega), zz_call, hL1.2 i (by omega), hL1.2 j (by omega), fa_and]
      · have e0 : rB (o_may s.1 s.2.2 i) n &&& rB (o_may s.1 s.2.2 j) n = rB (fun k => o_may s.1 s.2.2 i k && o_may s.1 s.2.2 j k) n := by
          apply Nat.eq_of_testBit_eq
          intro b
          rw [Nat.testBit_and, rB_bit, rB_bit, rB_bit]
          cases decide (b < n) <;> cases o_may s.1 s.2.2 i b <;> cases o_may s.1 s.2.2 j b <;> rfl
        rw [e0]
        unfold X6_guests
        rw [X6_areTwo_s hR1 hn hn7, h, zz_call, if_pos (by decide), nl0, X6_isAlive_s hR1.2.2.2.2.1 (by omega) qa (by omega), ha.1, zz_call, if_neg (by decide), X6_isAlive_s hR1.2.2.2.2.1 (by omega) qa (by omega), ha.2, zz_call, if_pos (by decide)]
        refine lp (S := Int32 × Int32 × Mem) (fun f z => X6_guests_37 u (nI i) (nI j) f z.1 z.2.1 z.2.2) (fun k z => z = (nI (rB (fun k => o_may s.1 s.2.2 i k && o_may s.1 s.2.2 j k) k), nI k, M1)) (fun r => r = some (nI (rB (fun k => o_may s.1 s.2.2 i k && o_may s.1 s.2.2 j k) n), M1)) n ?_ ?_ 0 FU (nI 0, nI 0, M1) (by omega) (FU_lt (by omega)) rfl
        · intro k f z hk e
          subst e
          left
          refine ⟨(nI (rB (fun k => o_may s.1 s.2.2 i k && o_may s.1 s.2.2 j k) (k + 1)), nI (k + 1), M1), ?_, rfl⟩
          have er : rB (fun k => o_may s.1 s.2.2 i k && o_may s.1 s.2.2 j k) (k + 1) = if (o_may s.1 s.2.2 i k && o_may s.1 s.2.2 j k) = true then rB (fun k => o_may s.1 s.2.2 i k && o_may s.1 s.2.2 j k) k ||| 2 ^ k else rB (fun k => o_may s.1 s.2.2 i k && o_may s.1 s.2.2 j k) k := rfl
          show X6_guests_37 u (nI i) (nI j) (f + 1) _ (nI k) M1 = X6_guests_37 u (nI i) (nI j) f _ (nI (k + 1)) M1
          rw [X6_guests_37, zz_shl (by omega), nl0, zz_ald (by omega) (by omega), hR1.2.1, if_neg (nI_ge hk (by omega)), X6_maySpeak_s hR1.2.2.2.2.1 hV1 (by omega) (by omega) (by omega), zz_call, X6_maySpeak_s hR1.2.2.2.2.1 hV1 (by omega) (by omega) (by omega), zz_call, nI_1, er]
          cases o_may s.1 s.2.2 i k with
          | false => rw [if_pos (by decide), zz_let, fa_or, Nat.or_zero]; rfl
          | true =>
            cases o_may s.1 s.2.2 j k with
            | false => rw [if_neg (by decide), if_pos (by decide), zz_let, fa_or, Nat.or_zero]; rfl
            | true => rw [if_neg (by decide), if_neg (by decide), zz_let, fa_or]; rfl
        · intro f z e
          subst e
          show X6_guests_37 u (nI i) (nI j) (f + 1) _ (nI n) M1 = _
          rw [X6_guests_37, nl0, zz_ald (by omega) (by omega), hR1.2.1, if_pos (nI_le (Nat.le_refl _) (by omega))]
    · refine PS.ro (v := -2) hC hR hV htu ⟨M, ?_, Sc.rf⟩ (fun M1 hR1 => ⟨M1, ?_, ScR.rf⟩)
      · unfold X5_guests
        rw [X5_areTwo_s hC hn hn7, h, zz_call, if_pos (by decide), X4_isAlive_s hC.2.2.1 qa (by omega), zz_call]
        cases h1 : s.1.testBit i with
        | false => rw [if_pos (by decide)]
        | true =>
          rw [if_neg (by decide), X4_isAlive_s hC.2.2.1 qa (by omega), zz_call]
          cases h2 : s.1.testBit j with
          | false => rw [if_neg (by decide)]
          | true => exact absurd ⟨h1, h2⟩ ha
      · unfold X6_guests
        rw [X6_areTwo_s hR1 hn hn7, h, zz_call, if_pos (by decide), nl0, X6_isAlive_s hR1.2.2.2.2.1 (by omega) qa (by omega), zz_call]
        cases h1 : s.1.testBit i with
        | false => rw [if_pos (by decide)]
        | true =>
          rw [if_neg (by decide), X6_isAlive_s hR1.2.2.2.2.1 (by omega) qa (by omega), zz_call]
          cases h2 : s.1.testBit j with
          | false => rw [if_neg (by decide)]
          | true => exact absurd ⟨h1, h2⟩ ha
  · refine PS.ro (v := -1) hC hR hV htu ⟨M, ?_, Sc.rf⟩ (fun M1 hR1 => ⟨M1, ?_, ScR.rf⟩)
    · unfold X5_guests
      rw [X5_areTwo_s hC hn hn7, h, zz_call, if_neg (by decide)]
    · unfold X6_guests
      rw [X6_areTwo_s hR1 hn hn7, h, zz_call, if_neg (by decide)]
end LINKS
