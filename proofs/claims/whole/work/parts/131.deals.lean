/-! ===== who can deal ===== -/
def lo (W : Nat) : Nat := (ff (fun b => W.testBit b) 7).elim 7 id
theorem lo_I : ∀ W, W < 128 → W ≠ 0 → bcx ((nI W &&& (-nI W)) - (1 : Int32)) = nI (lo W) := by decide +kernel
theorem lo_b : ∀ W, W < 128 → W ≠ 0 → lo W < 7 ∧ W.testBit (lo W) = true ∧ nm W (2 ^ lo W) < W := by decide +kernel
theorem a_bit {x j : Nat} : x &&& 2 ^ j = 0 ↔ x.testBit j = false := by
  constructor
  · intro h
    have := z_bit.1 h j
    rw [Nat.testBit_and, Nat.testBit_two_pow_self, Bool.and_true] at this
    exact this
  · intro h
    apply z_bit.2
    intro i
    rw [Nat.testBit_and, Nat.testBit_two_pow]
    by_cases hz : j = i
    · rw [← hz, h]; rfl
    · rw [decide_eq_false hz, Bool.and_false]
/-- most twos within the set W, out of a table of the smaller ones -/
def dj (P : Nat → Nat → Bool) (tb : Nat → Nat) (W : Nat) (j x : Nat) : Nat := if lo W < j ∧ W.testBit j = true ∧ P (lo W) j = true then (if x < 1 + tb (nm (nm W (2 ^ lo W)) (2 ^ j)) then 1 + tb (nm (nm W (2 ^ lo W)) (2 ^ j)) else x) else x
def dv (P : Nat → Nat → Bool) (n : Nat) (tb : Nat → Nat) (W : Nat) : Nat := if W = 0 then 0 else fo (fun j x => dj P tb W j x) n (tb (nm W (2 ^ lo W)))
def dT (P : Nat → Nat → Bool) (n : Nat) : Nat → Nat → Nat
  | 0, _ => 0
  | k + 1, W => if W = k then dv P n (dT P n k) k else dT P n k W
section DEALS
variable {M M' : Mem} {t t1 u n ea kp i j c kind day al a b : Nat} {K S : Nat → Nat} {d0 d : Dm} {s : Ts} {A A1 A2 : Al} {tx Z : Tx} {R : Nat → Nat} {P : Nat → Nat → Bool}
theorem dfo_b {tb : Nat → Nat} {W : Nat} (h0 : W ≠ 0) (hW : W < 128) (hb : ∀ q, tb q ≤ q) : ∀ k, fo (fun j x => dj P tb W j x) k (tb (nm W (2 ^ lo W))) ≤ W := by
  intro k
  have h1 := (lo_b W hW h0).2.2
  induction k with
  | zero => exact Nat.le_trans (hb _) (by omega)
  | succ k ih =>
    show dj P tb W k _ ≤ W
    unfold dj
    split
    · split
      · have h2 := hb (nm (nm W (2 ^ lo W)) (2 ^ k))
        have h3 : nm (nm W (2 ^ lo W)) (2 ^ k) ≤ nm W (2 ^ lo W) := nm_le
        omega
      · exact ih
    · exact ih
theorem dT_b : ∀ k, k ≤ 128 → ∀ W, dT P n k W ≤ W := by
  intro k
  induction k with
  | zero => intro _ W; exact Nat.zero_le _
  | succ k ih =>
    intro hk W
    show (if W = k then dv P n (dT P n k) k else dT P n k W) ≤ W
    split
    · next h =>
      rw [h]
      unfold dv
      split
      · omega
      · next h0 => exact dfo_b h0 (by omega) (ih (by omega)) n
    · exact ih (by omega) W
theorem X2_most31_s {W : Nat} {tb : Nat → Nat} {Rf : Nat} (hL : LK M t n R) (hn : n ≤ 7) (h0 : W ≠ 0) (hW : W < 128) (hRb : R (lo W) < 128) (hP : ∀ j, j < n → (R (lo W)).testBit j = P (lo W) j) (hb : ∀ q, tb q ≤ q) (hM : ∀ q, q < W → M (t + 2) q = nI (tb q)) :
    X2_mostTwosWithin_31 t (nI (lo W)) (nI (nm W (2 ^ lo W))) FU (nI (tb (nm W (2 ^ lo W)))) (nI (lo W + 1)) M = some (nI (dv P n tb W), M) := by
  obtain ⟨g1, g2, g3⟩ := lo_b W hW h0
  have hdv : dv P n tb W = fo (fun j x => dj P tb W j x) n (tb (nm W (2 ^ lo W))) := if_neg h0
  rw [hdv]
  have skip : ∀ k, k ≤ lo W + 1 → fo (fun j x => dj P tb W j x) k (tb (nm W (2 ^ lo W))) = tb (nm W (2 ^ lo W)) := by
    intro k
    induction k with
    | zero => intro _; rfl
    | succ k ih =>
      intro hk
      show dj P tb W k _ = _
      rw [ih (by omega)]
      exact if_neg (fun h => by omega)
  by_cases hbig : n ≤ lo W + 1
  · rw [skip n hbig, show FU = 99999 + 1 from rfl, X2_mostTwosWithin_31, hL.1, if_pos (nI_le hbig (by omega))]
  · refine lp (S := Int32 × Int32 × Mem) (fun f z => X2_mostTwosWithin_31 t (nI (lo W)) (nI (nm W (2 ^ lo W))) f z.1 z.2.1 z.2.2) (fun k z => z = (nI (fo (fun j x => dj P tb W j x) k (tb (nm W (2 ^ lo W)))), nI k, M) ∧ lo W < k) (fun r => r = some (nI (fo (fun j x => dj P tb W j x) n (tb (nm W (2 ^ lo W)))), M)) n ?_ ?_ (lo W + 1) FU (nI (tb (nm W (2 ^ lo W))), nI (lo W + 1), M) (by omega) (FU_lt (by omega)) ⟨by rw [skip _ (Nat.le_refl _)], by omega⟩
    · intro k f z hk ⟨e, hlk⟩
      subst e
      left
      refine ⟨(nI (fo (fun j x => dj P tb W j x) (k + 1) (tb (nm W (2 ^ lo W)))), nI (k + 1), M), ?_, rfl, by omega⟩
      have er : fo (fun j x => dj P tb W j x) (k + 1) (tb (nm W (2 ^ lo W))) = dj P tb W k (fo (fun j x => dj P tb W j x) k (tb (nm W (2 ^ lo W)))) := rfl
      have hx := dfo_b (P := P) h0 hW hb k
      generalize fo (fun j x => dj P tb W j x) k (tb (nm W (2 ^ lo W))) = x at er hx
      have hnm : nm W (2 ^ lo W) < 128 := by omega
      show X2_mostTwosWithin_31 t (nI (lo W)) (nI (nm W (2 ^ lo W))) (f + 1) (nI x) (nI k) M = X2_mostTwosWithin_31 t (nI (lo W)) (nI (nm W (2 ^ lo W))) f (nI (fo (fun j x => dj P tb W j x) (k + 1) (tb (nm W (2 ^ lo W))))) (nI (k + 1)) M
      rw [X2_mostTwosWithin_31, hL.1, if_neg (nI_ge hk (by omega)), zz_ald (by omega) (by omega), hL.2 _ (by omega), zz_shl (by omega), fa_and, fa_and, er, nI_1]
      have hcond : ((nm W (2 ^ lo W) &&& R (lo W)) &&& 2 ^ k = 0) ↔ ¬ (lo W < k ∧ W.testBit k = true ∧ P (lo W) k = true) := by
        rw [a_bit, Nat.testBit_and, nm_bit hW, Nat.testBit_two_pow, decide_eq_false (by omega), hP k hk]
        cases W.testBit k <;> cases P (lo W) k <;> simp <;> omega
      unfold dj
      by_cases hc : lo W < k ∧ W.testBit k = true ∧ P (lo W) k = true
      · have hne : (nm W (2 ^ lo W) &&& R (lo W)) &&& 2 ^ k ≠ 0 := fun h => hcond.1 h hc
        have hle : (nm W (2 ^ lo W) &&& R (lo W)) &&& 2 ^ k ≤ nm W (2 ^ lo W) := Nat.le_trans Nat.and_le_left Nat.and_le_left
        have h3 : nm (nm W (2 ^ lo W)) (2 ^ k) ≤ nm W (2 ^ lo W) := nm_le
        have h4 := hb (nm (nm W (2 ^ lo W)) (2 ^ k))
        rw [if_neg (nI_ne0 (by omega) (by omega)), nm_I, zz_ald (by omega) (by omega), hM _ (by omega), zz_let, if_pos hc, show (1 : Int32) + nI (tb (nm (nm W (2 ^ lo W)) (2 ^ k))) = nI (1 + tb (nm (nm W (2 ^ lo W)) (2 ^ k))) from nI_add 1 _]
        by_cases hl : x < 1 + tb (nm (nm W (2 ^ lo W)) (2 ^ k))
        · rw [if_pos (nI_lt hl (by omega)), if_pos hl]
        · rw [if_neg (nI_nlt (by omega) (by omega)), if_neg hl]
      · rw [if_pos (by rw [hcond.2 hc]; rfl), if_neg hc]
    · intro f z ⟨e, hlk⟩
      subst e
      show X2_mostTwosWithin_31 t (nI (lo W)) (nI (nm W (2 ^ lo W))) (f + 1) _ (nI n) M = _
      rw [X2_mostTwosWithin_31, hL.1, if_pos (nI_le (Nat.le_refl _) (by omega))]
theorem X2_mostTwos_s (hL : LK M t n R) (hn : n ≤ 7) (hRb : ∀ i, i < 7 → R i < 128) (hP : ∀ i j, i < 7 → j < n → (R i).testBit j = P i j) : ∃ M', X2_mostTwos t M = some (nI (dT P n (2 ^ n) (2 ^ n - 1)), M') ∧ (∀ c, c ≠ t + 2 → M' c = M c) := by
  have h2n : 2 ^ n ≤ 2 ^ 7 := Nat.pow_le_pow_right (by omega) hn
  have h1n : 1 ≤ 2 ^ n := Nat.one_le_two_pow
  unfold X2_mostTwos
  rw [show (0 : Int32) = nI 0 from rfl, zz_ast (by omega) (by omega), up_c (by omega), hL.1, zz_shl (by omega), zz_let]
  refine lp (S := Int32 × Mem) (fun f z => X2_mostTwos_16 t (nI (2 ^ n)) f z.1 z.2) (fun k z => z.1 = nI k ∧ 1 ≤ k ∧ (∀ q, q < k → z.2 (t + 2) q = nI (dT P n k q)) ∧ (∀ c, c ≠ t + 2 → z.2 c = M c)) (fun r => ∃ M', r = some (nI (dT P n (2 ^ n) (2 ^ n - 1)), M') ∧ (∀ c, c ≠ t + 2 → M' c = M c)) (2 ^ n) ?_ ?_ 1 FU (nI 1, me_upd M (t + 2) 0 (nI 0)) h1n (FU_lt (by omega)) ⟨rfl, Nat.le_refl _, fun q hq => ?_, fun c hc => up_c hc⟩
  · intro k f z hk ⟨e1, hk1, hT1, hF1⟩
    obtain ⟨x, M1⟩ := z
    dsimp only at e1 hT1 hF1
    subst e1
    left
    have hL1 : LK M1 t n R := hL.fr (fun c h1 h2 => hF1 c (by omega))
    have h0 : k ≠ 0 := by omega
    obtain ⟨g1, g2, g3⟩ := lo_b k (by omega) h0
    have hb := dT_b (P := P) (n := n) k (by omega)
    have e31 := X2_most31_s (Rf := 0) (P := P) hL1 hn h0 (by omega) (hRb _ g1) (fun j hj => hP _ j g1 hj) hb hT1
    refine ⟨(nI (k + 1), me_upd M1 (t + 2) k (nI (dv P n (dT P n k) k))), ?_, rfl, by omega, fun q hq => ?_, fun c hc => by dsimp only; rw [up_c hc]; exact hF1 c hc⟩
    · show X2_mostTwos_16 t (nI (2 ^ n)) (f + 1) (nI k) M1 = _
      rw [X2_mostTwos_16, if_neg (nI_ge hk (by omega))]
      unfold X2_mostTwosWithin
      rw [bcx_eq, lo_I k (by omega) h0, zz_call, zz_let, zz_shl (by omega), nm_I, zz_ald (by omega) (by omega), hT1 _ g3, zz_let, nI_1, e31, zz_call, zz_ast (by omega) (by omega), nI_1]
    · dsimp only
      show _ = nI (if q = k then dv P n (dT P n k) k else dT P n k q)
      by_cases hz : q = k
      · rw [hz, up_s, if_pos rfl]
      · rw [up_j hz, if_neg hz]
        exact hT1 q (by omega)
  · intro f z ⟨e1, hk1, hT1, hF1⟩
    obtain ⟨x, M1⟩ := z
    dsimp only at e1 hT1 hF1
    subst e1
    refine ⟨M1, ?_, hF1⟩
    show X2_mostTwos_16 t (nI (2 ^ n)) (f + 1) (nI (2 ^ n)) M1 = _
    rw [X2_mostTwos_16, if_pos (nI_le (Nat.le_refl _) (by omega)), show nI (2 ^ n) - 1 = nI (2 ^ n - 1) from pk_sub (b := 1) h1n, zz_ald (by omega) (by omega), hT1 _ (by omega)]
  · have hq0 : q = 0 := by omega
    dsimp only
    rw [hq0, up_s]
    rfl
theorem X6_d62_s {W : Nat} {tb : Nat → Nat} {k2 : Int32 → Mem → Option (Int32 × Mem)} (hT : TR M u 0 n day al K S d) (hV : t_ok n al K d) (hp : M (u + 2) 0 = nI n) (h0 : W ≠ 0) (hW : W < 128) (hb : ∀ q, tb q ≤ q) (hM : ∀ q, q < W → M (u + 18) q = nI (tb q)) :
    X6_deals_62 u (nI W) (nI (lo W)) k2 FU (nI (tb (nm W (2 ^ lo W)))) (nI (lo W + 1)) M = k2 (nI (W + 1)) (me_upd M (u + 18) W (nI (dv (o_may al d) n tb W))) := by
  have hn := hV.1
  obtain ⟨g1, g2, g3⟩ := lo_b W hW h0
  have hdv : dv (o_may al d) n tb W = fo (fun j x => dj (o_may al d) tb W j x) n (tb (nm W (2 ^ lo W))) := if_neg h0
  rw [hdv]
  have skip : ∀ k, k ≤ lo W + 1 → fo (fun j x => dj (o_may al d) tb W j x) k (tb (nm W (2 ^ lo W))) = tb (nm W (2 ^ lo W)) := by
    intro k
    induction k with
    | zero => intro _; rfl
    | succ k ih =>
      intro hk
      show dj (o_may al d) tb W k _ = _
      rw [ih (by omega)]
      exact if_neg (fun h => by omega)
  by_cases hbig : n ≤ lo W + 1
  · rw [skip n hbig, show FU = 99999 + 1 from rfl, X6_deals_62, show (0 : Int32) = nI 0 from rfl, zz_ald (by omega) (by omega), hp, if_pos (nI_le hbig (by omega)), zz_ast (by omega) (by omega), nI_1]
  · refine lp (S := Int32 × Int32 × Mem) (fun f z => X6_deals_62 u (nI W) (nI (lo W)) k2 f z.1 z.2.1 z.2.2) (fun k z => z = (nI (fo (fun j x => dj (o_may al d) tb W j x) k (tb (nm W (2 ^ lo W)))), nI k, M) ∧ lo W < k) (fun r => r = k2 (nI (W + 1)) (me_upd M (u + 18) W (nI (fo (fun j x => dj (o_may al d) tb W j x) n (tb (nm W (2 ^ lo W))))))) n ?_ ?_ (lo W + 1) FU (nI (tb (nm W (2 ^ lo W))), nI (lo W + 1), M) (by omega) (FU_lt (by omega)) ⟨by rw [skip _ (Nat.le_refl _)], by omega⟩
    · intro k f z hk ⟨e, hlk⟩
      subst e
      left
      refine ⟨(nI (fo (fun j x => dj (o_may al d) tb W j x) (k + 1) (tb (nm W (2 ^ lo W)))), nI (k + 1), M), ?_, rfl, by omega⟩
      have er : fo (fun j x => dj (o_may al d) tb W j x) (k + 1) (tb (nm W (2 ^ lo W))) = dj (o_may al d) tb W k (fo (fun j x => dj (o_may al d) tb W j x) k (tb (nm W (2 ^ lo W)))) := rfl
      have hx := dfo_b (P := o_may al d) h0 hW hb k
      generalize fo (fun j x => dj (o_may al d) tb W j x) k (tb (nm W (2 ^ lo W))) = x at er hx
      show X6_deals_62 u (nI W) (nI (lo W)) k2 (f + 1) (nI x) (nI k) M = X6_deals_62 u (nI W) (nI (lo W)) k2 f (nI (fo (fun j x => dj (o_may al d) tb W j x) (k + 1) (tb (nm W (2 ^ lo W))))) (nI (k + 1)) M
      rw [X6_deals_62, show (0 : Int32) = nI 0 from rfl, zz_ald (by omega) (by omega), hp, if_neg (nI_ge hk (by omega)), X6_has_s (by omega) (by omega), zz_call, er, nI_1]
      unfold dj
      cases hwk : W.testBit k with
      | false => rw [if_pos (by decide), if_neg (fun h => by cases h.2.1)]
      | true =>
        rw [if_neg (by decide), X6_maySpeak_s hT hV (by omega) (by omega) (by omega), zz_call]
        cases hm : o_may al d (lo W) k with
        | false => rw [if_pos (by decide), if_neg (fun h => by cases h.2.2)]
        | true =>
          have h3 : nm (nm W (2 ^ lo W)) (2 ^ k) ≤ nm W (2 ^ lo W) := nm_le
          have h4 := hb (nm (nm W (2 ^ lo W)) (2 ^ k))
          rw [if_neg (by decide), zz_shl (by omega), zz_shl (by omega), nm_I, nm_I, zz_ald (by omega) (by omega), hM _ (by omega), zz_let, if_pos (show lo W < k ∧ true = true ∧ true = true from ⟨hlk, rfl, rfl⟩), show (1 : Int32) + nI (tb (nm (nm W (2 ^ lo W)) (2 ^ k))) = nI (1 + tb (nm (nm W (2 ^ lo W)) (2 ^ k))) from nI_add 1 _]
          by_cases hl : x < 1 + tb (nm (nm W (2 ^ lo W)) (2 ^ k))
          · rw [if_neg (nI_ge hl (by omega)), if_pos hl]
          · rw [if_pos (nI_le (by omega) (by omega)), if_neg hl]
    · intro f z ⟨e, hlk⟩
      subst e
      show X6_deals_62 u (nI W) (nI (lo W)) k2 (f + 1) _ (nI n) M = _
      rw [X6_deals_62, show (0 : Int32) = nI 0 from rfl, zz_ald (by omega) (by omega), hp, if_pos (nI_le (Nat.le_refl _) (by omega)), zz_ast (by omega) (by omega), nI_1]
theorem lo_low {W : Nat} (hW : W < 128) : lo W ≤ 7 ∧ (∀ b, b < lo W → W.testBit b = false) ∧ (lo W < 7 → W.testBit (lo W) = true) := by
  unfold lo
  cases e : ff (fun b => W.testBit b) 7 with
  | none => exact ⟨Nat.le_refl _, fun b hb => ff_none e b hb, fun h => absurd h (by show ¬ 7 < 7; omega)⟩
  | some k =>
    obtain ⟨h1, h2, h3⟩ := ff_some e
    exact ⟨by show k ≤ 7; omega, h3, fun _ => h2⟩
theorem X6_d16_s {W : Nat} {k2 : Int32 → Mem → Option (Int32 × Mem)} (hW : W < 128) : X6_deals_16 u (nI W) k2 FU (nI 0) M = X6_deals_36 u (nI W) (nI (lo W)) k2 M := by
  obtain ⟨g1, g2, g3⟩ := lo_low hW
  refine lp (S := Int32 × Mem) (fun f z => X6_deals_16 u (nI W) k2 f z.1 z.2) (fun k z => z = (nI k, M)) (fun r => r = X6_deals_36 u (nI W) (nI (lo W)) k2 M) (lo W) ?_ ?_ 0 FU (nI 0, M) (by omega) (FU_lt (by omega)) rfl
  · intro k f z hk e
    subst e
    left
    refine ⟨(nI (k + 1), M), ?_, rfl⟩
    show X6_deals_16 u (nI W) k2 (f + 1) (nI k) M = _
    rw [X6_deals_16, if_neg (show ¬ (7 : Int32) ≤ nI k from nI_ge (b := 7) (by omega) (by omega)), X6_has_s (by omega) (by omega), g2 k hk, zz_call, if_neg (by decide), nI_1]
  · intro f z e
    subst e
    show X6_deals_16 u (nI W) k2 (f + 1) (nI (lo W)) M = _
    rw [X6_deals_16]
    by_cases h7 : lo W < 7
    · rw [if_neg (show ¬ (7 : Int32) ≤ nI (lo W) from nI_ge (b := 7) h7 (by omega)), X6_has_s (by omega) (by omega), g3 h7, zz_call, if_pos (by decide)]
    · rw [if_pos (show (7 : Int32) ≤ nI (lo W) from nI_le (a := 7) (by omega) (by omega))]
theorem P_deals (hC : AC M t tx n ea K S d0 s A kp A1 A2 Z) (hR : AR M u tx n ea K S d0 s A kp A1 A2 Z) (hV : SV tx n ea K S d0 s A kp A1 A2 Z) (htu : t + 44 ≤ u) : PS t u M (X5_deals t) (X6_deals u) := by
  have hn := hV.2.1
  have hn7 := hV.2.2.2.2.1.1
  have hV1 := hV.2.2.2.2.2.1
  have h2n : 2 ^ n ≤ 2 ^ 7 := Nat.pow_le_pow_right (by omega) hn7
  have h1n : 1 ≤ 2 ^ n := Nat.one_le_two_pow
  refine PS.ro (v := nI (dT (o_may s.1 s.2.2) n (2 ^ n) (2 ^ n - 1))) hC hR hV htu ?_ (fun M1 hR1 => ?_)
  · obtain ⟨M1, e1, hL1, hS1⟩ := hC.speakers hV1
    obtain ⟨M2, e2, hF2⟩ := X2_mostTwos_s (P := o_may s.1 s.2.2) hL1 hn7 (fun i _ => rB_7 hn7) (fun i j _ hj => by show (rB (o_may s.1 s.2.2 i) n).testBit j = _; rw [rB_bit, decide_eq_true hj, Bool.true_and])
    refine ⟨M2, ?_, hS1.tr (fun c hc => hF2 c (by omega))⟩
    unfold X5_deals
    rw [e1, zz_call, e2, zz_call]
  · have key : ∃ M2, X6_deals u M1 = some (nI (dT (o_may s.1 s.2.2) n (2 ^ n) (2 ^ n - 1)), M2) ∧ (∀ c, c ≠ u + 18 → M2 c = M1 c) := by
      unfold X6_deals
      refine lp (S := Int32 × Mem) (fun f z => X6_deals_2 u f z.1 z.2) (fun k z => z.1 = nI k ∧ (∀ q, q < k → z.2 (u + 18) q = nI (dT (o_may s.1 s.2.2) n k q)) ∧ (∀ c, c ≠ u + 18 → z.2 c = M1 c)) (fun r => ∃ M2, r = some (nI (dT (o_may s.1 s.2.2) n (2 ^ n) (2 ^ n - 1)), M2) ∧ (∀ c, c ≠ u + 18 → M2 c = M1 c)) (2 ^ n) ?_ ?_ 0 FU (nI 0, M1) (by omega) (FU_lt (by omega)) ⟨rfl, fun q hq => by omega, fun c hc => rfl⟩
      · intro k f z hk ⟨e1, hT1, hF1⟩
        obtain ⟨x, M2⟩ := z
        dsimp only at e1 hT1 hF1
        subst e1
        left
        have hp : M2 (u + 2) 0 = nI n := by rw [hF1 _ (by omega)]; exact hR1.2.1
        have hTR : TR M2 u 0 n s.2.1 s.1 K S s.2.2 := by
          unfold TR
          rw [hF1 _ (by omega), hF1 _ (by omega), hF1 _ (by omega), hF1 _ (by omega), hF1 _ (by omega), hF1 _ (by omega)]
          exact hR1.2.2.2.2.1
        have hb := dT_b (P := o_may s.1 s.2.2) (n := n) k (by omega)
        refine ⟨(nI (k + 1), me_upd M2 (u + 18) k (nI (dv (o_may s.1 s.2.2) n (dT (o_may s.1 s.2.2) n k) k))), ?_, rfl, fun q hq => ?_, fun c hc => by dsimp only; rw [up_c hc]; exact hF1 c hc⟩
        · show X6_deals_2 u (f + 1) (nI k) M2 = X6_deals_2 u f (nI (k + 1)) _
          rw [X6_deals_2, show (0 : Int32) = nI 0 from rfl, zz_ald (by omega) (by omega), hp, zz_shl (by omega), if_neg (nI_ge hk (by omega)), X6_d16_s (by omega)]
          unfold X6_deals_36
          by_cases h0 : k = 0
          · subst h0
            rw [if_neg (by decide), zz_let, nI_1, show FU = 99999 + 1 from rfl, X6_deals_62, show (0 : Int32) = nI 0 from rfl, zz_ald (by omega) (by omega), hp, show lo 0 = 7 from by decide, if_pos (nI_le (by omega) (by omega)), zz_ast (by omega) (by omega), nI_1]
            rfl
          · obtain ⟨g1, g2, g3⟩ := lo_b k (by omega) h0
            rw [if_pos (nI_ne0 (by omega) (by omega)), zz_shl (by omega), nm_I, zz_ald (by omega) (by omega), hT1 _ g3, zz_let, nI_1, X6_d62_s hTR hV1 hp h0 (by omega) hb hT1]
        · dsimp only
          show _ = nI (if q = k then dv (o_may s.1 s.2.2) n (dT (o_may s.1 s.2.2) n k) k else dT (o_may s.1 s.2.2) n k q)
          by_cases hz : q = k
          · rw [hz, up_s, if_pos rfl]
          · rw [up_j hz, if_neg hz]
            exact hT1 q (by omega)
      · intro f z ⟨e1, hT1, hF1⟩
        obtain ⟨x, M2⟩ := z
        dsimp only at e1 hT1 hF1
        subst e1
        have hp : M2 (u + 2) 0 = nI n := by rw [hF1 _ (by omega)]; exact hR1.2.1
        refine ⟨M2, ?_, hF1⟩
        show X6_deals_2 u (f + 1) (nI (2 ^ n)) M2 = _
        rw [X6_deals_2, show (0 : Int32) = nI 0 from rfl, zz_ald (by omega) (by omega), hp, zz_shl (by omega), if_pos (nI_le (Nat.le_refl _) (by omega)), zz_ald (by omega) (by omega), hp, zz_shl (by omega), show nI (2 ^ n) - 1 = nI (2 ^ n - 1) from pk_sub (b := 1) h1n, zz_ald (by omega) (by omega), hT1 _ (by omega)]
    obtain ⟨M2, e2, hF2⟩ := key
    refine ⟨M2, e2, ⟨fun c hc => hF2 c (by omega), fun k hk => by rw [hF2 u (by omega)], by rw [hF2 _ (by omega)], by rw [hF2 _ (by omega)], fun k hk => ⟨by rw [hF2 _ (by omega)], by rw [hF2 _ (by omega)]⟩, fun k hk => ⟨by rw [hF2 _ (by omega)], by rw [hF2 _ (by omega)]⟩, by rw [hF2 _ (by omega)], by rw [hF2 _ (by omega)], by rw [hF2 _ (by omega)]⟩⟩
end DEALS
