/-! ===== a town out of a TEXT ===== -/
abbrev Pt : Type := Nat × Nat × Nat × (Nat → Nat) × (Nat → Nat) × Dm
def chr (tx : Tx) (p : Nat) : Nat := if p < tx.1 then tx.2 p else 0
def isd (tx : Tx) (p : Nat) : Bool := decide (48 ≤ chr tx p) && decide (chr tx p ≤ 57)
def nu (tx : Tx) (p sg : Nat) : Option (Nat × Nat) := if isd tx p = true then (if isd tx (p + 1) = true then (if chr tx (p + 2) = sg then some (10 * (chr tx p - 48) + (chr tx (p + 1) - 48), p + 3) else none) else (if chr tx (p + 1) = sg then some (chr tx p - 48, p + 2) else none)) else none
/-- w numbers from p on: where they end, and they -/
def nus (tx : Tx) (w : Nat) : Nat → Nat → (Nat → Nat) → Option (Nat × (Nat → Nat))
  | 0, p, v => some (p, v)
  | k + 1, p, v => (nu tx p (if k = 0 then 59 else 44)).elim none (fun q => nus tx w k q.2 (nK v (w - (k + 1)) q.1))
def pstep (tx : Tx) (s : Pt) : Option Pt :=
  if chr tx s.1 = 112 then (nus tx 2 2 (s.1 + 1) (fun _ => 0)).elim none (fun r => if r.2 0 < 4 ∧ r.2 1 < 4 ∧ s.2.1 < 7 then some (r.1, s.2.1 + 1, s.2.2.1, nK s.2.2.2.1 s.2.1 (r.2 0), nK s.2.2.2.2.1 s.2.1 (r.2 1), s.2.2.2.2.2) else none)
  else if chr tx s.1 = 111 then (nus tx 3 3 (s.1 + 1) (fun _ => 0)).elim none (fun r => if r.2 0 < s.2.1 ∧ r.2 1 < s.2.1 ∧ r.2 0 ≠ r.2 1 ∧ r.2 2 ≤ 9 then some (r.1, s.2.1, s.2.2.1, s.2.2.2.1, s.2.2.2.2.1, d_up s.2.2.2.2.2 (r.2 0) (r.2 1) (r.2 2)) else none)
  else if chr tx s.1 = 101 then (nus tx 1 1 (s.1 + 1) (fun _ => 0)).elim none (fun r => if 1 ≤ r.2 0 ∧ r.2 0 ≤ 60 then some (r.1, s.2.1, r.2 0, s.2.2.2.1, s.2.2.2.2.1, s.2.2.2.2.2) else none)
  else none
def pr (tx : Tx) : Nat → Pt → Int32 × Pt
  | 0, s => (-4, s)
  | f + 1, s => if tx.1 ≤ s.1 then (-4, s) else (pstep tx s).elim (nI s.1, s) (fun s' => pr tx f s')
def p_ok (s : Pt) : Prop := t_ok s.2.1 (2 ^ s.2.1 - 1) s.2.2.2.1 s.2.2.2.2.2 ∧ s.2.2.1 ≤ 60 ∧ (∀ i, i < s.2.1 → s.2.2.2.2.1 i ≤ 3)
section READ
variable {M M' : Mem} {t u n ea kp i j c kind p w : Nat} {K S v : Nat → Nat} {d0 d : Dm} {s : Ts} {A A1 A2 : Al} {tx Z : Tx}
def tx_ok (tx : Tx) : Prop := tx.1 ≤ 200 ∧ ∀ k, k < tx.1 → 32 ≤ tx.2 k ∧ tx.2 k ≤ 126
theorem chr_b (h : tx_ok tx) (p : Nat) : chr tx p ≤ 126 := by
  unfold chr
  split
  · next hp => exact (h.2 p hp).2
  · omega
theorem chr_out (hp : tx.1 ≤ p) : chr tx p = 0 := if_neg (by omega)
theorem isd_iff : isd tx p = true ↔ 48 ≤ chr tx p ∧ chr tx p ≤ 57 := by
  unfold isd
  rw [Bool.and_eq_true, decide_eq_true_iff, decide_eq_true_iff]
theorem isd_in (h : isd tx p = true) : p < tx.1 := by
  have := isd_iff.1 h
  rcases Nat.lt_or_ge p tx.1 with hp | hp
  · exact hp
  · rw [chr_out hp] at this; omega
theorem chr_in (h : chr tx p ≠ 0) : p < tx.1 := by
  rcases Nat.lt_or_ge p tx.1 with hp | hp
  · exact hp
  · exact absurd (chr_out hp) h
theorem nu_b {sg : Nat} {q : Nat × Nat} (hsg : sg ≠ 0) (h : nu tx p sg = some q) : q.1 ≤ 99 ∧ p < q.2 ∧ q.2 ≤ tx.1 := by
  unfold nu at h
  by_cases h1 : isd tx p = true
  · rw [if_pos h1] at h
    have b1 := isd_iff.1 h1
    by_cases h2 : isd tx (p + 1) = true
    · rw [if_pos h2] at h
      have b2 := isd_iff.1 h2
      by_cases h3 : chr tx (p + 2) = sg
      · rw [if_pos h3] at h
        cases h
        have := chr_in (tx := tx) (p := p + 2) (by rw [h3]; exact hsg)
        exact ⟨by dsimp only; omega, by dsimp only; omega, by dsimp only; omega⟩
      · rw [if_neg h3] at h
        cases h
    · rw [if_neg h2] at h
      by_cases h3 : chr tx (p + 1) = sg
      · rw [if_pos h3] at h
        cases h
        have := chr_in (tx := tx) (p := p + 1) (by rw [h3]; exact hsg)
        exact ⟨by dsimp only; omega, by dsimp only; omega, by dsimp only; omega⟩
      · rw [if_neg h3] at h
        cases h
  · rw [if_neg h1] at h
    cases h
/-! the class's reading -/
theorem X1_at_s (h : LT M c tx) (hx : tx_ok tx) (hp : p < 1000) : X1_at c (nI p) M = some (nI (chr tx p), M) := by
  unfold X1_at
  rw [if_neg (nI_pos (by omega)), h.1]
  have h200 := hx.1
  by_cases hl : p < tx.1
  · rw [if_neg (nI_ge hl (by omega)), zz_ald (by omega) (by omega), h.2 p hl]
    unfold chr
    rw [if_pos hl]
  · rw [if_pos (nI_le (by omega) (by omega)), chr_out (by omega)]
    rfl
theorem X1_fig_s (h : LT M c tx) (hx : tx_ok tx) (hp : p < 1000) : X1_figureAt c (nI p) M = some (if isd tx p = true then nI (chr tx p - 48) else -1, M) := by
  have hb := chr_b hx p
  unfold X1_figureAt
  rw [X1_at_s h hx hp, zz_call]
  by_cases h1 : 48 ≤ chr tx p
  · rw [if_neg (show ¬ nI (chr tx p) < (48 : Int32) from nI_nlt (b := 48) h1 (by omega))]
    by_cases h2 : chr tx p ≤ 57
    · rw [if_neg (show ¬ (57 : Int32) < nI (chr tx p) from nI_nlt (a := 57) h2 (by omega)), if_pos (isd_iff.2 ⟨h1, h2⟩), show nI (chr tx p) - 48 = nI (chr tx p - 48) from pk_sub (b := 48) h1]
    · rw [if_pos (show (57 : Int32) < nI (chr tx p) from nI_lt (a := 57) (by omega) (by omega)), if_neg (fun h => h2 (isd_iff.1 h).2)]
  · rw [if_pos (show nI (chr tx p) < (48 : Int32) from nI_lt (b := 48) (by omega) (by omega)), if_neg (fun h => h1 (isd_iff.1 h).1)]
theorem neg1 {k : Nat} (hk : k < 2 ^ 31) : ¬ nI k = (-1 : Int32) := fun e => by
  have h := nI_pos' (n := k) hk
  rw [e] at h
  exact absurd h (by decide)
/-- the numbers, as the class holds them: those that are read stand there -/
theorem X3_readN_s (hx : tx_ok tx) (hw1 : 1 ≤ w) (hw3 : w ≤ 3) (htc : t + 2 ≤ c ∨ c + 2 ≤ t) : ∀ (k p : Nat) (v : Nat → Nat) (M : Mem) (f : Nat), k ≤ w → p ≤ tx.1 + 1 → k < f → LT M c tx → (∀ i, i < w - k → M (t + 1) i = nI (v i)) →
    ∃ M', X3_readNumbers_6 t c (nI w) f (nI p) (nI (w - k)) M = some ((nus tx w k p v).elim (-1) (fun r => nI r.1), M') ∧ Fr t (t + 2) M M' ∧ (∀ r, nus tx w k p v = some r → (∀ i, i < w → M' (t + 1) i = nI (r.2 i)) ∧ p ≤ r.1 ∧ (0 < k → p < r.1) ∧ (r.1 ≤ tx.1 ∨ r.1 = p) ∧ ((∀ i, i < w - k → v i ≤ 99) → ∀ i, i < w → r.2 i ≤ 99)) := by
  have h200 := hx.1
  intro k
  induction k with
  | zero =>
    intro p v M f hk hp hf hL hv
    obtain ⟨f, rfl⟩ : ∃ g, f = g + 1 := ⟨f - 1, by omega⟩
    refine ⟨M, ?_, Fr.rf, fun r hr => ?_⟩
    · rw [X3_readNumbers_6, if_pos (nI_le (by omega) (by omega)), if_neg (nI_nle (by omega) (by omega))]
      rfl
    · cases hr
      exact ⟨fun i hi => hv i (by omega), Nat.le_refl _, fun h => by omega, Or.inr rfl, fun h i hi => h i (by omega)⟩
  | succ k ih =>
    intro p v M f hk hp hf hL hv
    obtain ⟨f, rfl⟩ : ∃ g, f = g + 1 := ⟨f - 1, by omega⟩
    have b0 := chr_b hx p
    have b1 := chr_b hx (p + 1)
    have b2 := chr_b hx (p + 2)
    obtain ⟨sg, hsg⟩ : ∃ sg, sg = if k = 0 then 59 else 44 := ⟨_, rfl⟩
    have hsgb : sg = 59 ∨ sg = 44 := by rw [hsg]; split <;> omega
    have esg : ∀ (A B : Option (Int32 × Mem)), (if nI w ≤ nI (w - (k + 1)) + (1 : Int32) then A else B) = if k = 0 then A else B := by
      intro A B
      rw [nI_1]
      by_cases h0 : k = 0
      · rw [if_pos h0, if_pos (nI_le (by omega) (by omega))]
      · rw [if_neg h0, if_neg (nI_ge (by omega) (by omega))]
    -- one number read, at (value x, next place q)
    have step : ∀ x q, nu tx p sg = some (x, q) → ∃ M', X3_readNumbers_6 t c (nI w) f (nI q) (nI (w - (k + 1)) + 1) (me_upd M (t + 1) (w - (k + 1)) (nI x)) = some ((nus tx w (k + 1) p v).elim (-1) (fun r => nI r.1), M') ∧ Fr t (t + 2) M M' ∧ (∀ r, nus tx w (k + 1) p v = some r → (∀ i, i < w → M' (t + 1) i = nI (r.2 i)) ∧ p ≤ r.1 ∧ (0 < k + 1 → p < r.1) ∧ (r.1 ≤ tx.1 ∨ r.1 = p) ∧ ((∀ i, i < w - (k + 1) → v i ≤ 99) → ∀ i, i < w → r.2 i ≤ 99)) := by
      intro x q hq
      obtain ⟨c1, c2, c3⟩ := nu_b (by omega) hq
      dsimp only at c1 c2 c3
      have en : nus tx w (k + 1) p v = nus tx w k q (nK v (w - (k + 1)) x) := by
        show (nu tx p (if k = 0 then 59 else 44)).elim none _ = _
        rw [← hsg, hq]
        rfl
      obtain ⟨M', e1, e2, e3⟩ := ih q (nK v (w - (k + 1)) x) (me_upd M (t + 1) (w - (k + 1)) (nI x)) f (by omega) (by omega) (by omega) ⟨by rw [up_c (by omega)]; exact hL.1, fun a ha => by rw [up_c (by omega)]; exact hL.2 a ha⟩ (fun i hi => by
        unfold nK
        by_cases hz : i = w - (k + 1)
        · rw [hz, up_s, if_pos rfl]
        · rw [up_j hz, if_neg hz]; exact hv i (by omega))
      rw [show w - k = w - (k + 1) + 1 by omega, ← nI_1] at e1
      refine ⟨M', by rw [en]; exact e1, (Fr.up (by omega) (by omega)).tr e2, fun r hr => ?_⟩
      rw [en] at hr
      obtain ⟨d1, d2, d3, d4, d5⟩ := e3 r hr
      refine ⟨d1, by omega, fun _ => by omega, by omega, fun hh => d5 (fun i hi => ?_)⟩
      unfold nK
      by_cases hz : i = w - (k + 1)
      · rw [if_pos hz]; exact c1
      · rw [if_neg hz]; exact hh i (by omega)
    have bad : nu tx p sg = none → ∃ M', (some ((-1 : Int32), M) : Option (Int32 × Mem)) = some ((nus tx w (k + 1) p v).elim (-1) (fun r => nI r.1), M') ∧ Fr t (t + 2) M M' ∧ (∀ r, nus tx w (k + 1) p v = some r → (∀ i, i < w → M' (t + 1) i = nI (r.2 i)) ∧ p ≤ r.1 ∧ (0 < k + 1 → p < r.1) ∧ (r.1 ≤ tx.1 ∨ r.1 = p) ∧ ((∀ i, i < w - (k + 1) → v i ≤ 99) → ∀ i, i < w → r.2 i ≤ 99)) := by
      intro hq
      have en : nus tx w (k + 1) p v = none := by
        show (nu tx p (if k = 0 then 59 else 44)).elim none _ = _
        rw [← hsg, hq]
        rfl
      exact ⟨M, by rw [en]; rfl, Fr.rf, fun r hr => by rw [en] at hr; cases hr⟩
    have sgI : ∀ (g : Int32 → Option (Int32 × Mem)), (if k = 0 then g 59 else g 44) = g (nI sg) := by
      intro g
      rw [hsg]
      by_cases h0 : k = 0
      · rw [if_pos h0, if_pos h0]; rfl
      · rw [if_neg h0, if_neg h0]; rfl
    rw [X3_readNumbers_6, if_neg (nI_ge (by omega) (by omega)), if_neg (show ¬ (3 : Int32) ≤ nI (w - (k + 1)) from nI_ge (b := 3) (by omega) (by omega)), X1_fig_s hL hx (by omega), zz_call, nI_1 p, X1_fig_s hL hx (by omega), zz_call]
    by_cases h2 : isd tx (p + 1) = true
    · have b2' := isd_iff.1 h2
      rw [if_pos h2, if_pos (neg1 (by omega)), zz_let, show nI p + 2 = nI (p + 2) from nI_add p 2, esg, sgI (fun y => X3_readNumbers_67 t c (nI w) (nI (w - (k + 1))) (if isd tx p = true then nI (chr tx p - 48) else -1) (nI (chr tx (p + 1) - 48)) (nI (p + 2)) (X3_readNumbers_6 t c (nI w) f) y M)]
      unfold X3_readNumbers_67
      by_cases h1 : isd tx p = true
      · have b1' := isd_iff.1 h1
        rw [if_pos h1, if_neg (neg1 (by omega)), X1_at_s hL hx (by omega), zz_call]
        by_cases h3 : chr tx (p + 2) = sg
        · have hnu : nu tx p sg = some (10 * (chr tx p - 48) + (chr tx (p + 1) - 48), p + 3) := by unfold nu; rw [if_pos h1, if_pos h2, if_pos h3]
          rw [if_pos (by rw [h3]), if_pos (neg1 (by omega)), show (10 : Int32) * nI (chr tx p - 48) = nI (10 * (chr tx p - 48)) from pk_mul 10 _, nI_add, zz_ast (by omega) (by omega), zz_let, nI_1]
          exact step _ _ hnu
        · have hnu : nu tx p sg = none := by unfold nu; rw [if_pos h1, if_pos h2, if_neg h3]
          rw [if_neg (fun e => h3 ((nI_eq (by omega) (by omega)).1 e))]
          exact bad hnu
      · have hnu : nu tx p sg = none := by unfold nu; rw [if_neg h1]
        rw [if_neg h1, if_pos rfl]
        exact bad hnu
    · rw [if_neg h2, if_neg (not_not_intro rfl), zz_let, esg, sgI (fun y => X3_readNumbers_67 t c (nI w) (nI (w - (k + 1))) (if isd tx p = true then nI (chr tx p - 48) else -1) (-1) (nI (p + 1)) (X3_readNumbers_6 t c (nI w) f) y M)]
      unfold X3_readNumbers_67
      by_cases h1 : isd tx p = true
      · have b1' := isd_iff.1 h1
        rw [if_pos h1, if_neg (neg1 (by omega)), X1_at_s hL hx (by omega), zz_call]
        by_cases h3 : chr tx (p + 1) = sg
        · have hnu : nu tx p sg = some (chr tx p - 48, p + 2) := by unfold nu; rw [if_pos h1, if_neg h2, if_pos h3]
          rw [if_pos (by rw [h3]), if_neg (not_not_intro rfl), zz_ast (by omega) (by omega), zz_let, nI_1]
          exact step _ _ hnu
        · have hnu : nu tx p sg = none := by unfold nu; rw [if_pos h1, if_neg h2, if_neg h3]
          rw [if_neg (fun e => h3 ((nI_eq (by omega) (by omega)).1 e))]
          exact bad hnu
      · have hnu : nu tx p sg = none := by unfold nu; rw [if_neg h1]
        rw [if_neg h1, if_pos rfl]
        exact bad hnu
end READ
