section READR
variable {M M' : Mem} {t u n ea kp i j c kind p w : Nat} {K S v : Nat → Nat} {d0 d : Dm} {s : Ts} {A A1 A2 : Al} {tx Z : Tx}
/-- the reference's TEXT, and where it reads -/
def SP (M : Mem) (u : Nat) (tx : Tx) (p : Nat) : Prop := M u 0 = nI tx.1 ∧ (∀ k, k < tx.1 → M (u + 1) k = nI (tx.2 k)) ∧ M u 14 = nI p
def FrS (u : Nat) (M M' : Mem) : Prop := (∀ c, c ≠ u → c ≠ u + 12 → M' c = M c) ∧ (∀ k, k ≠ 14 → M' u k = M u k)
theorem FrS.rf : FrS u M M := ⟨fun _ _ _ => rfl, fun _ _ => rfl⟩
theorem FrS.tr {M2 : Mem} (h : FrS u M M') (h2 : FrS u M' M2) : FrS u M M2 := ⟨fun c h1 h3 => (h2.1 c h1 h3).trans (h.1 c h1 h3), fun k hk => (h2.2 k hk).trans (h.2 k hk)⟩
theorem FrS.sp {q : Nat} : FrS u M (me_upd M u 14 (nI q)) := ⟨fun c h1 h2 => up_c h1, fun k hk => up_j hk⟩
theorem FrS.told {q : Nat} {x : Int32} : FrS u M (me_upd M (u + 12) q x) := ⟨fun c h1 h2 => up_c h2, fun k hk => by rw [up_c (by omega)]⟩
theorem SP.go (h : SP M u tx p) {q : Nat} : SP (me_upd M u 14 (nI q)) u tx q := ⟨by rw [up_j (by omega)]; exact h.1, fun k hk => by rw [up_c (by omega)]; exact h.2.1 k hk, up_s⟩
theorem SP.told (h : SP M u tx p) {q : Nat} {x : Int32} : SP (me_upd M (u + 12) q x) u tx p := ⟨by rw [up_c (by omega)]; exact h.1, fun k hk => by rw [up_c (by omega)]; exact h.2.1 k hk, by rw [up_c (by omega)]; exact h.2.2⟩
theorem X6_letter_s {q : Nat} (h : SP M u tx p) (hx : tx_ok tx) (hq : q < 1000) : X6_letterAt u (nI q) M = some (nI (chr tx q), M) := by
  unfold X6_letterAt
  rw [h.1]
  have h200 := hx.1
  by_cases hl : q < tx.1
  · rw [if_neg (nI_ge hl (by omega)), zz_ald (by omega) (by omega), h.2.1 q hl]
    unfold chr
    rw [if_pos hl]
  · rw [if_pos (nI_le (by omega) (by omega)), chr_out (by omega)]
    rfl
theorem isd_inR (hx : tx_ok tx) {q : Nat} : inR 48 57 (nI (chr tx q)) = isd tx q := by
  have := chr_b hx q
  rw [inR_n (by omega) (by omega) (by omega)]
  rfl
theorem X6_f73_s {k f x : Nat} {k2 : Int32 → Mem → Option (Int32 × Mem)} (h : SP M u tx p) (hx : tx_ok tx) (hp : p < 900) (hw : w ≤ 3) (hk : k < w) (hf : f ≤ 3) :
    X6_figures_73 u (nI w) (nI k) (nI f) (nI x) k2 M = if (f = 1 ∨ f = 2) ∧ chr tx p = (if k + 1 = w then 59 else 44) then k2 (nI (k + 1)) (me_upd (me_upd M (u + 12) k (nI x)) u 14 (nI (p + 1))) else some (b2 false, M) := by
  have hb := chr_b hx p
  unfold X6_figures_73
  rw [show X6_in (nI f).toInt64 1 2 M = _ from X6_in_s (lo := 1) (hi := 2), zz_call, inR_n (by omega) (by omega) (by omega)]
  by_cases h12 : f = 1 ∨ f = 2
  · rw [decide_eq_true (by omega), decide_eq_true (by omega), if_neg (by decide), h.2.2, X6_letter_s h hx (by omega), zz_call, show nI w - 1 = nI (w - 1) from pk_sub (b := 1) (by omega)]
    have h107 : ∀ y, y < 100 → X6_figures_107 u (nI w) (nI k) (nI x) k2 (nI y) (nI (chr tx p)) M = if chr tx p = y then k2 (nI (k + 1)) (me_upd (me_upd M (u + 12) k (nI x)) u 14 (nI (p + 1))) else some (b2 false, M) := by
      intro y hy
      unfold X6_figures_107
      by_cases he : chr tx p = y
      · rw [if_pos (by rw [he]), if_pos he, zz_ast (by omega) (by omega), (h.told).2.2, zz_put, nI_1, nI_1]
      · rw [if_neg (fun e => he ((nI_eq (by omega) (by omega)).1 e)), if_neg he]
        exact zz_rz0
    by_cases hl : k + 1 = w
    · rw [if_pos (nI_le (by omega) (by omega)), if_pos hl]
      have := h107 59 (by omega)
      rw [show (59 : Int32) = nI 59 from rfl, this]
      by_cases he : chr tx p = 59
      · rw [if_pos he, if_pos ⟨h12, he⟩]
      · rw [if_neg he, if_neg (fun h => he h.2)]
    · rw [if_neg (nI_ge (by omega) (by omega)), if_neg hl]
      have := h107 44 (by omega)
      rw [show (44 : Int32) = nI 44 from rfl, this]
      by_cases he : chr tx p = 44
      · rw [if_pos he, if_pos ⟨h12, he⟩]
      · rw [if_neg he, if_neg (fun h => he h.2)]
  · rw [if_neg (show ¬ ((f = 1 ∨ f = 2) ∧ chr tx p = (if k + 1 = w then 59 else 44)) from fun h => h12 h.1), show (decide (1 ≤ f) && decide (f ≤ 2)) = false from by
      by_cases h0 : f = 0
      · rw [h0]; rfl
      · rw [show f = 3 by omega]; rfl, if_pos (by decide)]
    exact zz_rz0
/-- one turn of the reference's loop over figures -/
theorem X6_f12_s {k f x g : Nat} {k2 : Int32 → Mem → Option (Int32 × Mem)} (h : SP M u tx p) (hx : tx_ok tx) (hp : p < 900) (hf : f ≤ 3) (hxb : x ≤ 999) :
    X6_figures_12 u (nI w) (nI k) k2 (g + 1) (nI f) (nI x) M = if isd tx p = true ∧ f < 3 then X6_figures_12 u (nI w) (nI k) k2 g (nI (f + 1)) (nI (10 * x + (chr tx p - 48))) (me_upd M u 14 (nI (p + 1))) else X6_figures_73 u (nI w) (nI k) (nI f) (nI x) k2 M := by
  rw [X6_figures_12, h.2.2, X6_letter_s h hx (by omega), zz_call, show X6_in (nI (chr tx p)).toInt64 48 57 M = _ from X6_in_s (lo := 48) (hi := 57), isd_inR hx, zz_call]
  cases hd : isd tx p with
  | false => rw [if_pos (by decide), if_neg (fun h => by cases h.1)]
  | true =>
    have hb := isd_iff.1 hd
    rw [if_neg (by decide)]
    by_cases h3 : f < 3
    · rw [if_neg (show ¬ (3 : Int32) ≤ nI f from nI_ge (b := 3) h3 (by omega)), if_pos ⟨rfl, h3⟩, h.2.2, X6_letter_s h hx (by omega), zz_call, zz_let, h.2.2, zz_put, nI_1, nI_1, show (10 : Int32) * nI x = nI (10 * x) from pk_mul 10 x, nI_add, show nI (10 * x + chr tx p) - 48 = nI (10 * x + chr tx p - 48) from pk_sub (b := 48) (by omega), show 10 * x + chr tx p - 48 = 10 * x + (chr tx p - 48) by omega]
    · rw [if_pos (show (3 : Int32) ≤ nI f from nI_le (a := 3) (by omega) (by omega)), if_neg (fun h => h3 h.2)]
theorem X6_num_s {k : Nat} {k2 : Int32 → Mem → Option (Int32 × Mem)} (h : SP M u tx p) (hx : tx_ok tx) (hp : p ≤ tx.1 + 1) (hw : w ≤ 3) (hk : k < w) :
    (nu tx p (if k + 1 = w then 59 else 44) = none ∧ ∃ M', X6_figures_12 u (nI w) (nI k) k2 FU (nI 0) (nI 0) M = some (b2 false, M') ∧ FrS u M M') ∨ (∃ x q M', nu tx p (if k + 1 = w then 59 else 44) = some (x, q) ∧ X6_figures_12 u (nI w) (nI k) k2 FU (nI 0) (nI 0) M = k2 (nI (k + 1)) M' ∧ SP M' u tx q ∧ M' (u + 12) k = nI x ∧ (∀ r, r ≠ k → M' (u + 12) r = M (u + 12) r) ∧ FrS u M M') := by
  have h200 := hx.1
  obtain ⟨sg, hsg⟩ : ∃ sg, sg = if k + 1 = w then 59 else 44 := ⟨_, rfl⟩
  have hsgb : sg = 59 ∨ sg = 44 := by rw [hsg]; split <;> omega
  rw [← hsg]
  have b0 := chr_b hx p
  have b1 := chr_b hx (p + 1)
  have b2 := chr_b hx (p + 2)
  rw [show FU = 99996 + 1 + 1 + 1 + 1 from rfl, X6_f12_s h hx (by omega) (by omega) (by omega)]
  unfold nu
  by_cases h1 : isd tx p = true
  · have hb := isd_iff.1 h1
    have g1 : SP (me_upd M u 14 (nI (p + 1))) u tx (p + 1) := h.go
    have fin : ∀ (x q : Nat) (M1 : Mem), SP M1 u tx q → FrS u M M1 → M1 (u + 12) = M (u + 12) → chr tx q = sg → (∃ x' q' M', (some (x, q + 1) : Option (Nat × Nat)) = some (x', q') ∧ k2 (nI (k + 1)) (me_upd (me_upd M1 (u + 12) k (nI x)) u 14 (nI (q + 1))) = k2 (nI (k + 1)) M' ∧ SP M' u tx q' ∧ M' (u + 12) k = nI x' ∧ (∀ r, r ≠ k → M' (u + 12) r = M (u + 12) r) ∧ FrS u M M') := by
      intro x q M1 hs hf h12 he
      refine ⟨x, q + 1, _, rfl, rfl, (hs.told).go, by rw [up_c (by omega), up_s], fun r hr => by rw [up_c (by omega), up_j hr, h12], (hf.tr FrS.told).tr FrS.sp⟩
    rw [if_pos h1, if_pos (show isd tx p = true ∧ 0 < 3 from ⟨h1, by omega⟩), X6_f12_s g1 hx (by omega) (by omega) (by omega)]
    by_cases h2 : isd tx (p + 1) = true
    · have hb2 := isd_iff.1 h2
      have g2 : SP (me_upd (me_upd M u 14 (nI (p + 1))) u 14 (nI (p + 1 + 1))) u tx (p + 2) := g1.go
      have f2 : FrS u M (me_upd (me_upd M u 14 (nI (p + 1))) u 14 (nI (p + 1 + 1))) := FrS.sp.tr FrS.sp
      rw [if_pos h2, if_pos (show isd tx (p + 1) = true ∧ 0 + 1 < 3 from ⟨h2, by omega⟩), X6_f12_s g2 hx (by omega) (by omega) (by omega)]
      by_cases h3 : isd tx (p + 2) = true
      · have hb3 := isd_iff.1 h3
        have g3 : SP (me_upd (me_upd (me_upd M u 14 (nI (p + 1))) u 14 (nI (p + 1 + 1))) u 14 (nI (p + 2 + 1))) u tx (p + 3) := g2.go
        left
        rw [if_neg (show ¬ chr tx (p + 2) = sg by omega), if_pos (show isd tx (p + 2) = true ∧ 0 + 1 + 1 < 3 from ⟨h3, by omega⟩), X6_f12_s g3 hx (by omega) (by omega) (by omega), if_neg (show ¬ (isd tx (p + 3) = true ∧ 0 + 1 + 1 + 1 < 3) from fun h => by omega), X6_f73_s g3 hx (by omega) hw hk (by omega), if_neg (show ¬ ((0 + 1 + 1 + 1 = 1 ∨ 0 + 1 + 1 + 1 = 2) ∧ chr tx (p + 3) = (if k + 1 = w then 59 else 44)) from fun h => by omega)]
        exact ⟨rfl, _, rfl, f2.tr FrS.sp⟩
      · rw [if_neg (show ¬ (isd tx (p + 2) = true ∧ 0 + 1 + 1 < 3) from fun h => h3 h.1), X6_f73_s g2 hx (by omega) hw hk (by omega), ← hsg]
        by_cases he : chr tx (p + 2) = sg
        · right
          rw [if_pos he, if_pos (show (0 + 1 + 1 = 1 ∨ 0 + 1 + 1 = 2) ∧ chr tx (p + 2) = sg from ⟨Or.inr rfl, he⟩)]
          have := fin (10 * (10 * 0 + (chr tx p - 48)) + (chr tx (p + 1) - 48)) (p + 2) _ g2 f2 (by rw [up_c (by omega), up_c (by omega)]) he
          rw [show 10 * (10 * 0 + (chr tx p - 48)) + (chr tx (p + 1) - 48) = 10 * (chr tx p - 48) + (chr tx (p + 1) - 48) by omega] at this ⊢
          exact this
        · left
          rw [if_neg he, if_neg (show ¬ ((0 + 1 + 1 = 1 ∨ 0 + 1 + 1 = 2) ∧ chr tx (p + 2) = sg) from fun h => he h.2)]
          exact ⟨rfl, _, rfl, f2⟩
    · rw [if_neg h2, if_neg (show ¬ (isd tx (p + 1) = true ∧ 0 + 1 < 3) from fun h => h2 h.1), X6_f73_s g1 hx (by omega) hw hk (by omega), ← hsg]
      by_cases he : chr tx (p + 1) = sg
      · right
        rw [if_pos he, if_pos (show (0 + 1 = 1 ∨ 0 + 1 = 2) ∧ chr tx (p + 1) = sg from ⟨Or.inl rfl, he⟩)]
        have := fin (10 * 0 + (chr tx p - 48)) (p + 1) _ g1 FrS.sp (by rw [up_c (by omega)]) he
        rw [show 10 * 0 + (chr tx p - 48) = chr tx p - 48 by omega] at this ⊢
        exact this
      · left
        rw [if_neg he, if_neg (show ¬ ((0 + 1 = 1 ∨ 0 + 1 = 2) ∧ chr tx (p + 1) = sg) from fun h => he h.2)]
        exact ⟨rfl, _, rfl, FrS.sp⟩
  · left
    rw [if_neg h1, if_neg (show ¬ (isd tx p = true ∧ 0 < 3) from fun h => h1 h.1), X6_f73_s h hx (by omega) hw hk (by omega), if_neg (show ¬ ((0 = 1 ∨ 0 = 2) ∧ chr tx p = (if k + 1 = w then 59 else 44)) from fun h => by omega)]
    exact ⟨rfl, M, rfl, FrS.rf⟩
theorem X6_figs_s (hx : tx_ok tx) (hw1 : 1 ≤ w) (hw3 : w ≤ 3) : ∀ (k p : Nat) (v : Nat → Nat) (M : Mem) (f : Nat), k ≤ w → p ≤ tx.1 + 1 → k < f → SP M u tx p → (∀ i, i < w - k → M (u + 12) i = nI (v i)) →
    (nus tx w k p v = none ∧ ∃ M', X6_figures_2 u (nI w) f (nI (w - k)) M = some (b2 false, M') ∧ FrS u M M') ∨ (∃ r M', nus tx w k p v = some r ∧ X6_figures_2 u (nI w) f (nI (w - k)) M = some (b2 true, M') ∧ SP M' u tx r.1 ∧ (∀ i, i < w → M' (u + 12) i = nI (r.2 i)) ∧ FrS u M M') := by
  have h200 := hx.1
  intro k
  induction k with
  | zero =>
    intro p v M f hk hp hf hS hv
    obtain ⟨f, rfl⟩ : ∃ g, f = g + 1 := ⟨f - 1, by omega⟩
    right
    refine ⟨(p, v), M, rfl, ?_, hS, fun i hi => hv i (by omega), FrS.rf⟩
    rw [X6_figures_2, if_pos (nI_le (by omega) (by omega))]
    exact zz_rz1
  | succ k ih =>
    intro p v M f hk hp hf hS hv
    obtain ⟨f, rfl⟩ : ∃ g, f = g + 1 := ⟨f - 1, by omega⟩
    rw [X6_figures_2, if_neg (nI_ge (by omega) (by omega)), show (0 : Int32) = nI 0 from rfl]
    have esg : (if w - (k + 1) + 1 = w then 59 else 44) = (if k = 0 then 59 else 44) := by
      by_cases h0 : k = 0
      · rw [if_pos h0, if_pos (by omega)]
      · rw [if_neg h0, if_neg (by omega)]
    have hnum := X6_num_s (k := w - (k + 1)) (k2 := X6_figures_2 u (nI w) f) hS hx hp hw3 (by omega)
    rw [esg] at hnum
    rcases hnum with ⟨hn, M', e1, hF⟩ | ⟨x, q, M1, hn, e1, hS1, ht1, ht2, hF1⟩
    · left
      refine ⟨?_, M', e1, hF⟩
      show (nu tx p (if k = 0 then 59 else 44)).elim none _ = none
      rw [hn]
      rfl
    · have en : nus tx w (k + 1) p v = nus tx w k q (nK v (w - (k + 1)) x) := by
        show (nu tx p (if k = 0 then 59 else 44)).elim none _ = _
        rw [hn]
        rfl
      obtain ⟨c1, c2, c3⟩ := nu_b (by split <;> omega) hn
      dsimp only at c1 c2 c3
      rw [en, e1, show w - (k + 1) + 1 = w - k by omega]
      rcases ih q (nK v (w - (k + 1)) x) M1 f (by omega) (by omega) (by omega) hS1 (fun i hi => by
        unfold nK
        by_cases hz : i = w - (k + 1)
        · rw [hz, ht1, if_pos rfl]
        · rw [ht2 i hz, if_neg hz]; exact hv i (by omega)) with ⟨hn2, M', e2, hF2⟩ | ⟨r, M', hn2, e2, hS2, ht3, hF2⟩
      · exact Or.inl ⟨hn2, M', e2, hF1.tr hF2⟩
      · exact Or.inr ⟨r, M', hn2, e2, hS2, ht3, hF1.tr hF2⟩
end READR
