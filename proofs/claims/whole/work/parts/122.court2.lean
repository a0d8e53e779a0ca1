section COURT2
variable {M M' : Mem} {t u n ea kp i j c kind : Nat} {K S : Nat → Nat} {d0 d : Dm} {s : Ts} {A A1 A2 : Al} {tx Z : Tx}
/-- the class's count, two lots -/
theorem lots65_s {M1 : Mem} {pf : Nat → Nat} {cN a acc : Nat} {k27 : Int32 → Int32 → Mem → Option (Int32 × Mem)} (hC : AC M t tx n ea K S d0 s A kp A1 A2 Z) (hV : SV tx n ea K S d0 s A kp A1 A2 Z) (hcN : cN ≤ 42) (hrq : ∀ r, r < cN → pf r < 64 ∧ M1 (t + 43) r = nI (pf r)) (h43 : M (t + 43) = M1 (t + 43)) (ha : a < cN) :
    ∃ M', X5_lotsThatFree_65 t (nI 2) (nI cN) (nI a) k27 FU (nI acc) (nI (a + 1)) M = k27 (nI (acc + d_sm (fun b => if a < b then frN K s.2.1 s.2.2 (pf a) (pf b) else 0) cN)) (nI (a + 1)) M' ∧ Sc t M M' ∧ M' (t + 43) = M1 (t + 43) := by
  refine lp (S := Int32 × Int32 × Mem) (fun f z => X5_lotsThatFree_65 t (nI 2) (nI cN) (nI a) k27 f z.1 z.2.1 z.2.2) (fun k z => a < k ∧ z.1 = nI (acc + d_sm (fun b => if a < b then frN K s.2.1 s.2.2 (pf a) (pf b) else 0) k) ∧ z.2.1 = nI k ∧ Sc t M z.2.2 ∧ z.2.2 (t + 43) = M1 (t + 43)) (fun r => ∃ M', r = k27 (nI (acc + d_sm (fun b => if a < b then frN K s.2.1 s.2.2 (pf a) (pf b) else 0) cN)) (nI (a + 1)) M' ∧ Sc t M M' ∧ M' (t + 43) = M1 (t + 43)) cN ?_ ?_ (a + 1) FU (nI acc, nI (a + 1), M) (by omega) (FU_lt (by omega)) ⟨by omega, by rw [d_sm_skip]; rfl, rfl, Sc.rf, h43⟩
  · intro k f z hk ⟨hak, e1, e2, hS2, h432⟩
    obtain ⟨x, y, M2⟩ := z
    dsimp only at e1 e2 hS2 h432
    subst e1 e2
    left
    have hC2 := hC.sc hS2
    obtain ⟨g1, g2⟩ := hrq a ha
    obtain ⟨g3, g4⟩ := hrq k hk
    obtain ⟨M3, e3, hF3, hb3⟩ := hC2.left2 hV (r := a) (q := pf a) (r' := k) (q' := pf k) (by rw [h432]; exact g2) (by omega) g1 (by rw [h432]; exact g4) (by omega) g3
    refine ⟨(nI (acc + d_sm (fun b => if a < b then frN K s.2.1 s.2.2 (pf a) (pf b) else 0) (k + 1)), nI (k + 1), M3), ?_, by omega, rfl, rfl, hS2.tr (Sc.tri hF3), by dsimp only; rw [hF3 _ (by omega)]; exact h432⟩
    have er : d_sm (fun b => if a < b then frN K s.2.1 s.2.2 (pf a) (pf b) else 0) (k + 1) = d_sm (fun b => if a < b then frN K s.2.1 s.2.2 (pf a) (pf b) else 0) k + frN K s.2.1 s.2.2 (pf a) (pf k) := by
      show _ + (if a < k then frN K s.2.1 s.2.2 (pf a) (pf k) else 0) = _
      rw [if_pos hak]
    show X5_lotsThatFree_65 t (nI 2) (nI cN) (nI a) k27 (f + 1) (nI (acc + d_sm (fun b => if a < b then frN K s.2.1 s.2.2 (pf a) (pf b) else 0) k)) (nI k) M2 = X5_lotsThatFree_65 t (nI 2) (nI cN) (nI a) k27 f (nI (acc + d_sm (fun b => if a < b then frN K s.2.1 s.2.2 (pf a) (pf b) else 0) (k + 1))) (nI (k + 1)) M3
    rw [X5_lotsThatFree_65, if_neg (nI_ge hk (by omega)), if_neg (show ¬ ¬ nI 2 = (2 : Int32) from not_not_intro rfl), e3, zz_call, asN01 hb3, zz_let, nI_add, nI_1, er, Nat.add_assoc]
    rfl
  · intro f z ⟨hak, e1, e2, hS2, h432⟩
    obtain ⟨x, y, M2⟩ := z
    dsimp only at e1 e2 hS2 h432
    subst e1 e2
    refine ⟨M2, ?_, hS2, h432⟩
    show X5_lotsThatFree_65 t (nI 2) (nI cN) (nI a) k27 (f + 1) _ (nI cN) M2 = _
    rw [X5_lotsThatFree_65, if_pos (nI_le (Nat.le_refl _) (by omega)), nI_1]
theorem lots_s {M1 : Mem} {pf : Nat → Nat} {w : Nat} (hC : AC M1 t tx n ea K S d0 s A kp A1 A2 Z) (hV : SV tx n ea K S d0 s A kp A1 A2 Z) (hP1 : PL M1 t s.2.2 64) (hpf : pf = fun r => (M1 (t + 43) r).toNatClampNeg) (hw1 : 1 ≤ w) (hw2 : w ≤ 2) :
    ∃ M', X5_lotsThatFree t (nI w) (nI (cn (poP s.2.2) 64)) M1 = some (nI (c_go K s.2.1 s.2.2 w 64), M') ∧ Sc t M1 M' := by
  have hV1 := hV.2.2.2.2.2.1
  have hc := cn42 hV1
  have hpq : ∀ q, q < 64 → poP s.2.2 q = true → pf (cn (poP s.2.2) q) = q := fun q hq hp => by
    rw [hpf]
    show (M1 (t + 43) (cn (poP s.2.2) q)).toNatClampNeg = q
    rw [hP1 q hq hp, nI_clamp (by omega)]
  have hrq : ∀ r, r < cn (poP s.2.2) 64 → pf r < 64 ∧ M1 (t + 43) r = nI (pf r) := fun r hr => by
    obtain ⟨q, h1, h2, h3⟩ := cn_sur 64 r hr
    have := hpq q h1 h2
    rw [h3] at this
    rw [this]
    refine ⟨h1, ?_⟩
    rw [← h3]
    exact hP1 q h1 h2
  generalize hcN : cn (poP s.2.2) 64 = cN at hc hrq
  unfold X5_lotsThatFree
  rw [if_pos (show ¬ nI w = 0 from nI_ne0 (by omega) (by omega))]
  rcases (by omega : w = 1 ∨ w = 2) with rfl | rfl
  · rw [c_go1 hpq, hcN]
    refine lp (S := Int32 × Int32 × Mem) (fun f z => X5_lotsThatFree_27 t (nI 1) (nI cN) f z.1 z.2.1 z.2.2) (fun k z => z.1 = nI (d_sm (fun r => frN K s.2.1 s.2.2 (pf r) (pf r)) k) ∧ z.2.1 = nI k ∧ Sc t M1 z.2.2 ∧ z.2.2 (t + 43) = M1 (t + 43)) (fun r => ∃ M', r = some (nI (d_sm (fun r => frN K s.2.1 s.2.2 (pf r) (pf r)) cN), M') ∧ Sc t M1 M') cN ?_ ?_ 0 FU (nI 0, nI 0, M1) (by omega) (FU_lt (by omega)) ⟨rfl, rfl, Sc.rf, rfl⟩
    · intro k f z hk ⟨e1, e2, hS2, h432⟩
      obtain ⟨x, y, M2⟩ := z
      dsimp only at e1 e2 hS2 h432
      subst e1 e2
      left
      have hC2 := hC.sc hS2
      obtain ⟨g1, g2⟩ := hrq k hk
      obtain ⟨M3, e3, hF3, hb3⟩ := hC2.left1 hV (r := k) (q := pf k) (by rw [h432]; exact g2) (by omega) g1
      refine ⟨(nI (d_sm (fun r => frN K s.2.1 s.2.2 (pf r) (pf r)) (k + 1)), nI (k + 1), M3), ?_, rfl, rfl, hS2.tr (Sc.tri hF3), by dsimp only; rw [hF3 _ (by omega)]; exact h432⟩
      have efr : frN K s.2.1 s.2.2 (pf k) (pf k) = if o_left K s.2.1 (d_one s.2.2 (pf k)) = 0 then 1 else 0 := by
        unfold frN
        rw [d_but_same]
      show X5_lotsThatFree_27 t (nI 1) (nI cN) (f + 1) (nI (d_sm (fun r => frN K s.2.1 s.2.2 (pf r) (pf r)) k)) (nI k) M2 = X5_lotsThatFree_27 t (nI 1) (nI cN) f (nI (d_sm (fun r => frN K s.2.1 s.2.2 (pf r) (pf r)) k + frN K s.2.1 s.2.2 (pf k) (pf k))) (nI (k + 1)) M3
      rw [X5_lotsThatFree_27, if_neg (nI_ge hk (by omega)), if_neg (show ¬ ¬ nI 1 = (1 : Int32) from not_not_intro rfl), e3, zz_call, asN01 hb3, zz_let, zz_let, nI_add, nI_1, efr, show FU = 99999 + 1 from rfl, X5_lotsThatFree_65]
      by_cases hx : nI cN ≤ nI (k + 1)
      · rw [if_pos hx, nI_1]
      · rw [if_neg hx, if_pos (by decide), nI_1]
    · intro f z ⟨e1, e2, hS2, h432⟩
      obtain ⟨x, y, M2⟩ := z
      dsimp only at e1 e2 hS2 h432
      subst e1 e2
      refine ⟨M2, ?_, hS2⟩
      show X5_lotsThatFree_27 t (nI 1) (nI cN) (f + 1) _ (nI cN) M2 = _
      rw [X5_lotsThatFree_27, if_pos (nI_le (Nat.le_refl _) (by omega))]
  · rw [c_go2 hpq, hcN]
    refine lp (S := Int32 × Int32 × Mem) (fun f z => X5_lotsThatFree_27 t (nI 2) (nI cN) f z.1 z.2.1 z.2.2) (fun k z => z.1 = nI (d_sm (fun a => d_sm (fun b => if a < b then frN K s.2.1 s.2.2 (pf a) (pf b) else 0) cN) k) ∧ z.2.1 = nI k ∧ Sc t M1 z.2.2 ∧ z.2.2 (t + 43) = M1 (t + 43)) (fun r => ∃ M', r = some (nI (d_sm (fun a => d_sm (fun b => if a < b then frN K s.2.1 s.2.2 (pf a) (pf b) else 0) cN) cN), M') ∧ Sc t M1 M') cN ?_ ?_ 0 FU (nI 0, nI 0, M1) (by omega) (FU_lt (by omega)) ⟨rfl, rfl, Sc.rf, rfl⟩
    · intro k f z hk ⟨e1, e2, hS2, h432⟩
      obtain ⟨x, y, M2⟩ := z
      dsimp only at e1 e2 hS2 h432
      subst e1 e2
      left
      obtain ⟨M3, e3, hS3, h433⟩ := lots65_s (k27 := X5_lotsThatFree_27 t (nI 2) (nI cN) f) (acc := d_sm (fun a => d_sm (fun b => if a < b then frN K s.2.1 s.2.2 (pf a) (pf b) else 0) cN) k) (hC.sc hS2) hV hc hrq h432 hk
      refine ⟨(nI (d_sm (fun a => d_sm (fun b => if a < b then frN K s.2.1 s.2.2 (pf a) (pf b) else 0) cN) (k + 1)), nI (k + 1), M3), ?_, rfl, rfl, hS2.tr hS3, h433⟩
      show X5_lotsThatFree_27 t (nI 2) (nI cN) (f + 1) _ (nI k) M2 = _
      rw [X5_lotsThatFree_27, if_neg (nI_ge hk (by omega)), if_pos (by decide), zz_let, nI_1, e3]
      rfl
    · intro f z ⟨e1, e2, hS2, h432⟩
      obtain ⟨x, y, M2⟩ := z
      dsimp only at e1 e2 hS2 h432
      subst e1 e2
      refine ⟨M2, ?_, hS2⟩
      show X5_lotsThatFree_27 t (nI 2) (nI cN) (f + 1) _ (nI cN) M2 = _
      rw [X5_lotsThatFree_27, if_pos (nI_le (Nat.le_refl _) (by omega))]
/-! the reference's count -/
theorem court_d (hR : AR M u tx n ea K S d0 s A kp A1 A2 Z) {k : Nat} (hk : k < 64) : M (u + 13) k = nI (s.2.2 (k / 8) (k % 8)) := by
  have := hR.2.2.2.2.1.2.2.2.2.2 (k / 8) (k % 8) (by omega) (by omega)
  rw [show 64 * 0 + 8 * (k / 8) + k % 8 = k by omega] at this
  exact this
theorem court96_s {x1 x2 y0 : Int32} {al go k m : Nat} {k53 k80 : Int32 → Int32 → Int32 → Mem → Option (Int32 × Mem)} (hR : AR M u tx n ea K S d0 s A kp A1 A2 Z) (hV : SV tx n ea K S d0 s A kp A1 A2 Z) (hk : k < 64) (hm : m < 64) (hy : ¬ y0 ≤ nI m) :
    ∃ M', X6_court_96 u x1 x2 (nI al) (nI go) (nI k) (nI m) k53 k80 y0 (nI m) M = k80 (nI (al + if poP s.2.2 k = true ∧ poP s.2.2 m = true then 1 else 0)) (nI (go + if poP s.2.2 k = true ∧ poP s.2.2 m = true then frN K s.2.1 s.2.2 k m else 0)) (nI (m + 1)) M' ∧ ScR u M M' := by
  have hV1 := hV.2.2.2.2.2.1
  have q1 := hV1.2.2.2.1 (k / 8) (k % 8)
  have q2 := hV1.2.2.2.1 (m / 8) (m % 8)
  unfold X6_court_96
  rw [if_neg hy, zz_ald (by omega) (by omega), court_d hR hk, nI_1]
  by_cases pk : 0 < s.2.2 (k / 8) (k % 8)
  · have hpk : poP s.2.2 k = true := decide_eq_true pk
    rw [if_neg (nI_nle pk (by omega)), zz_ald (by omega) (by omega), court_d hR hm]
    by_cases pm : 0 < s.2.2 (m / 8) (m % 8)
    · have hpm : poP s.2.2 m = true := decide_eq_true pm
      obtain ⟨M2, e2, hS2⟩ := hR.free hV hk hm
      rw [if_neg (nI_nle pm (by omega)), e2, zz_call, if_pos (show poP s.2.2 k = true ∧ poP s.2.2 m = true from ⟨hpk, hpm⟩), if_pos (show poP s.2.2 k = true ∧ poP s.2.2 m = true from ⟨hpk, hpm⟩), nI_1]
      refine ⟨M2, ?_, hS2⟩
      unfold frN
      by_cases h : o_left K s.2.1 (d_but s.2.2 k m) = 0
      · rw [decide_eq_true h, if_neg (by decide), if_pos h, zz_let, nI_1]
      · rw [decide_eq_false h, if_pos (by decide), if_neg h, zz_let, nl0, nI_add]
    · have hpm : ¬ (poP s.2.2 k = true ∧ poP s.2.2 m = true) := fun h => pm (of_decide_eq_true h.2)
      rw [if_pos (show nI (s.2.2 (m / 8) (m % 8)) ≤ 0 from nI_le (b := 0) (by omega) (by omega)), if_neg hpm, if_neg hpm]
      exact ⟨M, rfl, ScR.rf⟩
  · have hpm : ¬ (poP s.2.2 k = true ∧ poP s.2.2 m = true) := fun h => pk (of_decide_eq_true h.1)
    rw [if_pos (show nI (s.2.2 (k / 8) (k % 8)) ≤ 0 from nI_le (b := 0) (by omega) (by omega)), if_neg hpm, if_neg hpm]
    exact ⟨M, rfl, ScR.rf⟩
theorem court80_2 {x2 : Int32} {al go k : Nat} {k53 : Int32 → Int32 → Int32 → Mem → Option (Int32 × Mem)} (hR : AR M u tx n ea K S d0 s A kp A1 A2 Z) (hV : SV tx n ea K S d0 s A kp A1 A2 Z) (hk : k < 64) :
    ∃ M', X6_court_80 u (nI 2) x2 (nI k) k53 FU (nI al) (nI go) (nI (k + 1)) M = k53 (nI (al + if poP s.2.2 k = true then c_b2 s.2.2 k 64 else 0)) (nI (go + if poP s.2.2 k = true then c_a2 K s.2.1 s.2.2 k 64 else 0)) (nI (k + 1)) M' ∧ ScR u M M' := by
  have hn7 := hV.2.2.2.2.1.1
  have sk1 : c_b2 s.2.2 k (k + 1) = 0 := by
    unfold c_b2
    have h := d_sm_0 (f := fun m => if poP s.2.2 m = true then (if k < m then 1 else 0) else 0) (a := 0) (k + 1) (fun i h1 h2 => by
      rw [if_neg (show ¬ k < i by omega)]
      exact ite_self _)
    rw [Nat.zero_add] at h
    rw [h]
    rfl
  have sk2 : c_a2 K s.2.1 s.2.2 k (k + 1) = 0 := by
    unfold c_a2
    have h := d_sm_0 (f := fun m => if poP s.2.2 m = true then (if k < m then frN K s.2.1 s.2.2 k m else 0) else 0) (a := 0) (k + 1) (fun i h1 h2 => by
      rw [if_neg (show ¬ k < i by omega)]
      exact ite_self _)
    rw [Nat.zero_add] at h
    rw [h]
    rfl
  refine lp (S := Int32 × Int32 × Int32 × Mem) (fun f z => X6_court_80 u (nI 2) x2 (nI k) k53 f z.1 z.2.1 z.2.2.1 z.2.2.2) (fun m z => k < m ∧ z.1 = nI (al + if poP s.2.2 k = true then c_b2 s.2.2 k m else 0) ∧ z.2.1 = nI (go + if poP s.2.2 k = true then c_a2 K s.2.1 s.2.2 k m else 0) ∧ z.2.2.1 = nI m ∧ ScR u M z.2.2.2) (fun r => ∃ M', r = k53 (nI (al + if poP s.2.2 k = true then c_b2 s.2.2 k 64 else 0)) (nI (go + if poP s.2.2 k = true then c_a2 K s.2.1 s.2.2 k 64 else 0)) (nI (k + 1)) M' ∧ ScR u M M') 64 ?_ ?_ (k + 1) FU (nI al, nI go, nI (k + 1), M) (by omega) (FU_lt (by omega)) ⟨by omega, by rw [sk1, ite_self]; rfl, by rw [sk2, ite_self]; rfl, rfl, ScR.rf⟩
  · intro m f z hm ⟨hkm, e1, e2, e3, hS2⟩
    obtain ⟨y1, y2, y3, M2⟩ := z
    dsimp only at e1 e2 e3 hS2
    subst e1 e2 e3
    left
    obtain ⟨M3, e3, hS3⟩ := court96_s (x1 := nI 2) (x2 := x2) (y0 := 64) (al := al + if poP s.2.2 k = true then c_b2 s.2.2 k m else 0) (go := go + if poP s.2.2 k = true then c_a2 K s.2.1 s.2.2 k m else 0) (k53 := k53) (k80 := X6_court_80 u (nI 2) x2 (nI k) k53 f) (hR.sc hn7 hS2) hV hk hm (nI_ge (b := 64) hm (by omega))
    refine ⟨(nI (al + if poP s.2.2 k = true then c_b2 s.2.2 k (m + 1) else 0), nI (go + if poP s.2.2 k = true then c_a2 K s.2.1 s.2.2 k (m + 1) else 0), nI (m + 1), M3), ?_, by omega, rfl, rfl, rfl, hS2.tr hS3⟩
    have eb : c_b2 s.2.2 k (m + 1) = c_b2 s.2.2 k m + if poP s.2.2 m = true then 1 else 0 := by
      show _ + (if poP s.2.2 m = true then (if k < m then 1 else 0) else 0) = _
      rw [if_pos hkm]
      rfl
    have ea : c_a2 K s.2.1 s.2.2 k (m + 1) = c_a2 K s.2.1 s.2.2 k m + if poP s.2.2 m = true then frN K s.2.1 s.2.2 k m else 0 := by
      show _ + (if poP s.2.2 m = true then (if k < m then frN K s.2.1 s.2.2 k m else 0) else 0) = _
      rw [if_pos hkm]
      rfl
    show X6_court_80 u (nI 2) x2 (nI k) k53 (f + 1) _ _ (nI m) M2 = _
    rw [X6_court_80, if_pos (by decide), e3, eb, ea]
    by_cases hp : poP s.2.2 k = true
    · by_cases hq : poP s.2.2 m = true
      · simp only [hp, hq, if_true, and_self, Nat.add_assoc]
      · simp only [hp, hq, if_true, and_false, if_false, Nat.add_zero]
        rfl
    · simp only [hp, if_false, false_and, Nat.add_zero]
      rfl
  · intro f z ⟨hkm, e1, e2, e3, hS2⟩
    obtain ⟨y1, y2, y3, M2⟩ := z
    dsimp only at e1 e2 e3 hS2
    subst e1 e2 e3
    refine ⟨M2, ?_, hS2⟩
    show X6_court_80 u (nI 2) x2 (nI k) k53 (f + 1) _ _ (nI 64) M2 = _
    rw [X6_court_80, if_pos (by decide)]
    unfold X6_court_96
    rw [if_pos (by decide), nI_1]
theorem court80_1 {x2 : Int32} {al go k : Nat} {k53 : Int32 → Int32 → Int32 → Mem → Option (Int32 × Mem)} (hR : AR M u tx n ea K S d0 s A kp A1 A2 Z) (hV : SV tx n ea K S d0 s A kp A1 A2 Z) (hk : k < 64) :
    ∃ M', X6_court_80 u (nI 1) x2 (nI k) k53 FU (nI al) (nI go) (nI k) M = k53 (nI (al + if poP s.2.2 k = true then 1 else 0)) (nI (go + if poP s.2.2 k = true then frN K s.2.1 s.2.2 k k else 0)) (nI (k + 1)) M' ∧ ScR u M M' := by
  obtain ⟨M3, e3, hS3⟩ := court96_s (x1 := nI 1) (x2 := x2) (y0 := nI (k + 1)) (al := al) (go := go) (k53 := k53) (k80 := X6_court_80 u (nI 1) x2 (nI k) k53 99999) hR hV hk hk (nI_ge (by omega) (by omega))
  refine ⟨M3, ?_, hS3⟩
  rw [show FU = 99999 + 1 from rfl, X6_court_80, if_neg (show ¬ ¬ nI 1 = (1 : Int32) from not_not_intro rfl), nI_1, e3, show (99999 : Nat) = 99998 + 1 from rfl, X6_court_80, if_neg (show ¬ ¬ nI 1 = (1 : Int32) from not_not_intro rfl), nI_1]
  unfold X6_court_96
  rw [if_pos (nI_le (Nat.le_refl _) (by omega)), nI_1]
  simp only [and_self]
end COURT2
