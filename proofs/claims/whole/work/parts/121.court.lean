/-! ===== by which lots a court day frees all ===== -/
def frN (K : Nat → Nat) (day : Nat) (d : Dm) (a b : Nat) : Nat := if o_left K day (d_but d a b) = 0 then 1 else 0
theorem frN_le {K : Nat → Nat} {day : Nat} {d : Dm} {a b : Nat} : frN K day d a b ≤ 1 := by unfold frN; split <;> omega
def c_a2 (K : Nat → Nat) (day : Nat) (d : Dm) (a k : Nat) : Nat := d_sm (fun m => if poP d m = true then (if a < m then frN K day d a m else 0) else 0) k
def c_b2 (d : Dm) (a k : Nat) : Nat := d_sm (fun m => if poP d m = true then (if a < m then 1 else 0) else 0) k
def c_go (K : Nat → Nat) (day : Nat) (d : Dm) (w k : Nat) : Nat := d_sm (fun q => if poP d q = true then (if w = 1 then frN K day d q q else c_a2 K day d q 64) else 0) k
def c_al (d : Dm) (w k : Nat) : Nat := d_sm (fun q => if poP d q = true then (if w = 1 then 1 else c_b2 d q 64) else 0) k
def c_val (go al : Nat) (x : Int32) : Int32 := if al = 0 then -4 else if x = 0 then nI (go / Nat.gcd go al) else nI (al / Nat.gcd go al)
theorem d_sm_mono {f g : Nat → Nat} (h : ∀ i, f i ≤ g i) : ∀ k, d_sm f k ≤ d_sm g k := by
  intro k
  induction k with
  | zero => exact Nat.le_refl _
  | succ k ih => have := h k; show d_sm f k + f k ≤ d_sm g k + g k; omega
theorem c_tri : ∀ c, c < 43 → d_sm (fun a => d_sm (fun b => if a < b then 1 else 0) c) c = c * (c - 1) / 2 ∧ c * (c - 1) / 2 ≤ 861 := by decide +kernel
section COURT
variable {M M' : Mem} {t u n ea kp i j c kind : Nat} {K S : Nat → Nat} {d0 d : Dm} {s : Ts} {A A1 A2 : Al} {tx Z : Tx}
theorem gd_s {a b : Nat} (hab : a ≤ b) (hb : b ≤ 861) : X5_greatestDivisor (nI a) (nI b) M = some (nI (Nat.gcd a b), M) := by
  unfold X5_greatestDivisor
  refine lp (S := Int32 × Int32 × Int32 × Mem) (fun f z => X5_greatestDivisor_7 f z.1 z.2.1 z.2.2.1 z.2.2.2) (fun k z => ∃ D R, z = (nI D, nI R, nI k, M) ∧ Nat.gcd R D = Nat.gcd a b ∧ D ≤ 861 ∧ ((k = 0 ∧ R ≤ D) ∨ (R < D ∧ R + k ≤ 432))) (fun r => r = some (nI (Nat.gcd a b), M)) 433 ?_ ?_ 0 FU (nI b, nI a, nI 0, M) (by omega) (FU_lt (by omega)) ⟨b, a, rfl, rfl, hb, Or.inl ⟨rfl, hab⟩⟩
  · intro k f z hk ⟨D, R, e, hg, hD, hc⟩
    subst e
    show (∃ s', X5_greatestDivisor_7 (f + 1) (nI D) (nI R) (nI k) M = _ ∧ _) ∨ X5_greatestDivisor_7 (f + 1) (nI D) (nI R) (nI k) M = _
    rw [X5_greatestDivisor_7, if_neg (show ¬ (504 : Int32) ≤ nI k from nI_ge (b := 504) (by omega) (by omega))]
    by_cases hR : R = 0
    · right
      rw [if_pos (show nI R = 0 by rw [hR]; rfl)]
      rw [hR, Nat.gcd_zero_left] at hg
      rw [hg]
    · left
      have hlt : D % R < R := Nat.mod_lt _ (by omega)
      rw [if_neg (show ¬ nI R = 0 from nI_ne0 (by omega) (by omega)), zz_rem (by omega) (by omega) (by omega), nI_1]
      refine ⟨(nI R, nI (D % R), nI (k + 1), M), rfl, R, D % R, rfl, ?_, by omega, Or.inr ⟨hlt, ?_⟩⟩
      · rw [← Nat.gcd_rec]; exact hg
      · rcases hc with ⟨h0, hRD⟩ | ⟨_, h1⟩
        · by_cases hs : R ≤ 430
          · omega
          · rw [Nat.mod_eq_sub_mod hRD, Nat.mod_eq_of_lt (by omega)]
            omega
        · omega
  · intro f z ⟨D, R, e, hg, hD, hc⟩
    omega
theorem X6_court_169_s {go al : Nat} {x : Int32} (h0 : al ≠ 0) (hga : go ≤ al) (hb : al ≤ 861) : X6_court_169 u x (nI al) (nI go) FU (nI go) (nI al) M = some (c_val go al x, M) := by
  have hpos : 0 < Nat.gcd go al := Nat.gcd_pos_of_pos_right _ (by omega)
  have hle : Nat.gcd go al ≤ al := Nat.gcd_le_right _ (by omega)
  refine lp (S := Int32 × Int32 × Mem) (fun f z => X6_court_169 u x (nI al) (nI go) f z.1 z.2.1 z.2.2) (fun k z => ∃ p q, z = (nI p, nI q, M) ∧ Nat.gcd q p = Nat.gcd go al ∧ p ≤ 861 ∧ q + k ≤ 861) (fun r => r = some (c_val go al x, M)) 862 ?_ ?_ 0 FU (nI go, nI al, M) (by omega) (FU_lt (by omega)) ⟨go, al, rfl, Nat.gcd_comm _ _, by omega, by omega⟩
  · intro k f z hk ⟨p, q, e, hg, hp, hq⟩
    subst e
    show (∃ s', X6_court_169 u x (nI al) (nI go) (f + 1) (nI p) (nI q) M = _ ∧ _) ∨ X6_court_169 u x (nI al) (nI go) (f + 1) (nI p) (nI q) M = _
    rw [X6_court_169]
    by_cases hz : q = 0
    · right
      rw [hz, Nat.gcd_zero_left] at hg
      rw [if_pos (show nI q = 0 by rw [hz]; rfl), hg]
      unfold c_val
      rw [if_neg h0]
      by_cases hx : x = 0
      · rw [if_neg (not_not_intro hx), if_pos hx, zz_div (by omega) hpos (by omega)]
      · rw [if_pos hx, if_neg hx, zz_div (by omega) hpos (by omega)]
    · left
      have hlt : p % q < q := Nat.mod_lt _ (by omega)
      rw [if_neg (show ¬ nI q = 0 from nI_ne0 (by omega) (by omega)), zz_rem (by omega) (by omega) (by omega)]
      refine ⟨(nI q, nI (p % q), M), rfl, q, p % q, rfl, ?_, by omega, by omega⟩
      rw [← Nat.gcd_rec]; exact hg
  · intro f z ⟨p, q, e, hg, hp, hq⟩
    omega
theorem c_go_le {day : Nat} {w k : Nat} : c_go K day d w k ≤ c_al d w k := by
  refine d_sm_mono (fun q => ?_) k
  by_cases hp : poP d q = true
  · rw [if_pos hp, if_pos hp]
    by_cases hw : w = 1
    · rw [if_pos hw, if_pos hw]; exact frN_le
    · rw [if_neg hw, if_neg hw]
      refine d_sm_mono (fun m => ?_) 64
      by_cases hm : poP d m = true
      · rw [if_pos hm, if_pos hm]
        split
        · exact frN_le
        · exact Nat.le_refl _
      · rw [if_neg hm, if_neg hm]; exact Nat.le_refl _
  · rw [if_neg hp, if_neg hp]; exact Nat.le_refl _
theorem d_sm_one {P : Nat → Bool} : ∀ k, d_sm (fun q => if P q = true then 1 else 0) k = cn P k := by
  intro k
  induction k with
  | zero => rfl
  | succ k ih => show d_sm _ k + (if P k = true then 1 else 0) = cn P k + _; rw [ih]
/-- the listed places stand in their order -/
theorem pf_lt {P : Nat → Bool} {pf : Nat → Nat} {N r r' : Nat} (hpq : ∀ q, q < N → P q = true → pf (cn P q) = q) (hr : r < cn P N) (hr' : r' < cn P N) : pf r < pf r' ↔ r < r' := by
  obtain ⟨q, h1, h2, h3⟩ := cn_sur N r hr
  obtain ⟨q', h1', h2', h3'⟩ := cn_sur N r' hr'
  have e := hpq q h1 h2
  have e' := hpq q' h1' h2'
  rw [h3] at e
  rw [h3'] at e'
  rw [e, e']
  constructor
  · intro h
    have := cn_st h h2
    omega
  · intro h
    rcases Nat.lt_or_ge q q' with h' | h'
    · exact h'
    · have := cn_lt (P := P) q h'
      omega
theorem c_al1 : c_al d 1 64 = cn (poP d) 64 := by
  unfold c_al
  rw [show (fun q => if poP d q = true then (if 1 = 1 then 1 else c_b2 d q 64) else 0) = fun q => if poP d q = true then 1 else 0 from by funext q; rw [if_pos rfl]]
  exact d_sm_one 64
theorem c_al2 {pf : Nat → Nat} (hpq : ∀ q, q < 64 → poP d q = true → pf (cn (poP d) q) = q) : c_al d 2 64 = d_sm (fun a => d_sm (fun b => if a < b then 1 else 0) (cn (poP d) 64)) (cn (poP d) 64) := by
  unfold c_al
  rw [show (fun q => if poP d q = true then (if 2 = 1 then 1 else c_b2 d q 64) else 0) = fun q => if poP d q = true then c_b2 d q 64 else 0 from by funext q; rw [if_neg (show ¬ (2 : Nat) = 1 by omega)]]
  rw [sm_cn (F := fun q => c_b2 d q 64) (pf := pf) 64 hpq]
  refine d_sm_ext _ (fun r hr => ?_)
  show c_b2 d (pf r) 64 = _
  unfold c_b2
  rw [sm_cn (F := fun m => if pf r < m then 1 else 0) (pf := pf) 64 hpq]
  refine d_sm_ext _ (fun r' hr' => ?_)
  show (if pf r < pf r' then 1 else 0) = _
  by_cases h : r < r'
  · rw [if_pos h, if_pos ((pf_lt hpq hr hr').2 h)]
  · rw [if_neg h, if_neg (fun h' => h ((pf_lt hpq hr hr').1 h'))]
theorem c_go1 {pf : Nat → Nat} {day : Nat} (hpq : ∀ q, q < 64 → poP d q = true → pf (cn (poP d) q) = q) : c_go K day d 1 64 = d_sm (fun r => frN K day d (pf r) (pf r)) (cn (poP d) 64) := by
  unfold c_go
  rw [show (fun q => if poP d q = true then (if 1 = 1 then frN K day d q q else c_a2 K day d q 64) else 0) = fun q => if poP d q = true then frN K day d q q else 0 from by funext q; rw [if_pos rfl]]
  exact sm_cn (F := fun q => frN K day d q q) (pf := pf) 64 hpq
theorem c_go2 {pf : Nat → Nat} {day : Nat} (hpq : ∀ q, q < 64 → poP d q = true → pf (cn (poP d) q) = q) : c_go K day d 2 64 = d_sm (fun a => d_sm (fun b => if a < b then frN K day d (pf a) (pf b) else 0) (cn (poP d) 64)) (cn (poP d) 64) := by
  unfold c_go
  rw [show (fun q => if poP d q = true then (if 2 = 1 then frN K day d q q else c_a2 K day d q 64) else 0) = fun q => if poP d q = true then c_a2 K day d q 64 else 0 from by funext q; rw [if_neg (show ¬ (2 : Nat) = 1 by omega)]]
  rw [sm_cn (F := fun q => c_a2 K day d q 64) (pf := pf) 64 hpq]
  refine d_sm_ext _ (fun r hr => ?_)
  show c_a2 K day d (pf r) 64 = _
  unfold c_a2
  rw [sm_cn (F := fun m => if pf r < m then frN K day d (pf r) m else 0) (pf := pf) 64 hpq]
  refine d_sm_ext _ (fun r' hr' => ?_)
  show (if pf r < pf r' then frN K day d (pf r) (pf r') else 0) = _
  by_cases h : r < r'
  · rw [if_pos h, if_pos ((pf_lt hpq hr hr').2 h)]
  · rw [if_neg h, if_neg (fun h' => h ((pf_lt hpq hr hr').1 h'))]
theorem d_sm_skip {g : Nat → Nat} {a : Nat} : d_sm (fun b => if a < b then g b else 0) (a + 1) = 0 := by
  have h := d_sm_0 (f := fun b => if a < b then g b else 0) (a := 0) (a + 1) (fun i h1 h2 => if_neg (by omega))
  rw [Nat.zero_add] at h
  rw [h]
  rfl
theorem asN01 {v : Nat} (hv : v ≤ 441) {c : Int32 → Mem → Option (Int32 × Mem)} : (if ¬ nI v = 0 then (s_call (X5_asNumber (0 : Int32) M) c) else (s_call (X5_asNumber (1 : Int32) M) c)) = c (nI (if v = 0 then 1 else 0)) M := by
  by_cases h : v = 0
  · rw [if_neg (not_not_intro (show nI v = 0 by rw [h]; rfl)), if_pos h]; rfl
  · rw [if_pos (nI_ne0 (by omega) (by omega)), if_neg h]; rfl
end COURT
