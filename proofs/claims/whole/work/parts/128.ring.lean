/-! ===== rings of those who owe ===== -/
def rgS (o : Option Nat) (j : Nat) (x : Option (Nat × Nat)) : Option (Nat × Nat) := o.elim x (fun k => x.elim (some (k + 1, j)) (fun p => if k + 1 < p.1 then some (k + 1, j) else some p))
def rgF (D : Nat → Option Nat) (N : Nat) : Option (Nat × Nat) := fo (fun j x => rgS (D j) j x) N none
def rga (z : Int32) (x : Option (Nat × Nat)) : Int32 := x.elim z (fun p => nI p.1)
def rgb (x : Option (Nat × Nat)) : Int32 := x.elim (-4) (fun p => nI p.2)
theorem rga_s {z : Int32} {p : Nat × Nat} : rga z (some p) = nI p.1 := rfl
theorem rga_n {z : Int32} : rga z none = z := rfl
theorem rgb_s {p : Nat × Nat} : rgb (some p) = nI p.2 := rfl
theorem neg4 {k : Nat} (hk : k < 2 ^ 31) : ¬ nI k = (-4 : Int32) := fun e => by
  have h := nI_pos' (n := k) hk
  rw [e] at h
  exact absurd h (by decide)
section RING
variable {M M' : Mem} {t t1 u n ea kp i j c kind day al a b : Nat} {K S : Nat → Nat} {d0 d : Dm} {s : Ts} {A A1 A2 : Al} {tx Z : Tx} {R : Nat → Nat}
theorem X2_areLinked_s (hL : LK M t n R) (hi : i < 7) (hR : R i < 128) (hj : j < 7) : X2_areLinked t (nI i) (nI j) M = some (b2 ((R i).testBit j), M) := by
  unfold X2_areLinked
  rw [zz_ald (by omega) (by omega), hL.2 i hi]
  by_cases h : (R i).testBit j = true
  · rw [if_neg (not_not_intro ((zz_bit (by omega) (by omega)).2 h)), h]
    exact zz_rz1
  · rw [if_pos (fun q => h ((zz_bit (by omega) (by omega)).1 q)), Bool.eq_false_iff.2 h]
    exact zz_rz0
/-- far, as it is laid -/
def fS (d : Dm) (i : Nat) (f : Nat → Nat) : Prop := ∀ a, a < 8 → f a ≤ 99 ∧ (f a < 99 → Rd (fun c b => 0 < d c b) (f a) a i)
def fU (d : Dm) (i r : Nat) (f : Nat → Nat) : Prop := ∀ a, a < 8 → ∀ k, k ≤ r → Rd (fun c b => 0 < d c b) k a i → f a ≤ k
theorem X6_lf41_s {x2 : Int32} {k33 : Int32 → Mem → Option (Unit × Mem)} {r : Nat} {f0 : Nat → Nat} (hT : TR M u 0 n day al K S d) (hV : t_ok n al K d) (hM : ∀ a, a < 8 → M (u + 17) a = nI (f0 a)) (hS : fS d i f0) (hU : fU d i r f0) :
    ∃ M' f, X6_layFar_41 u x2 k33 FU (nI 0) M = k33 (x2 + nI 1) M' ∧ (∀ a, a < 8 → M' (u + 17) a = nI (f a)) ∧ fS d i f ∧ fU d i (r + 1) f ∧ (∀ c, c ≠ u + 17 → M' c = M c) := by
  refine lp (S := Int32 × Mem) (fun f z => X6_layFar_41 u x2 k33 f z.1 z.2) (fun q z => z.1 = nI q ∧ (∀ c, c ≠ u + 17 → z.2 c = M c) ∧ ∃ f, (∀ a, a < 8 → z.2 (u + 17) a = nI (f a)) ∧ fS d i f ∧ (∀ a, a < 8 → f a ≤ f0 a) ∧ (∀ q', q' < q → 0 < d (q' / 8) (q' % 8) → f (q' / 8) ≤ f0 (q' % 8) + 1)) (fun res => ∃ M' f, res = k33 (x2 + nI 1) M' ∧ (∀ a, a < 8 → M' (u + 17) a = nI (f a)) ∧ fS d i f ∧ fU d i (r + 1) f ∧ (∀ c, c ≠ u + 17 → M' c = M c)) 64 ?_ ?_ 0 FU (nI 0, M) (by omega) (FU_lt (by omega)) ⟨rfl, fun c hc => rfl, f0, hM, hS, fun a _ => Nat.le_refl _, fun q' hq' => by omega⟩
  · intro q f z hq ⟨e1, hF, g, hg1, hg2, hg3, hg4⟩
    obtain ⟨x, M1⟩ := z
    dsimp only at e1 hF hg1
    subst e1
    left
    have h8 : q / 8 < 8 := by omega
    have h9 : q % 8 < 8 := by omega
    have hdq : M1 (u + 13) q = nI (d (q / 8) (q % 8)) := by
      rw [hF _ (by omega)]
      have := hT.2.2.2.2.2 (q / 8) (q % 8) h8 h9
      rw [show 64 * 0 + 8 * (q / 8) + q % 8 = q by omega] at this
      exact this
    have q9 := hV.2.2.2.1 (q / 8) (q % 8)
    have b1 := (hg2 _ h9).1
    have b2 := (hg2 _ h8).1
    have same : ∀ M2, M2 = me_upd M1 (u + 17) (q / 8) (nI (g (q / 8))) → (0 < d (q / 8) (q % 8) → g (q / 8) ≤ g (q % 8) + 1) → ∃ s' : Int32 × Mem, X6_layFar_41 u x2 k33 f (nI (q + 1)) M2 = X6_layFar_41 u x2 k33 f s'.1 s'.2 ∧ (s'.1 = nI (q + 1) ∧ (∀ c, c ≠ u + 17 → s'.2 c = M c) ∧ ∃ f, (∀ a, a < 8 → s'.2 (u + 17) a = nI (f a)) ∧ fS d i f ∧ (∀ a, a < 8 → f a ≤ f0 a) ∧ (∀ q', q' < q + 1 → 0 < d (q' / 8) (q' % 8) → f (q' / 8) ≤ f0 (q' % 8) + 1)) := by
      intro M2 hM2 hle
      subst hM2
      refine ⟨(nI (q + 1), me_upd M1 (u + 17) (q / 8) (nI (g (q / 8)))), rfl, rfl, fun c hc => by dsimp only; rw [up_c hc]; exact hF c hc, g, fun a ha => ?_, hg2, hg3, fun q' hq' hp => ?_⟩
      · dsimp only
        by_cases hz : a = q / 8
        · rw [hz, up_s]
        · rw [up_j hz]; exact hg1 a ha
      · by_cases hz : q' = q
        · have h1 := hg3 _ h9
          rw [hz] at hp ⊢
          have := hle hp
          omega
        · exact hg4 q' (by omega) hp
    show ∃ s', X6_layFar_41 u x2 k33 (f + 1) (nI q) M1 = _ ∧ _
    rw [X6_layFar_41, if_neg (show ¬ (64 : Int32) ≤ nI q from nI_ge (b := 64) hq (by omega)), nl8, zz_rem (by omega) (by omega) (by omega), zz_ald (by omega) (by omega), hg1 _ h9, zz_let, nI_1, zz_div (by omega) (by omega) (by omega), zz_ald (by omega) (by omega), hdq, nI_1]
    by_cases hp : 0 < d (q / 8) (q % 8)
    · rw [if_neg (nI_nle hp (by omega)), zz_div (by omega) (by omega) (by omega), zz_ald (by omega) (by omega), hg1 _ h8]
      by_cases hl : g (q % 8) + 1 < g (q / 8)
      · rw [if_neg (nI_ge hl (by omega)), zz_ast (by omega) (by omega)]
        refine ⟨(nI (q + 1), me_upd M1 (u + 17) (q / 8) (nI (g (q % 8) + 1))), rfl, rfl, fun c hc => by dsimp only; rw [up_c hc]; exact hF c hc, fun a => if a = q / 8 then g (q % 8) + 1 else g a, fun a ha => ?_, fun a ha => ?_, fun a ha => ?_, fun q' hq' hp' => ?_⟩
        · dsimp only
          by_cases hz : a = q / 8
          · rw [hz, up_s, if_pos rfl]
          · rw [up_j hz, if_neg hz]; exact hg1 a ha
        · dsimp only
          by_cases hz : a = q / 8
          · rw [if_pos hz, hz]
            refine ⟨by omega, fun _ => (Rd_front _ _ _).2 (Or.inr ⟨q % 8, hp, (hg2 _ h9).2 (by omega)⟩)⟩
          · rw [if_neg hz]; exact hg2 a ha
        · dsimp only
          by_cases hz : a = q / 8
          · rw [if_pos hz]
            have := hg3 _ h8
            rw [hz]
            omega
          · rw [if_neg hz]; exact hg3 a ha
        · dsimp only
          have h1 := hg3 _ h9
          by_cases hz : q' = q
          · rw [hz, if_pos rfl]; omega
          · have h2 := hg4 q' (by omega) hp'
            by_cases hzz : q' / 8 = q / 8
            · rw [if_pos hzz]
              rw [hzz] at h2
              omega
            · rw [if_neg hzz]; exact h2
      · rw [if_pos (nI_le (by omega) (by omega)), zz_div (by omega) (by omega) (by omega), zz_ald (by omega) (by omega), hg1 _ h8, zz_ast (by omega) (by omega)]
        exact same _ rfl (fun _ => by omega)
    · rw [if_pos (show nI (d (q / 8) (q % 8)) ≤ 0 from nI_le (b := 0) (by omega) (by omega)), zz_div (by omega) (by omega) (by omega), zz_ald (by omega) (by omega), hg1 _ h8, zz_ast (by omega) (by omega)]
      exact same _ rfl (fun h => absurd h hp)
  · intro f z ⟨e1, hF, g, hg1, hg2, hg3, hg4⟩
    obtain ⟨x, M1⟩ := z
    dsimp only at e1 hF hg1
    subst e1
    refine ⟨M1, g, ?_, hg1, hg2, fun a ha k hk hr => ?_, hF⟩
    · show X6_layFar_41 u x2 k33 (f + 1) (nI 64) M1 = _
      rw [X6_layFar_41, if_pos (by decide)]
      rfl
    · have w := hV.1
      cases k with
      | zero =>
        have h1 := hg3 a ha
        have h2 := hU a ha 0 (by omega) hr
        omega
      | succ k =>
        rcases (Rd_front _ _ _).1 hr with h | ⟨c, h1, h2⟩
        · have h3 := hg3 a ha
          have h4 := hU a ha k (by omega) h
          omega
        · obtain ⟨z1, z2, _⟩ := hV.2.2.2.2 a c (Nat.ne_of_gt h1)
          have h3 := hg4 (8 * a + c) (by omega) (by rw [show (8 * a + c) / 8 = a by omega, show (8 * a + c) % 8 = c by omega]; exact h1)
          rw [show (8 * a + c) / 8 = a by omega, show (8 * a + c) % 8 = c by omega] at h3
          have h4 := hU c (by omega) k (by omega) h2
          omega
theorem X6_layFar_s (hT : TR M u 0 n day al K S d) (hV : t_ok n al K d) (hi : i < n) :
    ∃ M' f, X6_layFar u (nI i) M = some ((), M') ∧ (∀ a, a < 8 → M' (u + 17) a = nI (f a)) ∧ fS d i f ∧ fU d i 8 f ∧ (∀ c, c ≠ u + 17 → M' c = M c) := by
  have w := hV.1
  unfold X6_layFar
  have key : ∃ M1 f, X6_layFar_2 u (nI i) FU (nI 0) M = X6_layFar_33 u FU (nI 0) M1 ∧ (∀ a, a < 8 → M1 (u + 17) a = nI (f a)) ∧ fS d i f ∧ fU d i 0 f ∧ (∀ c, c ≠ u + 17 → M1 c = M c) := by
    refine lp (S := Int32 × Mem) (fun f z => X6_layFar_2 u (nI i) f z.1 z.2) (fun k z => z.1 = nI k ∧ (∀ a, a < k → z.2 (u + 17) a = nI (if a = i then 0 else 99)) ∧ (∀ c, c ≠ u + 17 → z.2 c = M c)) (fun r => ∃ M1 f, r = X6_layFar_33 u FU (nI 0) M1 ∧ (∀ a, a < 8 → M1 (u + 17) a = nI (f a)) ∧ fS d i f ∧ fU d i 0 f ∧ (∀ c, c ≠ u + 17 → M1 c = M c)) 8 ?_ ?_ 0 FU (nI 0, M) (by omega) (FU_lt (by omega)) ⟨rfl, fun a ha => by omega, fun c hc => rfl⟩
    · intro k f z hk ⟨e1, h1, hF⟩
      obtain ⟨x, M1⟩ := z
      dsimp only at e1 h1 hF
      subst e1
      left
      have nxt : ∀ v, v = (if k = i then 0 else 99) → ∃ s' : Int32 × Mem, X6_layFar_2 u (nI i) f (nI (k + 1)) (me_upd M1 (u + 17) k (nI v)) = X6_layFar_2 u (nI i) f s'.1 s'.2 ∧ (s'.1 = nI (k + 1) ∧ (∀ a, a < k + 1 → s'.2 (u + 17) a = nI (if a = i then 0 else 99)) ∧ (∀ c, c ≠ u + 17 → s'.2 c = M c)) := by
        intro v hv
        refine ⟨(nI (k + 1), me_upd M1 (u + 17) k (nI v)), rfl, rfl, fun a ha => ?_, fun c hc => by dsimp only; rw [up_c hc]; exact hF c hc⟩
        dsimp only
        by_cases hz : a = k
        · rw [hz, up_s, hv]
        · rw [up_j hz]; exact h1 a (by omega)
      show ∃ s', X6_layFar_2 u (nI i) (f + 1) (nI k) M1 = _ ∧ _
      rw [X6_layFar_2, if_neg (show ¬ (8 : Int32) ≤ nI k from nI_ge (b := 8) hk (by omega)), nI_1]
      by_cases hki : k = i
      · rw [if_neg (not_not_intro (by rw [hki])), zz_ast (by omega) (by omega)]
        exact nxt 0 (by rw [if_pos hki])
      · rw [if_pos (fun e => hki ((nI_eq (by omega) (by omega)).1 e)), zz_ast (by omega) (by omega)]
        exact nxt 99 (by rw [if_neg hki])
    · intro f z ⟨e1, h1, hF⟩
      obtain ⟨x, M1⟩ := z
      dsimp only at e1 h1 hF
      subst e1
      refine ⟨M1, fun a => if a = i then 0 else 99, ?_, h1, fun a ha => ?_, fun a ha k hk hr => ?_, hF⟩
      · show X6_layFar_2 u (nI i) (f + 1) (nI 8) M1 = _
        rw [X6_layFar_2, if_pos (by decide)]
        rfl
      · dsimp only
        by_cases hz : a = i
        · rw [if_pos hz]
          exact ⟨by omega, fun _ => hz⟩
        · rw [if_neg hz]
          exact ⟨by omega, fun h => by omega⟩
      · have hk0 : k = 0 := by omega
        subst hk0
        change a = i at hr
        dsimp only
        rw [if_pos hr]
        omega
  obtain ⟨M1, f1, e1, h1, h2, h3, h4⟩ := key
  rw [show (0 : Int32) = nI 0 from rfl, e1]
  refine lp (S := Int32 × Mem) (fun f z => X6_layFar_33 u f z.1 z.2) (fun k z => z.1 = nI k ∧ (∀ c, c ≠ u + 17 → z.2 c = M c) ∧ ∃ f, (∀ a, a < 8 → z.2 (u + 17) a = nI (f a)) ∧ fS d i f ∧ fU d i k f) (fun r => ∃ M' f, r = some ((), M') ∧ (∀ a, a < 8 → M' (u + 17) a = nI (f a)) ∧ fS d i f ∧ fU d i 8 f ∧ (∀ c, c ≠ u + 17 → M' c = M c)) 8 ?_ ?_ 0 FU (nI 0, M1) (by omega) (FU_lt (by omega)) ⟨rfl, h4, f1, h1, h2, h3⟩
  · intro k f z hk ⟨e1, hF, g, hg1, hg2, hg3⟩
    obtain ⟨x, M2⟩ := z
    dsimp only at e1 hF hg1
    subst e1
    left
    have hT2 : TR M2 u 0 n day al K S d := by
      unfold TR
      rw [hF _ (by omega), hF _ (by omega), hF _ (by omega), hF _ (by omega), hF _ (by omega), hF _ (by omega)]
      exact hT
    obtain ⟨M3, g', e3, k1, k2, k3, k4⟩ := X6_lf41_s (x2 := nI k) (k33 := X6_layFar_33 u f) hT2 hV hg1 hg2 hg3
    refine ⟨(nI (k + 1), M3), ?_, rfl, fun c hc => by dsimp only; rw [k4 c hc, hF c hc], g', k1, k2, k3⟩
    show X6_layFar_33 u (f + 1) (nI k) M2 = _
    rw [X6_layFar_33, if_neg (show ¬ (8 : Int32) ≤ nI k from nI_ge (b := 8) hk (by omega)), show (0 : Int32) = nI 0 from rfl, e3, nI_add]
  · intro f z ⟨e1, hF, g, hg1, hg2, hg3⟩
    obtain ⟨x, M2⟩ := z
    dsimp only at e1 hF hg1
    subst e1
    refine ⟨M2, g, ?_, hg1, hg2, hg3, hF⟩
    show X6_layFar_33 u (f + 1) (nI 8) M2 = _
    rw [X6_layFar_33, if_pos (by decide)]
theorem debt_E (hV : t_ok n al K d) : ∀ c b, 0 < d c b ↔ c < n ∧ (rB (fun b => decide (0 < d c b)) n).testBit b = true := by
  intro c b
  rw [rB_bit, Bool.and_eq_true, decide_eq_true_iff, decide_eq_true_iff]
  constructor
  · intro h
    have := hV.2.2.2.2 c b (Nat.ne_of_gt h)
    exact ⟨this.1, this.2.1, h⟩
  · intro h; exact h.2.2
theorem far_eq {f : Nat → Nat} (hV : t_ok n al K d) (hRd : R = fun a => rB (fun b => decide (0 < d a b)) n) (hS : fS d i f) (hU : fU d i 8 f) (ha : a < n) : f a = (ff (fun k => (Wk R n a k).testBit i) n).elim 99 id := by
  have w := hV.1
  have hE : ∀ c b, 0 < d c b ↔ c < n ∧ (R c).testBit b = true := fun c b => by rw [hRd]; exact debt_E hV c b
  have hsat := Rd_sat (E := fun c b => 0 < d c b) hE (fun c b h => (hV.2.2.2.2 c b (Nat.ne_of_gt h)).2.1) ha
  have hW := Wk_Rd (a := a) (E := fun c b => 0 < d c b) hE
  cases e : ff (fun k => (Wk R n a k).testBit i) n with
  | none =>
    show f a = 99
    have h1 := hS a (by omega)
    by_cases h : f a < 99
    · exfalso
      have h2 := hsat _ i (h1.2 h)
      have h3 := (hW (n - 1) i).2 h2
      have h4 : (Wk R n a (n - 1)).testBit i = false := ff_none e (n - 1) (by omega)
      rw [h4] at h3
      cases h3
    · omega
  | some k =>
    show f a = k
    obtain ⟨h1, h2, h3⟩ := ff_some e
    have h4 := hU a (by omega) k (by omega) ((hW k i).1 h2)
    have h5 := (hS a (by omega)).2 (by omega)
    rcases Nat.lt_or_ge (f a) k with h | h
    · exfalso
      have h6 : (Wk R n a (f a)).testBit i = false := h3 (f a) h
      rw [(hW (f a) i).2 h5] at h6
      cases h6
    · omega
def rgD (d : Dm) (R : Nat → Nat) (n i j : Nat) : Option Nat := if 0 < d i j then ff (fun k => (Wk R n j k).testBit i) n else none
theorem rgF_b {D : Nat → Option Nat} (hD : ∀ j k, D j = some k → j < 8 ∧ k < 8) : ∀ N p, rgF D N = some p → p.1 ≤ 8 ∧ p.2 < 8 := by
  intro N
  induction N with
  | zero => intro p h; cases h
  | succ N ih =>
    intro p h
    change rgS (D N) N (rgF D N) = some p at h
    cases e : D N with
    | none =>
      rw [e] at h
      exact ih p h
    | some k =>
      obtain ⟨h1, h2⟩ := hD N k e
      rw [e] at h
      cases e2 : rgF D N with
      | none =>
        rw [e2] at h
        cases h
        exact ⟨by show k + 1 ≤ 8; omega, h1⟩
      | some q =>
        rw [e2] at h
        change (if k + 1 < q.1 then some (k + 1, N) else some q) = some p at h
        split at h
        · cases h
          exact ⟨by show k + 1 ≤ 8; omega, h1⟩
        · have hqp : q = p := Option.some.inj h
          rw [← hqp]
          exact ih q e2
end RING
