/-! ===== debts that are something, listed ===== -/
def cn (P : Nat → Bool) : Nat → Nat
  | 0 => 0
  | k + 1 => cn P k + (if P k = true then 1 else 0)
theorem cn_le {P : Nat → Bool} : ∀ k, cn P k ≤ k := by
  intro k
  induction k with
  | zero => exact Nat.le_refl _
  | succ k ih => show cn P k + (if P k = true then 1 else 0) ≤ k + 1; split <;> omega
theorem cn_mono {P Q : Nat → Bool} (h : ∀ q, P q = true → Q q = true) : ∀ k, cn P k ≤ cn Q k := by
  intro k
  induction k with
  | zero => exact Nat.le_refl _
  | succ k ih =>
    show cn P k + (if P k = true then 1 else 0) ≤ cn Q k + (if Q k = true then 1 else 0)
    by_cases hp : P k = true
    · rw [if_pos hp, if_pos (h k hp)]; omega
    · rw [if_neg hp]; omega
theorem cn_lt {P : Nat → Bool} {a : Nat} : ∀ b, a ≤ b → cn P a ≤ cn P b := by
  intro b
  induction b with
  | zero => intro h; rw [show a = 0 by omega]; exact Nat.le_refl _
  | succ b ih =>
    intro h
    by_cases hz : a = b + 1
    · rw [hz]; exact Nat.le_refl _
    · have := ih (by omega)
      show cn P a ≤ cn P b + (if P b = true then 1 else 0)
      omega
theorem cn_st {P : Nat → Bool} {a b : Nat} (h : a < b) (ha : P a = true) : cn P a < cn P b := by
  have h1 : cn P (a + 1) ≤ cn P b := cn_lt b h
  have h2 : cn P (a + 1) = cn P a + 1 := by
    show cn P a + (if P a = true then 1 else 0) = _
    rw [if_pos ha]
  omega
theorem cn_same {P : Nat → Bool} {a : Nat} : ∀ b, (∀ q, a ≤ q → q < a + b → P q = false) → cn P (a + b) = cn P a := by
  intro b
  induction b with
  | zero => intro _; rfl
  | succ b ih =>
    intro h
    show cn P (a + b) + (if P (a + b) = true then 1 else 0) = _
    rw [ih (fun q h1 h2 => h q h1 (by omega)), if_neg (by rw [h _ (by omega) (by omega)]; decide)]
    rfl
/-- a fold over the listed ones is one over all places -/
theorem fo_cn {S : Type} {P : Nat → Bool} {F : Nat → S → S} {pf : Nat → Nat} : ∀ (N : Nat) (x : S), (∀ q, q < N → P q = true → pf (cn P q) = q) → fo (fun q x => if P q = true then F q x else x) N x = fo (fun r x => F (pf r) x) (cn P N) x := by
  intro N
  induction N with
  | zero => intro x _; rfl
  | succ N ih =>
    intro x h
    have e := ih x (fun q hq => h q (by omega))
    show (if P N = true then F N (fo _ N x) else fo _ N x) = fo (fun r x => F (pf r) x) (cn P N + (if P N = true then 1 else 0)) x
    by_cases hp : P N = true
    · rw [if_pos hp, if_pos hp, e]
      show F N _ = F (pf (cn P N)) _
      rw [h N (by omega) hp]
    · rw [if_neg hp, if_neg hp, e]
      rfl
theorem sm_cn {P : Nat → Bool} {F : Nat → Nat} {pf : Nat → Nat} : ∀ (N : Nat), (∀ q, q < N → P q = true → pf (cn P q) = q) → d_sm (fun q => if P q = true then F q else 0) N = d_sm (fun r => F (pf r)) (cn P N) := by
  intro N
  induction N with
  | zero => intro _; rfl
  | succ N ih =>
    intro h
    have e := ih (fun q hq => h q (by omega))
    show d_sm _ N + (if P N = true then F N else 0) = d_sm (fun r => F (pf r)) (cn P N + (if P N = true then 1 else 0))
    by_cases hp : P N = true
    · rw [if_pos hp, if_pos hp, e]
      show _ = _ + F (pf (cn P N))
      rw [h N (by omega) hp]
    · rw [if_neg hp, if_neg hp, e]
      rfl
def poP (d : Dm) (q : Nat) : Bool := decide (0 < d (q / 8) (q % 8))
section LIST
variable {M M' : Mem} {t u n ea kp i j c kind : Nat} {K S : Nat → Nat} {d0 d : Dm} {s : Ts} {A A1 A2 : Al} {tx Z : Tx}
theorem po_n {al : Nat} (hV : t_ok n al K d) {q : Nat} (h : poP d q = true) : q / 8 < n ∧ q % 8 < n ∧ q / 8 ≠ q % 8 := by
  unfold poP at h
  rw [decide_eq_true_iff] at h
  obtain ⟨h1, h2, h3, _⟩ := hV.2.2.2.2 _ _ (Nat.ne_of_gt h)
  exact ⟨h1, h2, h3⟩
theorem po_out {al : Nat} (hV : t_ok n al K d) {q : Nat} (h : n ≤ q / 8 ∨ n ≤ q % 8) : poP d q = false := by
  cases e : poP d q with
  | false => rfl
  | true => have := po_n hV e; omega
theorem cn42 {al : Nat} (hV : t_ok n al K d) : cn (poP d) 64 ≤ 42 := by
  have w := hV.1
  have h := cn_mono (P := poP d) (Q := fun q => decide (q / 8 < 7) && decide (q % 8 < 7) && !decide (q / 8 = q % 8)) (fun q hq => by
    have := po_n hV hq
    simp only [Bool.and_eq_true, decide_eq_true_eq, Bool.not_eq_true', decide_eq_false_iff_not]
    omega) 64
  have e : cn (fun q => decide (q / 8 < 7) && decide (q % 8 < 7) && !decide (q / 8 = q % 8)) 64 = 42 := by decide +kernel
  omega
/-- the places listed, as the class holds them -/
def PL (M : Mem) (t : Nat) (d : Dm) (N : Nat) : Prop := ∀ q, q < N → poP d q = true → M (t + 43) (cn (poP d) q) = nI q
theorem X5_listDebts_17_s {k4 : Int32 → Int32 → Mem → Option (Int32 × Mem)} (hC : AC M t tx n ea K S d0 s A kp A1 A2 Z) (hV : t_ok n s.1 K s.2.2) (hi : i < n) (hP : PL M t s.2.2 (8 * i)) :
    ∃ M', X5_listDebts_17 t (nI i) k4 FU (nI (cn (poP s.2.2) (8 * i))) (nI 0) M = k4 (nI (cn (poP s.2.2) (8 * (i + 1)))) (nI (i + 1)) M' ∧ PL M' t s.2.2 (8 * (i + 1)) ∧ (∀ c, c ≠ t + 43 → M' c = M c) := by
  have w := hV.1
  have hend : cn (poP s.2.2) (8 * (i + 1)) = cn (poP s.2.2) (8 * i + n) := by
    rw [show 8 * (i + 1) = 8 * i + n + (8 - n) by omega]
    exact cn_same _ (fun q h1 h2 => po_out hV (by omega))
  refine lp (S := Int32 × Int32 × Mem) (fun f z => X5_listDebts_17 t (nI i) k4 f z.1 z.2.1 z.2.2) (fun k z => z.1 = nI (cn (poP s.2.2) (8 * i + k)) ∧ z.2.1 = nI k ∧ PL z.2.2 t s.2.2 (8 * i + k) ∧ (∀ c, c ≠ t + 43 → z.2.2 c = M c)) (fun r => ∃ M', r = k4 (nI (cn (poP s.2.2) (8 * (i + 1)))) (nI (i + 1)) M' ∧ PL M' t s.2.2 (8 * (i + 1)) ∧ (∀ c, c ≠ t + 43 → M' c = M c)) n ?_ ?_ 0 FU (nI (cn (poP s.2.2) (8 * i)), nI 0, M) (by omega) (FU_lt (by omega)) ⟨rfl, rfl, hP, fun c hc => rfl⟩
  · intro k f z hk ⟨e1, e2, hP1, hF1⟩
    obtain ⟨x, y, M1⟩ := z
    dsimp only at e1 e2 hP1 hF1
    subst e1 e2
    left
    have hT1 : TC M1 (t + 16) n s.2.1 ea s.1 K S s.2.2 := hC.2.2.1.fr (fun c h1 h2 => hF1 c (by omega))
    have q9 := hV.2.2.2.1 i k
    have hle := cn_le (P := poP s.2.2) (8 * i + k)
    have e8 : (8 * i + k) / 8 = i := by omega
    have e9 : (8 * i + k) % 8 = k := by omega
    have ec : cn (poP s.2.2) (8 * i + (k + 1)) = cn (poP s.2.2) (8 * i + k) + (if poP s.2.2 (8 * i + k) = true then 1 else 0) := rfl
    show ∃ s', X5_listDebts_17 t (nI i) k4 (f + 1) (nI (cn (poP s.2.2) (8 * i + k))) (nI k) M1 = _ ∧ _
    rw [X5_listDebts_17]
    unfold X4_persons
    rw [zz_call, hT1.1, if_neg (nI_ge hk (by omega)), X4_debt_s hT1 (by omega) (by omega), zz_call, nI_1]
    by_cases hp : 0 < s.2.2 i k
    · have hpo : poP s.2.2 (8 * i + k) = true := by unfold poP; rw [e8, e9]; exact decide_eq_true hp
      rw [if_neg (nI_nle hp (by omega))]
      unfold X5_twoAsNumber
      rw [zz_call, nl8, pk_mul, nI_add, zz_ast (by omega) (by omega), nI_1]
      refine ⟨(nI (cn (poP s.2.2) (8 * i + (k + 1))), nI (k + 1), me_upd M1 (t + 43) (cn (poP s.2.2) (8 * i + k)) (nI (8 * i + k))), ?_, rfl, rfl, fun q hq hqp => ?_, fun c hc => by dsimp only; rw [up_c hc]; exact hF1 c hc⟩
      · rw [ec, if_pos hpo]
      · dsimp only
        by_cases hz : q = 8 * i + k
        · rw [hz, up_s]
        · have := cn_st (show q < 8 * i + k by omega) hqp
          rw [up_j (by omega)]
          exact hP1 q (by omega) hqp
    · have hpo : poP s.2.2 (8 * i + k) = false := by unfold poP; rw [e8, e9]; exact decide_eq_false hp
      rw [if_pos (show nI (s.2.2 i k) ≤ 0 from nI_le (b := 0) (by omega) (by omega))]
      refine ⟨(nI (cn (poP s.2.2) (8 * i + (k + 1))), nI (k + 1), M1), ?_, rfl, rfl, fun q hq hqp => ?_, hF1⟩
      · rw [ec, if_neg (by rw [hpo]; decide)]
        rfl
      · by_cases hz : q = 8 * i + k
        · rw [hz, hpo] at hqp; cases hqp
        · exact hP1 q (by omega) hqp
  · intro f z ⟨e1, e2, hP1, hF1⟩
    obtain ⟨x, y, M1⟩ := z
    dsimp only at e1 e2 hP1 hF1
    subst e1 e2
    have hT1 : TC M1 (t + 16) n s.2.1 ea s.1 K S s.2.2 := hC.2.2.1.fr (fun c h1 h2 => hF1 c (by omega))
    refine ⟨M1, ?_, fun q hq hqp => ?_, hF1⟩
    · show X5_listDebts_17 t (nI i) k4 (f + 1) (nI (cn (poP s.2.2) (8 * i + n))) (nI n) M1 = _
      rw [X5_listDebts_17]
      unfold X4_persons
      rw [zz_call, hT1.1, if_pos (nI_le (Nat.le_refl _) (by omega)), nI_1, hend]
    · have := po_n hV hqp
      exact hP1 q (by omega) hqp
theorem X5_listDebts_s (hC : AC M t tx n ea K S d0 s A kp A1 A2 Z) (hV : t_ok n s.1 K s.2.2) :
    ∃ M', X5_listDebts t M = some (nI (cn (poP s.2.2) 64), M') ∧ PL M' t s.2.2 64 ∧ Sc t M M' := by
  have w := hV.1
  have hend : cn (poP s.2.2) 64 = cn (poP s.2.2) (8 * n) := by
    rw [show 64 = 8 * n + (64 - 8 * n) by omega]
    exact cn_same _ (fun q h1 h2 => po_out hV (by omega))
  have key : ∃ M', X5_listDebts t M = some (nI (cn (poP s.2.2) 64), M') ∧ PL M' t s.2.2 64 ∧ (∀ c, c ≠ t + 43 → M' c = M c) := by
    unfold X5_listDebts
    refine lp (S := Int32 × Int32 × Mem) (fun f z => X5_listDebts_4 t f z.1 z.2.1 z.2.2) (fun k z => z.1 = nI (cn (poP s.2.2) (8 * k)) ∧ z.2.1 = nI k ∧ PL z.2.2 t s.2.2 (8 * k) ∧ (∀ c, c ≠ t + 43 → z.2.2 c = M c)) (fun r => ∃ M', r = some (nI (cn (poP s.2.2) 64), M') ∧ PL M' t s.2.2 64 ∧ (∀ c, c ≠ t + 43 → M' c = M c)) n ?_ ?_ 0 FU (nI 0, nI 0, M) (by omega) (FU_lt (by omega)) ⟨rfl, rfl, fun q hq => by omega, fun c hc => rfl⟩
    · intro k f z hk ⟨e1, e2, hP1, hF1⟩
      obtain ⟨x, y, M1⟩ := z
      dsimp only at e1 e2 hP1 hF1
      subst e1 e2
      left
      have hC1 : AC M1 t tx n ea K S d0 s A kp A1 A2 Z := hC.sc (fun c hc => hF1 c (by omega))
      obtain ⟨M2, e2, hP2, hF2⟩ := X5_listDebts_17_s (k4 := X5_listDebts_4 t f) hC1 hV hk hP1
      refine ⟨(nI (cn (poP s.2.2) (8 * (k + 1))), nI (k + 1), M2), ?_, rfl, rfl, hP2, fun c hc => by dsimp only; rw [hF2 c hc, hF1 c hc]⟩
      show X5_listDebts_4 t (f + 1) (nI (cn (poP s.2.2) (8 * k))) (nI k) M1 = X5_listDebts_4 t f (nI (cn (poP s.2.2) (8 * (k + 1)))) (nI (k + 1)) M2
      rw [X5_listDebts_4]
      unfold X4_persons
      rw [zz_call, hC1.2.2.1.1, if_neg (nI_ge hk (by omega)), nl0, e2]
    · intro f z ⟨e1, e2, hP1, hF1⟩
      obtain ⟨x, y, M1⟩ := z
      dsimp only at e1 e2 hP1 hF1
      subst e1 e2
      have hC1 : AC M1 t tx n ea K S d0 s A kp A1 A2 Z := hC.sc (fun c hc => hF1 c (by omega))
      refine ⟨M1, ?_, fun q hq hqp => ?_, hF1⟩
      · show X5_listDebts_4 t (f + 1) (nI (cn (poP s.2.2) (8 * n))) (nI n) M1 = _
        rw [X5_listDebts_4]
        unfold X4_persons
        rw [zz_call, hC1.2.2.1.1, if_pos (nI_le (Nat.le_refl _) (by omega)), hend]
      · have := po_n hV hqp
        exact hP1 q (by omega) hqp
  obtain ⟨M', e, hP, hF⟩ := key
  exact ⟨M', e, hP, fun c hc => hF c (by omega)⟩
/-- debts but those at two places -/
def d_but (d : Dm) (a b : Nat) : Dm := d_up (d_up d (a / 8) (a % 8) 0) (b / 8) (b % 8) 0
def d_one (d : Dm) (a : Nat) : Dm := d_up d (a / 8) (a % 8) 0
theorem d_but_same {a : Nat} : d_but d a a = d_one d a := by
  funext x y
  unfold d_but d_one d_up
  split <;> rfl
theorem d_one_ok {al a : Nat} (hV : t_ok n al K d) : t_ok n al K (d_one d a) := hV.up (by omega) (fun h => absurd rfl h)
theorem d_but_ok {al a b : Nat} (hV : t_ok n al K d) : t_ok n al K (d_but d a b) := (d_one_ok hV).up (by omega) (fun h => absurd rfl h)
/-- a place in the list of c places -/
theorem forgive_s {day al r q : Nat} (hT : TC M (t + 23) n day ea al K S d) (hq : M (t + 43) r = nI q) (hr : r < 64) (hq6 : q < 64) : ∃ M', X5_forgiveInTrial t (nI r) M = some ((), M') ∧ TC M' (t + 23) n day ea al K S (d_one d q) ∧ Fr (t + 23) (t + 23 + 5) M M' := by
  obtain ⟨M', e, hT', hF⟩ := X4_setDebt_s (v := 0) hT (i := q / 8) (j := q % 8) (by omega) (by omega)
  refine ⟨M', ?_, hT', hF⟩
  unfold X5_forgiveInTrial
  rw [if_neg (show ¬ nI r = (-1 : Int32) from fun e => by
    have h := nI_pos' (n := r) (by omega)
    rw [e] at h
    exact absurd h (by decide)), zz_ald (by omega) (by omega), hq, nl8, zz_div (by omega) (by omega) (by omega), zz_rem (by omega) (by omega) (by omega), nl0, e, zz_call]
theorem AC.left1 {r q : Nat} (hC : AC M t tx n ea K S d0 s A kp A1 A2 Z) (hV : SV tx n ea K S d0 s A kp A1 A2 Z) (hq : M (t + 43) r = nI q) (hr : r < 64) (hq6 : q < 64) : ∃ M', X5_owedWithout t (nI r) (-1) M = some (nI (o_left K s.2.1 (d_one s.2.2 q)), M') ∧ Fr (t + 23) (t + 23 + 5) M M' ∧ o_left K s.2.1 (d_one s.2.2 q) ≤ 441 := by
  have hd := hV.day
  have hV1 := hV.2.2.2.2.2.1
  obtain ⟨M1, e1, hT1, hF1⟩ := X4_copyFrom_s (t := t + 23) hC.2.2.1 (by have := hV1.1; omega) (by omega)
  obtain ⟨M2, e2, hT2, hF2⟩ := forgive_s hT1 (by rw [hF1 _ (by omega)]; exact hq) hr hq6
  obtain ⟨M3, e3, hT3, hF3, hV3, _⟩ := X4_makePeace_s hT2 (d_one_ok hV1) (by omega)
  refine ⟨M3, ?_, (hF1.tr hF2).tr hF3, hV3.all7⟩
  unfold X5_owedWithout
  rw [e1, zz_call, e2, zz_call, show X5_forgiveInTrial t (-1) M2 = some ((), M2) from rfl, zz_call, e3, zz_call, X4_allOwed_s hT3 hV3, zz_call]
  rfl
theorem AC.left2 {r q r' q' : Nat} (hC : AC M t tx n ea K S d0 s A kp A1 A2 Z) (hV : SV tx n ea K S d0 s A kp A1 A2 Z) (hq : M (t + 43) r = nI q) (hr : r < 64) (hq6 : q < 64) (hq' : M (t + 43) r' = nI q') (hr' : r' < 64) (hq6' : q' < 64) : ∃ M', X5_owedWithout t (nI r) (nI r') M = some (nI (o_left K s.2.1 (d_but s.2.2 q q')), M') ∧ Fr (t + 23) (t + 23 + 5) M M' ∧ o_left K s.2.1 (d_but s.2.2 q q') ≤ 441 := by
  have hd := hV.day
  have hV1 := hV.2.2.2.2.2.1
  obtain ⟨M1, e1, hT1, hF1⟩ := X4_copyFrom_s (t := t + 23) hC.2.2.1 (by have := hV1.1; omega) (by omega)
  obtain ⟨M2, e2, hT2, hF2⟩ := forgive_s hT1 (by rw [hF1 _ (by omega)]; exact hq) hr hq6
  obtain ⟨M3, e3, hT3, hF3⟩ := forgive_s hT2 (by rw [hF2 _ (by omega), hF1 _ (by omega)]; exact hq') hr' hq6'
  obtain ⟨M4, e4, hT4, hF4, hV4, _⟩ := X4_makePeace_s (d := d_but s.2.2 q q') hT3 (d_but_ok hV1) (by omega)
  refine ⟨M4, ?_, ((hF1.tr hF2).tr hF3).tr hF4, hV4.all7⟩
  unfold X5_owedWithout
  rw [e1, zz_call, e2, zz_call, e3, zz_call, e4, zz_call, X4_allOwed_s hT4 hV4, zz_call]
  rfl
theorem TR.one {b day al q : Nat} (hT : TR M u b n day al K S d) (hq : q < 64) : TR (me_upd M (u + 13) (64 * b + q) (nI 0)) u b n day al K S (d_one d q) := by
  obtain ⟨c0, c1, c2, ck, cs, cd⟩ := hT
  refine ⟨?_, ?_, ?_, ?_, ?_, fun a c ha hc => ?_⟩
  · rw [up_c (by omega)]; exact c0
  · rw [up_c (by omega)]; exact c1
  · rw [up_c (by omega)]; exact c2
  · rw [up_c (by omega)]; exact ck
  · rw [up_c (by omega)]; exact cs
  · unfold d_one
    by_cases h : a = q / 8 ∧ c = q % 8
    · rw [h.1, h.2, d_up_s, show 64 * b + 8 * (q / 8) + q % 8 = 64 * b + q by omega, up_s]
    · rw [d_up_n (by omega), up_j (by omega)]
      exact cd a c ha hc
theorem AR.left1 {q : Nat} (hR : AR M u tx n ea K S d0 s A kp A1 A2 Z) (hV : SV tx n ea K S d0 s A kp A1 A2 Z) (hq6 : q < 64) : ∃ M1 M3, X6_copy u (nI 0) (nI 1) M = some ((), M1) ∧ X6_owedBehind u (nI 1) (me_upd M1 (u + 13) (64 + q) (nI 0)) = some (nI (o_left K s.2.1 (d_one s.2.2 q)), M3) ∧ ScR u M M3 := by
  have hd := hV.day
  have hV1 := hV.2.2.2.2.2.1
  obtain ⟨M1, e1, hT1, hF1⟩ := X6_copy_s (b := 1) hR.2.2.2.2.1 (by omega) (by omega) (by omega)
  obtain ⟨M2, e2, hF2⟩ := X6_owedBehind_s (hT1.one hq6) (d_one_ok hV1) (by omega) (by omega)
  exact ⟨M1, M2, e1, e2, (hF1.ScR (by omega)).tr (((FrR.dbt (b := 1) hq6).ScR (by omega)).tr (hF2.ScR (by omega)))⟩
theorem AR.free {q q' : Nat} (hR : AR M u tx n ea K S d0 s A kp A1 A2 Z) (hV : SV tx n ea K S d0 s A kp A1 A2 Z) (hq6 : q < 64) (hq6' : q' < 64) : ∃ M', X6_isFreeBut u (nI q) (nI q') M = some (b2 (decide (o_left K s.2.1 (d_but s.2.2 q q') = 0)), M') ∧ ScR u M M' := by
  have hd := hV.day
  have hV1 := hV.2.2.2.2.2.1
  obtain ⟨M1, e1, hT1, hF1⟩ := X6_copy_s (b := 1) hR.2.2.2.2.1 (by omega) (by omega) (by omega)
  obtain ⟨M2, e2, hF2⟩ := X6_owedBehind_s (d := d_but s.2.2 q q') ((hT1.one hq6).one hq6') (d_but_ok hV1) (by omega) (by omega)
  obtain ⟨_, _, _, _, hV3⟩ := X6_makePeace_s (d := d_but s.2.2 q q') ((hT1.one hq6).one hq6') (d_but_ok hV1) (by omega) (by omega)
  have hb := hV3.all7
  refine ⟨M2, ?_, (hF1.ScR (by omega)).tr ((((FrR.dbt (b := 1) hq6).tr (FrR.dbt (b := 1) hq6')).ScR (by omega)).tr (hF2.ScR (by omega)))⟩
  unfold X6_isFreeBut
  rw [nl0, nl1, nl64, e1, zz_call, nI_add, zz_ast (by omega) (by omega), nI_add, zz_ast (by omega) (by omega), e2, zz_call]
  unfold o_left
  by_cases h : d_all (mpF K s.2.1 (d_but s.2.2 q q')).2 = 0
  · rw [decide_eq_true h, h, if_neg (not_not_intro rfl)]
    rfl
  · rw [decide_eq_false h, if_pos (show ¬ nI (d_all (mpF K s.2.1 (d_but s.2.2 q q')).2) = nI 0 from nI_ne0 (by omega) (by omega))]
    rfl
end LIST
