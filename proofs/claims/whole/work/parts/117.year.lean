/-! ===== years by draws ===== -/
def y_v (z k : Nat) : Nat := (7919 * z + 6151 * k + 1) * (7919 * z + 6151 * k + 1) % 65521
def y_k (z k : Nat) : Nat := if y_v z k / 64 % 4 = 0 then 0 else 1
def y_can (n : Nat) (K : Nat → Nat) (z k : Nat) (s : Ts) : Bool := o_can s.1 K s.2.2 (y_k z k) (y_v z k % n) (y_v z k / 8 % n)
def y_st (n : Nat) (K : Nat → Nat) (z k : Nat) (s : Ts) : Ts := if y_v z k / 64 % 4 = 1 then o_day n K s else if y_can n K z k s = true then o_do n K (y_k z k) (y_v z k % n) (y_v z k / 8 % n) s else s
def y_b (n : Nat) (K : Nat → Nat) (z k : Nat) (s : Ts) : Nat := if y_v z k / 64 % 4 = 1 then 0 else if y_can n K z k s = true then y_k z k else 0
def y_run (n : Nat) (K : Nat → Nat) (z : Nat) (s : Ts) (k : Nat) : Ts × Nat := fo (fun k q => (y_st n K z k q.1, q.2 + y_b n K z k q.1)) k (s, 0)
section YEAR
variable {M M' : Mem} {t u n ea kp i j c kind z k : Nat} {K S : Nat → Nat} {d0 d : Dm} {s : Ts} {A A1 A2 : Al} {tx Z : Tx}
theorem y_v_lt : y_v z k < 65521 := Nat.mod_lt _ (by omega)
theorem zz_draw {β : Type} {c : Int32 → Option β} (hz : z ≤ 9999) (hk : k < 60) : (s_letl ((((7919 : Int64) * ((nI z).toInt64)) + ((6151 : Int64) * ((nI k).toInt64))) + (1 : Int64)) fun x => s_reml (x * x) (65521 : Int64) fun v => s_let (v.toInt32) c) = c (nI (y_v z k)) := by
  have e : (((7919 : Int64) * ((nI z).toInt64)) + ((6151 : Int64) * ((nI k).toInt64))) + (1 : Int64) = lN (7919 * z + 6151 * k + 1) := by
    rw [nI_l (by omega), nI_l (by omega), show (7919 : Int64) = lN 7919 from rfl, show (6151 : Int64) = lN 6151 from rfl, show (1 : Int64) = lN 1 from rfl, lN_mul, lN_mul, lN_add, lN_add]
  rw [e, zz_letl, lN_mul]
  have hb : (7919 * z + 6151 * k + 1) * (7919 * z + 6151 * k + 1) ≤ 80000000 * 80000000 := Nat.mul_le_mul (by omega) (by omega)
  unfold s_reml
  rw [show (65521 : Int64) = lN 65521 from rfl, if_neg (by decide), pk_lRem (by omega) (by omega) (by omega)]
  show c ((lN _).toInt32) = _
  rw [lN_i]
  rfl
theorem y_same {al : Nat} (hV : t_ok n al K d) (hk : kind ≤ 1) : o_can al K d kind i i = false := by
  have hd : d i i = 0 := by
    by_cases h : d i i = 0
    · exact h
    · exact absurd rfl (hV.2.2.2.2 i i h).2.2.1
  rcases (by omega : kind = 0 ∨ kind = 1) with rfl | rfl
  · unfold o_can
    simp
  · unfold o_can o_bow
    simp [hd]
theorem y_a (hV : t_ok n s.1 K s.2.2) (hn : 1 ≤ n) (h : y_can n K z k s = true) : a_ok n (y_k z k) (y_v z k % n) (y_v z k / 8 % n) := by
  have hk : y_k z k ≤ 1 := by unfold y_k; split <;> omega
  refine ⟨by omega, fun _ => ⟨Nat.mod_lt _ (by omega), Nat.mod_lt _ (by omega), fun e => ?_⟩, fun h => by omega, fun h => by omega⟩
  unfold y_can at h
  rw [← e, y_same hV hk] at h
  cases h
theorem X5_step_s (hT : TC M (t + 23) n s.2.1 ea s.1 K S s.2.2) (hV : t_ok n s.1 K s.2.2) (hday : s.2.1 < 2 ^ 28) (hn : 1 ≤ n) (hz : z ≤ 9999) (hk : k < 60) :
    ∃ M', X5_bowsInStep t (nI z) (nI k) M = some (nI (y_b n K z k s), M') ∧ (∀ s', s' = y_st n K z k s → TC M' (t + 23) n s'.2.1 ea s'.1 K S s'.2.2 ∧ t_ok n s'.1 K s'.2.2 ∧ s'.2.1 ≤ s.2.1 + 9) ∧ Fr (t + 23) (t + 23 + 5) M M' := by
  have w := hV.1
  have hv := y_v_lt (z := z) (k := k)
  have hi := Nat.mod_lt (y_v z k) (show 0 < n by omega)
  have hj := Nat.mod_lt (y_v z k / 8) (show 0 < n by omega)
  have h93 : ∀ q, y_k z k = q → ¬ y_v z k / 64 % 4 = 1 → ∃ M', X5_bowsInStep_93 t (nI (y_v z k % n)) (nI (y_v z k / 8 % n)) (nI q) M = some (nI (y_b n K z k s), M') ∧ (∀ s', s' = y_st n K z k s → TC M' (t + 23) n s'.2.1 ea s'.1 K S s'.2.2 ∧ t_ok n s'.1 K s'.2.2 ∧ s'.2.1 ≤ s.2.1 + 9) ∧ Fr (t + 23) (t + 23 + 5) M M' := by
    intro q hq hw
    subst hq
    have hk1 : y_k z k ≤ 1 := by unfold y_k; split <;> omega
    unfold X5_bowsInStep_93
    rw [X4_canBeDone_s hT hV (by omega) (by omega) (by omega), zz_call]
    unfold y_b y_st
    rw [if_neg hw, if_neg hw]
    cases hc : y_can n K z k s with
    | false =>
      unfold y_can at hc
      rw [hc, if_neg (by decide), if_neg (by decide), if_neg (by decide)]
      exact ⟨M, rfl, fun s' e => by rw [e]; exact ⟨hT, hV, by omega⟩, Fr.rf⟩
    | true =>
      have ha := y_a hV hn hc
      unfold y_can at hc
      obtain ⟨M2, e2, hT2, hF2⟩ := X4_perform_s hT hV (by omega) ha hc
      rw [hc, if_pos (by decide), e2, zz_call, if_pos rfl, if_pos rfl]
      refine ⟨M2, ?_, hT2, hF2⟩
      rcases (by omega : y_k z k = 0 ∨ y_k z k = 1) with h | h <;> rw [h] <;> rfl
  unfold X5_bowsInStep X4_persons
  rw [zz_call, hT.1, if_pos (show (1 : Int32) ≤ nI n from nI_le (a := 1) hn (by omega)), zz_draw hz hk]
  rw [zz_rem (by omega) (by omega) (by omega), nl8, zz_div (by omega) (by omega) (by omega), zz_rem (by omega) (by omega) (by omega), nl64, zz_div (by omega) (by omega) (by omega), nl4, zz_rem (by omega) (by omega) (by omega)]
  by_cases hw : y_v z k / 64 % 4 = 1
  · rw [hw, if_neg (by decide)]
    obtain ⟨M2, e2, hT2, hF2⟩ := X4_passDay_s hT hV (by omega)
    rw [e2, zz_call]
    unfold y_b y_st
    rw [if_pos hw, if_pos hw]
    refine ⟨M2, rfl, fun s' e => ?_, hF2⟩
    rw [e]
    exact ⟨hT2, o_day_ok hV, by show s.2.1 + 1 ≤ s.2.1 + 9; omega⟩
  · rw [if_pos (show ¬ nI (y_v z k / 64 % 4) = (1 : Int32) from fun e => hw ((nI_eq (b := 1) (by omega) (by omega)).1 e))]
    by_cases h0 : y_v z k / 64 % 4 = 0
    · rw [h0, if_neg (by decide)]
      exact h93 0 (if_pos h0) hw
    · rw [if_pos (nI_ne0 (by omega) (by omega))]
      exact h93 1 (if_neg h0) hw
theorem X6_step_s {x2 x3 : Int32} {b f : Nat} (hT : TR M u 1 n s.2.1 s.1 K S s.2.2) (hp : M (u + 2) 0 = nI n) (hV : t_ok n s.1 K s.2.2) (hday : s.2.1 < 2 ^ 28) (hn : 1 ≤ n) (hz : z ≤ 9999) (hk : k < 60) (hx : ¬ x2 ≤ nI k) :
    ∃ M', X6_year_48 u (nI z) x2 x3 (f + 1) (nI b) (nI k) M = X6_year_48 u (nI z) x2 x3 f (nI (b + y_b n K z k s)) (nI (k + 1)) M' ∧ (∀ s', s' = y_st n K z k s → TR M' u 1 n s'.2.1 s'.1 K S s'.2.2 ∧ t_ok n s'.1 K s'.2.2 ∧ s'.2.1 ≤ s.2.1 + 9) ∧ FrR u 1 M M' := by
  have w := hV.1
  have hv := y_v_lt (z := z) (k := k)
  have hi := Nat.mod_lt (y_v z k) (show 0 < n by omega)
  have hj := Nat.mod_lt (y_v z k / 8) (show 0 < n by omega)
  rw [X6_year_48, if_neg hx, zz_draw hz hk, nl0, zz_ald (by omega) (by omega), hp, zz_rem (by omega) (by omega) (by omega), nl8, zz_div (by omega) (by omega) (by omega), zz_ald (by omega) (by omega), hp, zz_rem (by omega) (by omega) (by omega), nl64, zz_div (by omega) (by omega) (by omega), nl4, zz_rem (by omega) (by omega) (by omega), nl1, nI_add]
  by_cases hw : y_v z k / 64 % 4 = 1
  · rw [hw, if_neg (by decide)]
    obtain ⟨M2, e2, hT2, hF2⟩ := X6_goDay_s hT hV (by omega) (by omega)
    rw [e2, zz_call]
    unfold y_b y_st
    rw [if_pos hw, if_pos hw]
    refine ⟨M2, rfl, fun s' e => ?_, hF2⟩
    rw [e]
    exact ⟨hT2, o_day_ok hV, by show s.2.1 + 1 ≤ s.2.1 + 9; omega⟩
  · rw [if_pos (fun e => hw ((nI_eq (b := 1) (by omega) (by omega)).1 e))]
    unfold y_b y_st
    rw [if_neg hw, if_neg hw]
    by_cases hs : y_v z k % n = y_v z k / 8 % n
    · have hk1 : y_k z k ≤ 1 := by unfold y_k; split <;> omega
      have hc : y_can n K z k s = false := by unfold y_can; rw [← hs]; exact y_same hV hk1
      rw [if_pos (by rw [hs]), hc, if_neg (by decide), if_neg (by decide)]
      exact ⟨M, rfl, fun s' e => by rw [e]; exact ⟨hT, hV, by omega⟩, FrR.rf⟩
    · rw [if_neg (fun e => hs ((nI_eq (by omega) (by omega)).1 e))]
      have h151 : ∀ q, y_k z k = q → (q = 0 ↔ y_v z k / 64 % 4 = 0) → ∃ M', X6_year_151 u (nI z) x2 x3 (nI b) (nI k) (nI (y_v z k % n)) (nI (y_v z k / 8 % n)) (nI (y_v z k / 64 % 4)) (X6_year_48 u (nI z) x2 x3 f) (nI q) (nI 1) M = X6_year_48 u (nI z) x2 x3 f (nI (b + if y_can n K z k s = true then y_k z k else 0)) (nI (k + 1)) M' ∧ (∀ s', s' = (if y_can n K z k s = true then o_do n K (y_k z k) (y_v z k % n) (y_v z k / 8 % n) s else s) → TR M' u 1 n s'.2.1 s'.1 K S s'.2.2 ∧ t_ok n s'.1 K s'.2.2 ∧ s'.2.1 ≤ s.2.1 + 9) ∧ FrR u 1 M M' := by
        intro q hq hq0
        subst hq
        have hk1 : y_k z k ≤ 1 := by unfold y_k; split <;> omega
        have ha : a_ok n (y_k z k) (y_v z k % n) (y_v z k / 8 % n) := ⟨by omega, fun _ => ⟨hi, hj, hs⟩, fun h => by omega, fun h => by omega⟩
        have ri : r_i (y_k z k) (y_v z k % n) = y_v z k % n := if_neg (by omega)
        have rj : r_j (y_k z k) (y_v z k / 8 % n) = y_v z k / 8 % n := if_neg (by omega)
        have ec := X6_canDoA_s hT hV (by omega) ha
        rw [ri, rj] at ec
        unfold X6_year_151
        rw [ec, zz_call]
        cases hc : y_can n K z k s with
        | false =>
          unfold y_can at hc
          rw [hc, if_pos (by decide), if_neg (by decide), if_neg (by decide), nI_1]
          exact ⟨M, rfl, fun s' e => by rw [e]; exact ⟨hT, hV, by omega⟩, FrR.rf⟩
        | true =>
          unfold y_can at hc
          obtain ⟨M2, e2, hT2, hF2⟩ := X6_doAct_s hT hV (by omega) (by omega) ha hc
          rw [ri, rj] at e2
          rw [hc, if_neg (by decide), if_pos rfl, if_pos rfl]
          refine ⟨M2, ?_, hT2, hF2⟩
          unfold X6_year_173
          by_cases h0 : y_v z k / 64 % 4 = 0
          · rw [hq0.2 h0] at e2 ⊢
            rw [h0, if_neg (by decide), nl1, nl0, e2, zz_call, if_neg (by decide), zz_let, nI_add, nI_add]
          · have h1 : y_k z k = 1 := if_neg h0
            rw [h1] at e2 ⊢
            rw [if_pos (nI_ne0 (by omega) (by omega)), nl1, e2, zz_call, if_pos (nI_ne0 (by omega) (by omega)), zz_let, nI_add, nI_add]
      by_cases h0 : y_v z k / 64 % 4 = 0
      · rw [if_neg (by rw [h0]; decide)]
        exact h151 0 (if_pos h0) ⟨fun _ => h0, fun _ => rfl⟩
      · rw [if_pos (show ¬ nI (y_v z k / 64 % 4) = nI 0 from nI_ne0 (by omega) (by omega))]
        exact h151 1 (if_neg h0) ⟨fun h => by omega, fun h => absurd h h0⟩
theorem P_year {x y w : Int32} (hC : AC M t tx n ea K S d0 s A kp A1 A2 Z) (hR : AR M u tx n ea K S d0 s A kp A1 A2 Z) (hV : SV tx n ea K S d0 s A kp A1 A2 Z) (htu : t + 44 ≤ u) : PS t u M (X5_year t x y w) (X6_year u x y w) := by
  have hd := hV.day
  have hn := hV.2.1
  have hn7 := hV.2.2.2.2.1.1
  have hV1 := hV.2.2.2.2.2.1
  by_cases hall : inR 0 9999 x = true ∧ inR 1 60 y = true ∧ inR 0 1 w = true
  · obtain ⟨hx, hy, hw⟩ := hall
    obtain ⟨z, _, hz, rfl⟩ := inR_t (by omega) (by omega) hx
    obtain ⟨N, hN1, hN, rfl⟩ := inR_t (by omega) (by omega) hy
    have er : ∀ k, y_run n K z s (k + 1) = (y_st n K z k (y_run n K z s k).1, (y_run n K z s k).2 + y_b n K z k (y_run n K z s k).1) := fun _ => rfl
    refine PS.ro (v := if w = 0 then nI (d_all (y_run n K z s N).1.2.2) else nI (y_run n K z s N).2) hC hR hV htu ?_ (fun M1 hR1 => ?_)
    · obtain ⟨M1, e1, hT1, hS1⟩ := hC.trial hn7
      unfold X5_year
      rw [if_neg (nI_pos (by omega)), if_neg (show ¬ (9999 : Int32) < nI z from nI_nlt (a := 9999) hz (by omega)), if_neg (show ¬ nI N < (1 : Int32) from nI_nlt (b := 1) hN1 (by omega)), if_neg (show ¬ (60 : Int32) < nI N from nI_nlt (a := 60) hN (by omega)), X5_zo_s, hw, zz_call, if_pos (by decide), e1, zz_call]
      refine lp (S := Int32 × Int32 × Mem) (fun f z' => X5_year_48 t (nI z) (nI N) w f z'.1 z'.2.1 z'.2.2) (fun k z' => z'.2.1 = nI k ∧ Sc t M z'.2.2 ∧ (∀ q, q = y_run n K z s k → z'.1 = nI q.2 ∧ TC z'.2.2 (t + 23) n q.1.2.1 ea q.1.1 K S q.1.2.2 ∧ t_ok n q.1.1 K q.1.2.2 ∧ q.1.2.1 ≤ 360 + 9 * k)) (fun r => ∃ M1, r = some (if w = 0 then nI (d_all (y_run n K z s N).1.2.2) else nI (y_run n K z s N).2, M1) ∧ Sc t M M1) N ?_ ?_ 0 FU (nI 0, nI 0, M1) (by omega) (FU_lt (by omega)) ⟨rfl, hS1, fun q hq => by rw [hq]; exact ⟨rfl, hT1, hV1, by show s.2.1 ≤ 360 + 9 * 0; omega⟩⟩
      · intro k f z' hk ⟨e2, hS1, hI⟩
        obtain ⟨x, y, M1⟩ := z'
        dsimp only at e2 hS1 hI
        subst e2
        left
        rw [er k]
        obtain ⟨q, hq⟩ : ∃ q, q = y_run n K z s k := ⟨_, rfl⟩
        rw [← hq] at hI ⊢
        obtain ⟨h1, h2, h3, h4⟩ := hI q rfl
        obtain ⟨M2, e2, hT2, hF2⟩ := X5_step_s (z := z) (k := k) h2 h3 (by omega) hn hz (by omega)
        obtain ⟨g1, g2, g3⟩ := hT2 _ rfl
        refine ⟨(nI (q.2 + y_b n K z k q.1), nI (k + 1), M2), ?_, rfl, hS1.tr (Sc.tri hF2), fun q' hq' => ?_⟩
        · show X5_year_48 t (nI z) (nI N) w (f + 1) x (nI k) M1 = X5_year_48 t (nI z) (nI N) w f (nI (q.2 + y_b n K z k q.1)) (nI (k + 1)) M2
          rw [X5_year_48, if_neg (nI_ge hk (by omega)), e2, zz_call, zz_let, h1, nI_add, nI_1]
        · rw [hq']
          exact ⟨rfl, g1, g2, by show (y_st n K z k q.1).2.1 ≤ _; omega⟩
      · intro f z' ⟨e2, hS1, hI⟩
        obtain ⟨x, y, M1⟩ := z'
        dsimp only at e2 hS1 hI
        subst e2
        obtain ⟨h1, h2, h3, h4⟩ := hI _ rfl
        refine ⟨M1, ?_, hS1⟩
        show X5_year_48 t (nI z) (nI N) w (f + 1) x (nI N) M1 = _
        rw [X5_year_48, if_pos (nI_le (Nat.le_refl _) (by omega))]
        by_cases hw0 : w = 0
        · rw [if_neg (not_not_intro hw0), if_pos hw0, X4_allOwed_s h2 h3, zz_call]
        · rw [if_pos hw0, if_neg hw0, h1]
    · obtain ⟨M2, e2, hT2, hF2⟩ := X6_copy_s (b := 1) hR1.2.2.2.2.1 (by omega) (by omega) (by omega)
      unfold X6_year
      rw [show X6_in (nI z).toInt64 0 9999 M1 = _ from X6_in_s (lo := 0) (hi := 9999), hx, zz_call, if_neg (by decide), show X6_in (nI N).toInt64 1 60 M1 = _ from X6_in_s (lo := 1) (hi := 60), hy, zz_call, if_neg (by decide), show X6_in w.toInt64 0 1 M1 = _ from X6_in_s (lo := 0) (hi := 1), hw, zz_call, if_pos (by decide), nl0, nl1, e2, zz_call]
      refine lp (S := Int32 × Int32 × Mem) (fun f z' => X6_year_48 u (nI z) (nI N) w f z'.1 z'.2.1 z'.2.2) (fun k z' => z'.2.1 = nI k ∧ ScR u M1 z'.2.2 ∧ (∀ q, q = y_run n K z s k → z'.1 = nI q.2 ∧ TR z'.2.2 u 1 n q.1.2.1 q.1.1 K S q.1.2.2 ∧ t_ok n q.1.1 K q.1.2.2 ∧ q.1.2.1 ≤ 360 + 9 * k)) (fun r => ∃ M2, r = some (if w = nI 0 then nI (d_all (y_run n K z s N).1.2.2) else nI (y_run n K z s N).2, M2) ∧ ScR u M1 M2) N ?_ ?_ 0 FU (nI 0, nI 0, M2) (by omega) (FU_lt (by omega)) ⟨rfl, hF2.ScR (by omega), fun q hq => by rw [hq]; exact ⟨rfl, hT2, hV1, by show s.2.1 ≤ 360 + 9 * 0; omega⟩⟩
      · intro k f z' hk ⟨e2, hS1, hI⟩
        obtain ⟨x, y, M3⟩ := z'
        dsimp only at e2 hS1 hI
        subst e2
        left
        rw [er k]
        obtain ⟨q, hq⟩ : ∃ q, q = y_run n K z s k := ⟨_, rfl⟩
        rw [← hq] at hI ⊢
        obtain ⟨h1, h2, h3, h4⟩ := hI q rfl
        subst h1
        have hR3 := hR1.sc hn7 hS1
        obtain ⟨M4, e4, hT4, hF4⟩ := X6_step_s (z := z) (k := k) (b := q.2) (f := f) (x2 := nI N) (x3 := w) h2 hR3.2.1 h3 (by omega) hn hz (by omega) (nI_ge hk (by omega))
        obtain ⟨g1, g2, g3⟩ := hT4 _ rfl
        refine ⟨(nI (q.2 + y_b n K z k q.1), nI (k + 1), M4), e4, rfl, hS1.tr (hF4.ScR (by omega)), fun q' hq' => ?_⟩
        rw [hq']
        exact ⟨rfl, g1, g2, by show (y_st n K z k q.1).2.1 ≤ _; omega⟩
      · intro f z' ⟨e2, hS1, hI⟩
        obtain ⟨x, y, M3⟩ := z'
        dsimp only at e2 hS1 hI
        subst e2
        obtain ⟨h1, h2, h3, h4⟩ := hI _ rfl
        refine ⟨M3, ?_, hS1⟩
        show X6_year_48 u (nI z) (nI N) w (f + 1) x (nI N) M3 = _
        rw [X6_year_48, if_pos (nI_le (Nat.le_refl _) (by omega)), nl0]
        by_cases hw0 : w = nI 0
        · rw [if_neg (not_not_intro hw0), if_pos hw0, nl1, X6_allOf_s h2 (by omega), zz_call]
        · rw [if_pos hw0, if_neg hw0, h1]
  · refine PS.ro (v := -1) hC hR hV htu ⟨M, ?_, Sc.rf⟩ (fun M1 hR1 => ⟨M1, ?_, ScR.rf⟩)
    · unfold X5_year
      by_cases c1 : x < 0
      · rw [if_pos c1]
      rw [if_neg c1]
      by_cases c2 : 9999 < x
      · rw [if_pos c2]
      rw [if_neg c2]
      by_cases c3 : y < 1
      · rw [if_pos c3]
      rw [if_neg c3]
      by_cases c4 : 60 < y
      · rw [if_pos c4]
      rw [if_neg c4, X5_zo_s, zz_call]
      cases c5 : inR 0 1 w with
      | false => rw [if_neg (by decide)]
      | true =>
        exfalso
        refine hall ⟨?_, ?_, c5⟩
        · cases c6 : inR 0 9999 x with
          | true => rfl
          | false =>
            rcases inR_f c6 with h | h
            · exact absurd h c1
            · exact absurd h c2
        · cases c6 : inR 1 60 y with
          | true => rfl
          | false =>
            rcases inR_f c6 with h | h
            · exact absurd h c3
            · exact absurd h c4
    · unfold X6_year
      rw [show X6_in x.toInt64 0 9999 M1 = _ from X6_in_s (lo := 0) (hi := 9999), zz_call]
      cases c1 : inR 0 9999 x with
      | false => rw [if_pos (by decide)]
      | true =>
        rw [if_neg (by decide), show X6_in y.toInt64 1 60 M1 = _ from X6_in_s (lo := 1) (hi := 60), zz_call]
        cases c2 : inR 1 60 y with
        | false => rw [if_pos (by decide)]
        | true =>
          rw [if_neg (by decide), show X6_in w.toInt64 0 1 M1 = _ from X6_in_s (lo := 0) (hi := 1), zz_call]
          cases c3 : inR 0 1 w with
          | false => rw [if_neg (by decide)]
          | true => exact absurd ⟨c1, c2, c3⟩ hall
end YEAR
