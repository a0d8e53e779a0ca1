/-! ===== a town read where it lies before its reader ===== -/
section FIRST
variable {M M' : Mem} {t u n ea kp i j c kind p w : Nat} {K S v : Nat → Nat} {d0 d : Dm} {s : Ts} {A A1 A2 : Al} {tx Z : Tx}
theorem X3_item_g {q : Nat} {s : Pt} (hL : LT M c tx) (hx : tx_ok tx) (hT : TP M q s) (hp : p_ok s) (hs : s.1 < tx.1) (hct : c + 2 ≤ t) (htq : t + 2 ≤ q ∨ q + 5 ≤ t) :
    (pstep tx s = none ∧ ∃ M', X3_readItem t c q (nI s.1) M = some (-1, M') ∧ (∀ e, ((e < t ∨ t + 2 ≤ e) ∧ (e < q ∨ q + 5 ≤ e)) → M' e = M e)) ∨ (∃ s' M', pstep tx s = some s' ∧ X3_readItem t c q (nI s.1) M = some (nI s'.1, M') ∧ TP M' q s' ∧ s.1 < s'.1 ∧ s'.1 ≤ tx.1 ∧ (∀ e, ((e < t ∨ t + 2 ≤ e) ∧ (e < q ∨ q + 5 ≤ e)) → M' e = M e)) := by
  have h200 := hx.1
  have hb := chr_b hx s.1
  have hn7 := hp.1.1
  unfold X3_readItem pstep
  rw [X1_at_s hL hx (by omega), zz_call]
  have rd : ∀ w, 1 ≤ w → w ≤ 3 → ∃ M1, X3_readNumbers t c (nI s.1 + 1) (nI w) M = some ((nus tx w w (s.1 + 1) (fun _ => 0)).elim (-1) (fun r => nI r.1), M1) ∧ Fr t (t + 2) M M1 ∧ (∀ r, nus tx w w (s.1 + 1) (fun _ => 0) = some r → (∀ i, i < w → M1 (t + 1) i = nI (r.2 i)) ∧ s.1 < r.1 ∧ r.1 ≤ tx.1 ∧ r.1 < 2 ^ 31 ∧ ∀ i, i < w → r.2 i ≤ 99) := by
    intro w hw1 hw3
    obtain ⟨M1, e1, hF1, hr1⟩ := X3_readN_s (t := t) (c := c) hx hw1 hw3 (by omega) w (s.1 + 1) (fun _ => 0) M FU (Nat.le_refl _) (by omega) (FU_lt (by omega)) hL (fun i hi => by omega)
    refine ⟨M1, ?_, hF1, fun r hr => ?_⟩
    · unfold X3_readNumbers
      rw [nI_1]
      rw [Nat.sub_self] at e1
      exact e1
    · obtain ⟨d1, d2, d3, d4, d5⟩ := hr1 r hr
      have d6 := d3 (by omega)
      exact ⟨d1, by omega, by omega, by omega, d5 (fun i hi => by omega)⟩
  have badF : ∀ M1, Fr t (t + 2) M M1 → ∀ e, ((e < t ∨ t + 2 ≤ e) ∧ (e < q ∨ q + 5 ≤ e)) → M1 e = M e := fun M1 h e he => h e (by omega)
  by_cases c1 : chr tx s.1 = 112
  · obtain ⟨M1, e1, hF1, hr1⟩ := rd 2 (by omega) (by omega)
    rw [if_pos c1, c1, show X3_numbersBehind (nI 112) M = some (nI 2, M) from rfl, zz_call, e1, zz_call]
    cases en : nus tx 2 2 (s.1 + 1) (fun _ => 0) with
    | none =>
      left
      exact ⟨rfl, M1, rfl, badF M1 hF1⟩
    | some r =>
      obtain ⟨d1, d2, d3, d4, d5⟩ := hr1 r en
      have v0 := d5 0 (by omega)
      have v1 := d5 1 (by omega)
      have hT1 : TP M1 q s := hT.fr (fun e h1 h2 => hF1 e (by omega))
      show (_ ∧ ∃ M', (if ¬ nI r.1 = (-1 : Int32) then _ else _) = _ ∧ _) ∨ (∃ s' M', _ ∧ (if ¬ nI r.1 = (-1 : Int32) then _ else _) = _ ∧ _)
      rw [if_pos (neg1 d4), if_neg (by decide), if_neg (by decide), if_pos (by rfl)]
      show ((if r.2 0 < 4 ∧ r.2 1 < 4 ∧ s.2.1 < 7 then _ else none) = none ∧ _) ∨ (∃ s' M', (if r.2 0 < 4 ∧ r.2 1 < 4 ∧ s.2.1 < 7 then _ else none) = some s' ∧ _)
      unfold X3_takePerson X4_persons
      rw [show (0 : Int32) = nI 0 from rfl, show (1 : Int32) = nI 1 from rfl, zz_ald (by omega) (by omega), d1 0 (by omega), zz_ald (by omega) (by omega), d1 1 (by omega), zz_call, hT1.1]
      by_cases hc : r.2 0 < 4 ∧ r.2 1 < 4 ∧ s.2.1 < 7
      · right
        rw [if_neg (show ¬ (4 : Int32) ≤ nI (r.2 0) from nI_ge (b := 4) hc.1 (by omega)), if_neg (show ¬ (4 : Int32) ≤ nI (r.2 1) from nI_ge (b := 4) hc.2.1 (by omega)), if_neg (show ¬ (7 : Int32) ≤ nI s.2.1 from nI_ge (b := 7) hc.2.2 (by omega)), if_pos hc]
        have hal : 2 ^ s.2.1 - 1 < 128 := by have := hp.1.al; exact this
        obtain ⟨M2, e2, hT2, hF2⟩ := X4_addPerson_s (a := r.2 0) (b := r.2 1) hT1 (by omega) hal
        rw [ones_or s.2.1 (by omega)] at hT2
        unfold X3_takePerson_34
        rw [if_neg (by decide), show (0 : Int32) = nI 0 from rfl, show (1 : Int32) = nI 1 from rfl, zz_ald (by omega) (by omega), d1 0 (by omega), zz_ald (by omega) (by omega), d1 1 (by omega), e2, zz_call]
        refine ⟨_, M2, rfl, ?_, hT2, d2, d3, fun e he => by rw [hF2 e (by omega), hF1 e (by omega)]⟩
        rw [zz_rz1, zz_call, if_neg (by decide)]
        rfl
      · left
        rw [if_neg hc]
        refine ⟨rfl, M1, ?_, badF M1 hF1⟩
        have z0 : X3_takePerson_34 t q (nI 0) M1 = some (b2 false, M1) := by
          unfold X3_takePerson_34
          rw [if_pos (by decide)]
          exact zz_rz0
        rw [z0]
        by_cases k1 : r.2 0 < 4
        · rw [if_neg (show ¬ (4 : Int32) ≤ nI (r.2 0) from nI_ge (b := 4) k1 (by omega))]
          by_cases k2 : r.2 1 < 4
          · rw [if_neg (show ¬ (4 : Int32) ≤ nI (r.2 1) from nI_ge (b := 4) k2 (by omega)), if_pos (show (7 : Int32) ≤ nI s.2.1 from nI_le (a := 7) (by omega) (by omega)), zz_call, if_pos (by decide)]
          · rw [if_pos (show (4 : Int32) ≤ nI (r.2 1) from nI_le (a := 4) (by omega) (by omega)), zz_call, if_pos (by decide)]
        · rw [if_pos (show (4 : Int32) ≤ nI (r.2 0) from nI_le (a := 4) (by omega) (by omega)), zz_call, if_pos (by decide)]
  · rw [if_neg c1]
    by_cases c2 : chr tx s.1 = 111
    · obtain ⟨M1, e1, hF1, hr1⟩ := rd 3 (by omega) (by omega)
      rw [if_pos c2, c2, show X3_numbersBehind (nI 111) M = some (nI 3, M) from rfl, zz_call, e1, zz_call]
      cases en : nus tx 3 3 (s.1 + 1) (fun _ => 0) with
      | none =>
        left
        exact ⟨rfl, M1, rfl, badF M1 hF1⟩
      | some r =>
        obtain ⟨d1, d2, d3, d4, d5⟩ := hr1 r en
        have v0 := d5 0 (by omega)
        have v1 := d5 1 (by omega)
        have v2 := d5 2 (by omega)
        have hT1 : TP M1 q s := hT.fr (fun e h1 h2 => hF1 e (by omega))
        show (_ ∧ ∃ M', (if ¬ nI r.1 = (-1 : Int32) then _ else _) = _ ∧ _) ∨ (∃ s' M', _ ∧ (if ¬ nI r.1 = (-1 : Int32) then _ else _) = _ ∧ _)
        rw [if_pos (neg1 d4), if_neg (by decide), if_pos (by rfl)]
        show ((if r.2 0 < s.2.1 ∧ r.2 1 < s.2.1 ∧ r.2 0 ≠ r.2 1 ∧ r.2 2 ≤ 9 then _ else none) = none ∧ _) ∨ (∃ s' M', (if r.2 0 < s.2.1 ∧ r.2 1 < s.2.1 ∧ r.2 0 ≠ r.2 1 ∧ r.2 2 ≤ 9 then _ else none) = some s' ∧ _)
        unfold X3_takeDebt X4_persons
        rw [show (0 : Int32) = nI 0 from rfl, show (1 : Int32) = nI 1 from rfl, show (2 : Int32) = nI 2 from rfl, zz_ald (by omega) (by omega), d1 0 (by omega), zz_ald (by omega) (by omega), d1 1 (by omega), zz_call, hT1.1, zz_call, zz_ald (by omega) (by omega), d1 2 (by omega)]
        have z0 : X3_takeDebt_51 t q (nI (r.2 0)) (nI (r.2 1)) (nI 0) M1 = some (b2 false, M1) := by
          unfold X3_takeDebt_51
          rw [if_pos (by decide)]
          exact zz_rz0
        rw [z0]
        by_cases hc : r.2 0 < s.2.1 ∧ r.2 1 < s.2.1 ∧ r.2 0 ≠ r.2 1 ∧ r.2 2 ≤ 9
        · right
          rw [if_neg (nI_ge hc.1 (by omega)), if_neg (nI_ge hc.2.1 (by omega)), if_neg (fun e => hc.2.2.1 ((nI_eq (by omega) (by omega)).1 e)), if_neg (show ¬ (9 : Int32) < nI (r.2 2) from nI_nlt (a := 9) hc.2.2.2 (by omega)), if_pos hc]
          obtain ⟨M2, e2, hT2, hF2⟩ := X4_setDebt_s (v := r.2 2) hT1 (i := r.2 0) (j := r.2 1) (by omega) (by omega)
          unfold X3_takeDebt_51
          rw [if_neg (by decide), show (2 : Int32) = nI 2 from rfl, zz_ald (by omega) (by omega), d1 2 (by omega), e2, zz_call]
          refine ⟨_, M2, rfl, ?_, hT2, d2, d3, fun e he => by rw [hF2 e (by omega), hF1 e (by omega)]⟩
          rw [zz_rz1, zz_call, if_neg (by decide)]
          rfl
        · left
          rw [if_neg hc]
          refine ⟨rfl, M1, ?_, badF M1 hF1⟩
          by_cases k1 : r.2 0 < s.2.1
          · rw [if_neg (nI_ge k1 (by omega))]
            by_cases k2 : r.2 1 < s.2.1
            · rw [if_neg (nI_ge k2 (by omega))]
              by_cases k3 : r.2 0 = r.2 1
              · rw [if_pos (by rw [k3]), zz_call, if_pos (by decide)]
              · rw [if_neg (fun e => k3 ((nI_eq (by omega) (by omega)).1 e)), if_pos (show (9 : Int32) < nI (r.2 2) from nI_lt (a := 9) (by omega) (by omega)), zz_call, if_pos (by decide)]
            · rw [if_pos (nI_le (by omega) (by omega)), zz_call, if_pos (by decide)]
          · rw [if_pos (nI_le (by omega) (by omega)), zz_call, if_pos (by decide)]
    · rw [if_neg c2]
      by_cases c3 : chr tx s.1 = 101
      · obtain ⟨M1, e1, hF1, hr1⟩ := rd 1 (by omega) (by omega)
        rw [if_pos c3, c3, show X3_numbersBehind (nI 101) M = some (nI 1, M) from rfl, zz_call, e1, zz_call]
        cases en : nus tx 1 1 (s.1 + 1) (fun _ => 0) with
        | none =>
          left
          exact ⟨rfl, M1, rfl, badF M1 hF1⟩
        | some r =>
          obtain ⟨d1, d2, d3, d4, d5⟩ := hr1 r en
          have v0 := d5 0 (by omega)
          have hT1 : TP M1 q s := hT.fr (fun e h1 h2 => hF1 e (by omega))
          show (_ ∧ ∃ M', (if ¬ nI r.1 = (-1 : Int32) then _ else _) = _ ∧ _) ∨ (∃ s' M', _ ∧ (if ¬ nI r.1 = (-1 : Int32) then _ else _) = _ ∧ _)
          rw [if_pos (neg1 d4), if_pos (by rfl)]
          show ((if 1 ≤ r.2 0 ∧ r.2 0 ≤ 60 then _ else none) = none ∧ _) ∨ (∃ s' M', (if 1 ≤ r.2 0 ∧ r.2 0 ≤ 60 then _ else none) = some s' ∧ _)
          unfold X3_takeEaster
          rw [show (0 : Int32) = nI 0 from rfl, zz_ald (by omega) (by omega), d1 0 (by omega), zz_ald (by omega) (by omega), d1 0 (by omega)]
          have z0 : X3_takeEaster_26 t q (nI 0) M1 = some (b2 false, M1) := by
            unfold X3_takeEaster_26
            rw [if_pos (by decide)]
            exact zz_rz0
          rw [z0]
          by_cases hc : 1 ≤ r.2 0 ∧ r.2 0 ≤ 60
          · right
            rw [if_neg (show ¬ nI (r.2 0) < (1 : Int32) from nI_nlt (b := 1) hc.1 (by omega)), if_neg (show ¬ (60 : Int32) < nI (r.2 0) from nI_nlt (a := 60) hc.2 (by omega)), if_pos hc]
            unfold X3_takeEaster_26 X4_setEasterDay
            rw [if_neg (by decide), show (0 : Int32) = nI 0 from rfl, zz_ald (by omega) (by omega), d1 0 (by omega), zz_put, zz_call]
            refine ⟨_, me_upd M1 q 2 (nI (r.2 0)), rfl, ?_, ?_, d2, d3, fun e he => by rw [up_c (by omega), hF1 e (by omega)]⟩
            · rw [show s_retz 1 (me_upd M1 q 2 (nI (r.2 0))) = some (b2 true, me_upd M1 q 2 (nI (r.2 0))) from zz_rz1, zz_call, if_neg (by decide)]
              rfl
            · obtain ⟨h0, h1, h2, h3, hk, hs, hd, ho⟩ := hT1
              refine ⟨?_, ?_, up_s, ?_, ?_, ?_, ?_, ?_⟩
              · rw [up_j (by omega)]; exact h0
              · rw [up_j (by omega)]; exact h1
              · rw [up_j (by omega)]; exact h3
              · rw [up_c (by omega)]; exact hk
              · rw [up_c (by omega)]; exact hs
              · rw [up_c (by omega)]; exact hd
              · rw [up_c (by omega)]; exact ho
          · left
            rw [if_neg hc]
            refine ⟨rfl, M1, ?_, badF M1 hF1⟩
            by_cases k1 : 1 ≤ r.2 0
            · rw [if_neg (show ¬ nI (r.2 0) < (1 : Int32) from nI_nlt (b := 1) k1 (by omega)), if_pos (show (60 : Int32) < nI (r.2 0) from nI_lt (a := 60) (by omega) (by omega)), zz_call, if_pos (by decide)]
            · rw [if_pos (show nI (r.2 0) < (1 : Int32) from nI_lt (b := 1) (by omega) (by omega)), zz_call, if_pos (by decide)]
      · left
        rw [if_neg c3]
        have n1 : ¬ nI (chr tx s.1) = (101 : Int32) := fun e => c3 ((nI_eq (b := 101) (by omega) (by omega)).1 e)
        have n2 : ¬ nI (chr tx s.1) = (111 : Int32) := fun e => c2 ((nI_eq (b := 111) (by omega) (by omega)).1 e)
        have n3 : ¬ nI (chr tx s.1) = (112 : Int32) := fun e => c1 ((nI_eq (b := 112) (by omega) (by omega)).1 e)
        refine ⟨rfl, M, ?_, fun e he => rfl⟩
        unfold X3_numbersBehind X3_readNumbers
        rw [if_neg n1, if_neg n2, if_neg n3, zz_call, show FU = 99999 + 1 from rfl, X3_readNumbers_6, if_pos (by decide), if_pos (by decide), zz_call, if_neg (by decide)]
theorem X3_readTown_g {q : Nat} (hL : LT M c tx) (hx : tx_ok tx) (hct : c + 2 ≤ t) (hcq : c + 2 ≤ q) (htq : t + 2 ≤ q ∨ q + 5 ≤ t) :
    ∃ M', X3_readTown t c q M = some ((pr tx 201 p_in).1, M') ∧ (∀ e, ((e < t ∨ t + 2 ≤ e) ∧ (e < q ∨ q + 5 ≤ e)) → M' e = M e) ∧ ((pr tx 201 p_in).1 = -4 → TP M' q (pr tx 201 p_in).2) := by
  have h200 := hx.1
  obtain ⟨M1, e1, hT1, hF1⟩ := X4_clear_s (M := M) (t := q) (K := fun _ => 0) (S := fun _ => 0)
  unfold X3_readTown
  rw [e1, zz_call]
  refine lp (S := Int32 × Int32 × Mem) (fun f z => X3_readTown_9 t c q f z.1 z.2.1 z.2.2) (fun k z => ∃ s : Pt, z.1 = nI s.1 ∧ z.2.1 = nI k ∧ TP z.2.2 q s ∧ p_ok s ∧ k ≤ s.1 ∧ s.1 ≤ 200 ∧ pr tx 201 p_in = pr tx (201 - k) s ∧ (∀ e, ((e < t ∨ t + 2 ≤ e) ∧ (e < q ∨ q + 5 ≤ e)) → z.2.2 e = M e))
    (fun r => ∃ M', r = some ((pr tx 201 p_in).1, M') ∧ (∀ e, ((e < t ∨ t + 2 ≤ e) ∧ (e < q ∨ q + 5 ≤ e)) → M' e = M e) ∧ ((pr tx 201 p_in).1 = -4 → TP M' q (pr tx 201 p_in).2)) 200 ?_ ?_ 0 FU (nI 0, nI 0, M1) (by omega) (FU_lt (by omega)) ⟨p_in, rfl, rfl, hT1, p_in_ok, by omega, by show 0 ≤ 200; omega, rfl, fun e he => hF1 e (by omega)⟩
  · intro k f z hk ⟨s, e1, e2, hT2, hp2, hk2, hs2, hpr, hS2⟩
    obtain ⟨x, y, M2⟩ := z
    dsimp only at e1 e2 hT2 hS2
    subst e1 e2
    have hL2 : LT M2 c tx := ⟨by rw [hS2 c (by omega)]; exact hL.1, fun k hk => by rw [hS2 (c + 1) (by omega)]; exact hL.2 k hk⟩
    have epr : pr tx (201 - k) s = if tx.1 ≤ s.1 then ((-4 : Int32), s) else (pstep tx s).elim (nI s.1, s) (fun s' => pr tx (200 - k) s') := by
      rw [show 201 - k = (200 - k) + 1 by omega]
      rfl
    show (∃ s', X3_readTown_9 t c q (f + 1) (nI s.1) (nI k) M2 = _ ∧ _) ∨ (∃ M', X3_readTown_9 t c q (f + 1) (nI s.1) (nI k) M2 = _ ∧ _)
    rw [X3_readTown_9, if_neg (show ¬ (200 : Int32) ≤ nI k from nI_ge (b := 200) hk (by omega))]
    unfold X1_length
    rw [zz_call, hL2.1]
    by_cases hl : tx.1 ≤ s.1
    · right
      rw [if_pos hl] at epr
      rw [if_pos (nI_le hl (by omega)), hpr, epr]
      exact ⟨M2, rfl, hS2, fun _ => hT2⟩
    · rw [if_neg hl] at epr
      rw [if_neg (nI_ge (by omega) (by omega))]
      rcases X3_item_g (t := t) (q := q) hL2 hx hT2 hp2 (by omega) (by omega) (by omega) with ⟨en, M3, e3, hF3⟩ | ⟨s', M3, en, e3, hT3, hlt, hle, hF3⟩
      · right
        rw [en] at epr
        rw [e3, zz_call, if_neg (by decide), hpr, epr]
        refine ⟨M3, rfl, fun e he => (hF3 e he).trans (hS2 e he), fun h => ?_⟩
        exact absurd h (neg4 (by omega))
      · left
        rw [en] at epr
        rw [e3, zz_call, if_pos (neg1 (by omega)), nI_1]
        exact ⟨(nI s'.1, nI (k + 1), M3), rfl, s', rfl, rfl, hT3, pstep_ok hx hp2 en, by omega, by omega, by rw [hpr, epr, show 201 - (k + 1) = 200 - k by omega]; rfl, fun e he => (hF3 e he).trans (hS2 e he)⟩
  · intro f z ⟨s, e1, e2, hT2, hp2, hk2, hs2, hpr, hS2⟩
    obtain ⟨x, y, M2⟩ := z
    dsimp only at e1 e2 hT2 hS2
    subst e1 e2
    have epr : pr tx (201 - 200) s = ((-4 : Int32), s) := if_pos (by omega)
    rw [hpr, epr]
    refine ⟨M2, ?_, hS2, fun _ => hT2⟩
    show X3_readTown_9 t c q (f + 1) (nI s.1) (nI 200) M2 = _
    rw [X3_readTown_9, if_pos (by decide)]
/-- the first town's letters -/
def f_L : List Nat := [112, 48, 44, 48, 59, 112, 48, 44, 49, 59, 112, 49, 44, 48, 59, 112, 50, 44, 49, 59, 112, 51, 44, 48, 59, 111, 48, 44, 49, 44, 49, 59, 111, 49, 44, 50, 44, 50, 59, 111, 50, 44, 48, 44, 49, 59, 111, 51, 44, 52, 44, 51, 59, 111, 52, 44, 51, 44, 49, 59]
def f_T : Tx := (60, fun k => f_L.getD k 0)
theorem f_T_ok : tx_ok f_T := ⟨by decide, by show ∀ k, k < 60 → 32 ≤ f_L.getD k 0 ∧ f_L.getD k 0 ≤ 126; decide +kernel⟩
theorem f_pr : (pr f_T 201 p_in).1 = -4 ∧ (pr f_T 201 p_in).2.2.1 = 5 ∧ (pr f_T 201 p_in).2.2.2.1 = 40 ∧ (∀ i, i < 5 → (pr f_T 201 p_in).2.2.2.2.1 i = k_1 i) ∧ (∀ i, i < 5 → (pr f_T 201 p_in).2.2.2.2.2.1 i = s_1 i) ∧ (∀ i, i < 8 → ∀ j, j < 8 → (pr f_T 201 p_in).2.2.2.2.2.2 i j = d_1 i j) := by decide +kernel
theorem TC.ext {day al : Nat} {K' S' : Nat → Nat} {d' : Dm} (h : TC M t n day ea al K S d) (hK : ∀ i, i < n → K i = K' i) (hS : ∀ i, i < n → S i = S' i) (hd : ∀ i, i < 8 → ∀ j, j < 8 → d i j = d' i j) : TC M t n day ea al K' S' d' := by
  obtain ⟨h0, h1, h2, h3, hk, hs, hdd, ho⟩ := h
  have hr : ∀ i, i < 8 → d_row d i = d_row d' i := by
    intro i hi
    unfold d_row
    simp only [d_sm]
    rw [hd i hi 0 (by omega), hd i hi 1 (by omega), hd i hi 2 (by omega), hd i hi 3 (by omega), hd i hi 4 (by omega), hd i hi 5 (by omega), hd i hi 6 (by omega), hd i hi 7 (by omega)]
  exact ⟨h0, h1, h2, h3, fun i hi => by rw [← hK i hi]; exact hk i hi, fun i hi => by rw [← hS i hi]; exact hs i hi, fun i j hi hj => by rw [← hd i hi j hj]; exact hdd i j hi hj, fun i hi => by rw [← hr i hi]; exact ho i hi⟩
/-- the first town, read -/
theorem first_s {q : Nat} (hL : LT M c f_T) (hct : c + 2 ≤ t) (hcq : c + 2 ≤ q) (htq : t + 2 ≤ q ∨ q + 5 ≤ t) : ∃ M', X3_readTown t c q M = some (-4, M') ∧ TC M' q 5 0 40 (2 ^ 5 - 1) k_1 s_1 d_1 ∧ (∀ e, ((e < t ∨ t + 2 ≤ e) ∧ (e < q ∨ q + 5 ≤ e)) → M' e = M e) := by
  obtain ⟨M1, e1, hF1, hT1⟩ := X3_readTown_g hL f_T_ok hct hcq htq
  obtain ⟨g1, g2, g3, g4, g5, g6⟩ := f_pr
  have hT := hT1 g1
  unfold TP at hT
  rw [g2, g3] at hT
  rw [g1] at e1
  exact ⟨M1, e1, hT.ext g4 g5 g6, hF1⟩
end FIRST
