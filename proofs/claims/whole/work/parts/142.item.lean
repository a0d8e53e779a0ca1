section ITEM
variable {M M' : Mem} {t u n ea kp i j c kind p w : Nat} {K S v : Nat → Nat} {d0 d : Dm} {s : Ts} {A A1 A2 : Al} {tx Z : Tx}
def TP (M : Mem) (t : Nat) (s : Pt) : Prop := TC M t s.2.1 0 s.2.2.1 (2 ^ s.2.1 - 1) s.2.2.2.1 s.2.2.2.2.1 s.2.2.2.2.2
theorem ones_bit {n i : Nat} : (2 ^ n - 1).testBit i = decide (i < n) := Nat.testBit_two_pow_sub_one ..
theorem ones_or : ∀ n, n < 8 → (2 ^ n - 1) ||| 2 ^ n = 2 ^ (n + 1) - 1 := by decide +kernel
theorem X4_addPerson_s {a b al day : Nat} (hT : TC M t n day ea al K S d) (hn : n ≤ 6) (hal : al < 128) : ∃ M', X4_addPerson t (nI a) (nI b) M = some ((), M') ∧ TC M' t (n + 1) day ea (al ||| 2 ^ n) (nK K n a) (nK S n b) d ∧ Fr t (t + 5) M M' := by
  obtain ⟨h0, h1, h2, h3, hk, hs, hd, ho⟩ := id hT
  refine ⟨me_upd (me_upd (me_upd (me_upd M (t + 1) n (nI a)) (t + 2) n (nI b)) t 3 (nI (al ||| 2 ^ n))) t 0 (nI (n + 1)), ?_, ⟨up_s, ?_, ?_, ?_, fun i hi => ?_, fun i hi => ?_, ?_, ?_⟩, fun c hc => by rw [up_c (by omega), up_c (by omega), up_c (by omega), up_c (by omega)]⟩
  · have q1 : me_upd M (t + 1) n (nI a) t 0 = nI n := by rw [up_c (by omega)]; exact h0
    have q2 : me_upd (me_upd M (t + 1) n (nI a)) (t + 2) n (nI b) t 0 = nI n := by rw [up_c (by omega)]; exact q1
    have q3 : me_upd (me_upd M (t + 1) n (nI a)) (t + 2) n (nI b) t 3 = nI al := by rw [up_c (by omega), up_c (by omega)]; exact h3
    have q4 : me_upd (me_upd (me_upd M (t + 1) n (nI a)) (t + 2) n (nI b)) t 3 (nI (al ||| 2 ^ n)) t 0 = nI n := by rw [up_j (by omega)]; exact q2
    unfold X4_addPerson
    rw [h0]
    simp (disch := omega) only [nl0, nl1, nl2, nl3, nl4, nl5, nl6, nl7, nl8, nl9, nl10, nl32, nl40, nl44, nl48, nl57, nl59, nl60, nl63, nl64, nl99, nl100, nl101, nl111, nl112, nl126, nl128, nl200, nl504, nl9999, nl65521, zz_ald, zz_ast, zz_let, zz_call, zz_put, zz_rem, zz_div, zz_rz, zz_rz0, zz_rz1, pk_mul, nI_add, pk_sub, b2_0, b2_1, nI_leI, nI_ltI, nI_eq, q1, q2, q3, q4, zz_sh1, fa_or]
    rw [if_neg (by omega)]
  · rw [up_j (by omega), up_j (by omega), up_c (by omega), up_c (by omega)]; exact h1
  · rw [up_j (by omega), up_j (by omega), up_c (by omega), up_c (by omega)]; exact h2
  · rw [up_j (by omega), up_s]
  · rw [up_c (by omega), up_c (by omega), up_c (by omega)]
    unfold nK
    by_cases hz : i = n
    · rw [hz, up_s, if_pos rfl]
    · rw [up_j hz, if_neg hz]
      exact hk i (by omega)
  · rw [up_c (by omega), up_c (by omega)]
    unfold nK
    by_cases hz : i = n
    · rw [hz, up_s, if_pos rfl]
    · rw [up_j hz, up_c (by omega), if_neg hz]
      exact hs i (by omega)
  · rw [up_c (by omega), up_c (by omega), up_c (by omega), up_c (by omega)]; exact hd
  · rw [up_c (by omega), up_c (by omega), up_c (by omega), up_c (by omega)]; exact ho
theorem X4_clear_s : ∃ M', X4_clear t M = some ((), M') ∧ TC M' t 0 0 40 0 K S (fun _ _ => 0) ∧ Fr t (t + 5) M M' := by
  obtain ⟨M1, e1, a1, b1⟩ := J7_fill_s (M := me_upd (me_upd (me_upd (me_upd M t 0 (nI 0)) t 1 (nI 0)) t 2 (nI 40)) t 3 (nI 0)) (c := t + 3) (len := 64) (by omega)
  obtain ⟨M2, e2, a2, b2⟩ := J7_fill_s (M := M1) (c := t + 4) (len := 8) (by omega)
  have ht : ∀ k, M2 t k = me_upd (me_upd (me_upd (me_upd M t 0 (nI 0)) t 1 (nI 0)) t 2 (nI 40)) t 3 (nI 0) t k := fun k => by rw [b2 t (by omega), b1 t (by omega)]
  refine ⟨M2, ?_, ⟨?_, ?_, ?_, ?_, fun i hi => by omega, fun i hi => by omega, fun i j hi hj => ?_, fun i hi => ?_⟩, fun c hc => ?_⟩
  · unfold X4_clear
    rw [zz_put, zz_put, zz_put, zz_put]
    change s_call (J7_fill_53178 (t + 3) 64 (nI 0) (me_upd (me_upd (me_upd (me_upd M t 0 (nI 0)) t 1 (nI 0)) t 2 (nI 40)) t 3 (nI 0))) _ = _
    rw [e1, zz_call]
    change s_call (J7_fill_53178 (t + 4) 8 (nI 0) M1) _ = _
    rw [e2, zz_call]
  · rw [ht, up_j (by omega), up_j (by omega), up_j (by omega), up_s]
  · rw [ht, up_j (by omega), up_j (by omega), up_s]
  · rw [ht, up_j (by omega), up_s]
  · rw [ht, up_s]
  · rw [b2 _ (by omega)]; exact a1 _ (by omega)
  · exact a2 i hi
  · rw [b2 c (by omega), b1 c (by omega), up_c (by omega), up_c (by omega), up_c (by omega), up_c (by omega)]
theorem p_ok_n {s : Pt} (h : p_ok s) : s.2.1 ≤ 7 := h.1.1
theorem pstep_ok {s s' : Pt} (hx : tx_ok tx) (hp : p_ok s) (h : pstep tx s = some s') : p_ok s' := by
  obtain ⟨h1, h2, h3⟩ := hp
  unfold pstep at h
  by_cases c1 : chr tx s.1 = 112
  · rw [if_pos c1] at h
    cases e : nus tx 2 2 (s.1 + 1) (fun _ => 0) with
    | none => rw [e] at h; cases h
    | some r =>
      rw [e] at h
      change (if r.2 0 < 4 ∧ r.2 1 < 4 ∧ s.2.1 < 7 then _ else _) = some s' at h
      by_cases hc : r.2 0 < 4 ∧ r.2 1 < 4 ∧ s.2.1 < 7
      · rw [if_pos hc] at h
        cases h
        refine ⟨⟨by show s.2.1 + 1 ≤ 7; omega, ?_, fun i hi => ?_, h1.2.2.2.1, fun a b hab => ?_⟩, h2, fun i hi => ?_⟩
        · show 2 ^ (s.2.1 + 1) - 1 < 2 ^ (s.2.1 + 1)
          have : 1 ≤ 2 ^ (s.2.1 + 1) := Nat.one_le_two_pow
          omega
        · change i < s.2.1 + 1 at hi
          show nK s.2.2.2.1 s.2.1 (r.2 0) i ≤ 3
          unfold nK
          split
          · omega
          · exact h1.2.2.1 i (by omega)
        · obtain ⟨g1, g2, g3, g4, g5⟩ := h1.2.2.2.2 a b hab
          refine ⟨by show a < s.2.1 + 1; omega, by show b < s.2.1 + 1; omega, g3, ?_, ?_⟩
          · show (2 ^ (s.2.1 + 1) - 1).testBit a = true
            rw [ones_bit, decide_eq_true (by omega)]
          · show (2 ^ (s.2.1 + 1) - 1).testBit b = true
            rw [ones_bit, decide_eq_true (by omega)]
        · change i < s.2.1 + 1 at hi
          show nK s.2.2.2.2.1 s.2.1 (r.2 1) i ≤ 3
          unfold nK
          split
          · omega
          · exact h3 i (by omega)
      · rw [if_neg hc] at h
        cases h
  · rw [if_neg c1] at h
    by_cases c2 : chr tx s.1 = 111
    · rw [if_pos c2] at h
      cases e : nus tx 3 3 (s.1 + 1) (fun _ => 0) with
      | none => rw [e] at h; cases h
      | some r =>
        rw [e] at h
        change (if r.2 0 < s.2.1 ∧ r.2 1 < s.2.1 ∧ r.2 0 ≠ r.2 1 ∧ r.2 2 ≤ 9 then _ else _) = some s' at h
        by_cases hc : r.2 0 < s.2.1 ∧ r.2 1 < s.2.1 ∧ r.2 0 ≠ r.2 1 ∧ r.2 2 ≤ 9
        · rw [if_pos hc] at h
          cases h
          refine ⟨h1.up hc.2.2.2 (fun _ => ⟨hc.1, hc.2.1, hc.2.2.1, ?_, ?_⟩), h2, h3⟩
          · rw [ones_bit, decide_eq_true hc.1]
          · rw [ones_bit, decide_eq_true hc.2.1]
        · rw [if_neg hc] at h
          cases h
    · rw [if_neg c2] at h
      by_cases c3 : chr tx s.1 = 101
      · rw [if_pos c3] at h
        cases e : nus tx 1 1 (s.1 + 1) (fun _ => 0) with
        | none => rw [e] at h; cases h
        | some r =>
          rw [e] at h
          change (if 1 ≤ r.2 0 ∧ r.2 0 ≤ 60 then _ else _) = some s' at h
          by_cases hc : 1 ≤ r.2 0 ∧ r.2 0 ≤ 60
          · rw [if_pos hc] at h
            cases h
            exact ⟨h1, hc.2, h3⟩
          · rw [if_neg hc] at h
            cases h
      · rw [if_neg c3] at h
        cases h
/-- an ITEM, as the class reads it -/
theorem X3_item_s {q : Nat} {s : Pt} (hL : LT M c tx) (hx : tx_ok tx) (hT : TP M q s) (hp : p_ok s) (hs : s.1 < tx.1) (hct : c + 2 ≤ t) (htq : t + 2 ≤ q) :
    (pstep tx s = none ∧ ∃ M', X3_readItem t c q (nI s.1) M = some (-1, M') ∧ (∀ e, (e < t ∨ (t + 2 ≤ e ∧ e < q) ∨ q + 5 ≤ e) → M' e = M e)) ∨ (∃ s' M', pstep tx s = some s' ∧ X3_readItem t c q (nI s.1) M = some (nI s'.1, M') ∧ TP M' q s' ∧ s.1 < s'.1 ∧ s'.1 ≤ tx.1 ∧ (∀ e, (e < t ∨ (t + 2 ≤ e ∧ e < q) ∨ q + 5 ≤ e) → M' e = M e)) := by
  have h200 := hx.1
  have hb := chr_b hx s.1
  have hn7 := hp.1.1
  unfold X3_readItem pstep
  rw [X1_at_s hL hx (by omega), zz_call]
  have rd : ∀ w, 1 ≤ w → w ≤ 3 → ∃ M1, X3_readNumbers t c (nI s.1 + 1) (nI w) M = some ((nus tx w w (s.1 + 1) (fun _ => 0)).elim (-1) (fun r => nI r.1), M1) ∧ Fr t (t + 2) M M1 ∧ (∀ r, nus tx w w (s.1 + 1) (fun _ => 0) = some r → (∀ i, i < w → M1 (t + 1) i = nI (r.2 i)) ∧ s.1 < r.1 ∧ r.1 ≤ tx.1 ∧ r.1 < 2 ^ 31 ∧ ∀ i, i < w → r.2 i ≤ 99) := by
    intro w hw1 hw3
    obtain ⟨M1, e1, hF1, hr1⟩ := X3_readN_s (t := t) (c := c) hx hw1 hw3 (by omega) w (s.1 + 1) (fun _ => 0) M FU (Nat.le_refl _) (by omega) (FU_lt (by omega)) hL (fun i hi => by omega)
    refine ⟨M1, ?_, hF1, fun r hr => ?_⟩
    · unfold X3_readNumbers
      rw [nI_1]
      rw [Nat.sub_self] at e1
      exact e1
    · obtain ⟨d1, d2, d3, d4, d5⟩ := hr1 r hr
      have d6 := d3 (by omega)
      exact ⟨d1, by omega, by omega, by omega, d5 (fun i hi => by omega)⟩
  have badF : ∀ M1, Fr t (t + 2) M M1 → ∀ e, (e < t ∨ (t + 2 ≤ e ∧ e < q) ∨ q + 5 ≤ e) → M1 e = M e := fun M1 h e he => h e (by omega)
  by_cases c1 : chr tx s.1 = 112
  · obtain ⟨M1, e1, hF1, hr1⟩ := rd 2 (by omega) (by omega)
    rw [if_pos c1, c1, show X3_numbersBehind (nI 112) M = some (nI 2, M) from rfl, zz_call, e1, zz_call]
    cases en : nus tx 2 2 (s.1 + 1) (fun _ => 0) with
    | none =>
      left
      exact ⟨rfl, M1, rfl, badF M1 hF1⟩
    | some r =>
      obtain ⟨d1, d2, d3, d4, d5⟩ := hr1 r en
      have v0 := d5 0 (by omega)
      have v1 := d5 1 (by omega)
      have hT1 : TP M1 q s := hT.fr (fun e h1 h2 => hF1 e (by omega))
      show (_ ∧ ∃ M', (if ¬ nI r.1 = (-1 : Int32) then _ else _) = _ ∧ _) ∨ (∃ s' M', _ ∧ (if ¬ nI r.1 = (-1 : Int32) then _ else _) = _ ∧ _)
      rw [if_pos (neg1 d4), if_neg (by decide), if_neg (by decide), if_pos (by rfl)]
      show ((if r.2 0 < 4 ∧ r.2 1 < 4 ∧ s.2.1 < 7 then _ else none) = none ∧ _) ∨ (∃ s' M', (if r.2 0 < 4 ∧ r.2 1 < 4 ∧ s.2.1 < 7 then _ else none) = some s' ∧ _)
      unfold X3_takePerson X4_persons
      rw [show (0 : Int32) = nI 0 from rfl, show (1 : Int32) = nI 1 from rfl, zz_ald (by omega) (by omega), d1 0 (by omega), zz_ald (by omega) (by omega), d1 1 (by omega), zz_call, hT1.1]
      by_cases hc : r.2 0 < 4 ∧ r.2 1 < 4 ∧ s.2.1 < 7
      · right
        rw [if_neg (show ¬ (4 : Int32) ≤ nI (r.2 0) from nI_ge (b := 4) hc.1 (by omega)), if_neg (show ¬ (4 : Int32) ≤ nI (r.2 1) from nI_ge (b := 4) hc.2.1 (by omega)), if_neg (show ¬ (7 : Int32) ≤ nI s.2.1 from nI_ge (b := 7) hc.2.2 (by omega)), if_pos hc]
        have hal : 2 ^ s.2.1 - 1 < 128 := by have := hp.1.al; exact this
        obtain ⟨M2, e2, hT2, hF2⟩ := X4_addPerson_s (a := r.2 0) (b := r.2 1) hT1 (by omega) hal
        rw [ones_or s.2.1 (by omega)] at hT2
        unfold X3_takePerson_34
        rw [if_neg (by decide), show (0 : Int32) = nI 0 from rfl, show (1 : Int32) = nI 1 from rfl, zz_ald (by omega) (by omega), d1 0 (by omega), zz_ald (by omega) (by omega), d1 1 (by omega), e2, zz_call]
        refine ⟨_, M2, rfl, ?_, hT2, d2, d3, fun e he => by rw [hF2 e (by omega), hF1 e (by omega)]⟩
        rw [zz_rz1, zz_call, if_neg (by decide)]
        rfl
      · left
        rw [if_neg hc]
        refine ⟨rfl, M1, ?_, badF M1 hF1⟩
        have z0 : X3_takePerson_34 t q (nI 0) M1 = some (b2 false, M1) := by
          unfold X3_takePerson_34
          rw [if_pos (by decide)]
          exact zz_rz0
        rw [z0]
        by_cases k1 : r.2 0 < 4
        · rw [if_neg (show ¬ (4 : Int32) ≤ nI (r.2 0) from nI_ge (b := 4) k1 (by omega))]
          by_cases k2 : r.2 1 < 4
          · rw [if_neg (show ¬ (4 : Int32) ≤ nI (r.2 1) from nI_ge (b := 4) k2 (by omega)), if_pos (show (7 : Int32) ≤ nI s.2.1 from nI_le (a := 7) (by omega) (by omega)), zz_call, if_pos (by decide)]
          · rw [if_pos (show (4 : Int32) ≤ nI (r.2 1) from nI_le (a := 4) (by omega) (by omega)), zz_call, if_pos (by decide)]
        · rw [if_pos (show (4 : Int32) ≤ nI (r.2 0) from nI_le (a := 4) (by omega) (by omega)), zz_call, if_pos (by decide)]
  · rw [if_neg c1]
    by_cases c2 : chr tx s.1 = 111
    · obtain ⟨M1, e1, hF1, hr1⟩ := rd 3 (by omega) (by omega)
      rw [if_pos c2, c2, show X3_numbersBehind (nI 111) M = some (nI 3, M) from rfl, zz_call, e1, zz_call]
      cases en : nus tx 3 3 (s.1 + 1) (fun _ => 0) with
      | none =>
        left
        exact ⟨rfl, M1, rfl, badF M1 hF1⟩
      | some r =>
        obtain ⟨d1, d2, d3, d4, d5⟩ := hr1 r en
        have v0 := d5 0 (by omega)
        have v1 := d5 1 (by omega)
        have v2 := d5 2 (by omega)
        have hT1 : TP M1 q s := hT.fr (fun e h1 h2 => hF1 e (by omega))
        show (_ ∧ ∃ M', (if ¬ nI r.1 = (-1 : Int32) then _ else _) = _ ∧ _) ∨ (∃ s' M', _ ∧ (if ¬ nI r.1 = (-1 : Int32) then _ else _) = _ ∧ _)
        rw [if_pos (neg1 d4), if_neg (by decide), if_pos (by rfl)]
        show ((if r.2 0 < s.2.1 ∧ r.2 1 < s.2.1 ∧ r.2 0 ≠ r.2 1 ∧ r.2 2 ≤ 9 then _ else none) = none ∧ _) ∨ (∃ s' M', (if r.2 0 < s.2.1 ∧ r.2 1 < s.2.1 ∧ r.2 0 ≠ r.2 1 ∧ r.2 2 ≤ 9 then _ else none) = some s' ∧ _)
        unfold X3_takeDebt X4_persons
        rw [show (0 : Int32) = nI 0 from rfl, show (1 : Int32) = nI 1 from rfl, show (2 : Int32) = nI 2 from rfl, zz_ald (by omega) (by omega), d1 0 (by omega), zz_ald (by omega) (by omega), d1 1 (by omega), zz_call, hT1.1, zz_call, zz_ald (by omega) (by omega), d1 2 (by omega)]
        have z0 : X3_takeDebt_51 t q (nI (r.2 0)) (nI (r.2 1)) (nI 0) M1 = some (b2 false, M1) := by
          unfold X3_takeDebt_51
          rw [if_pos (by decide)]
          exact zz_rz0
        rw [z0]
        by_cases hc : r.2 0 < s.2.1 ∧ r.2 1 < s.2.1 ∧ r.2 0 ≠ r.2 1 ∧ r.2 2 ≤ 9
        · right
          rw [if_neg (nI_ge hc.1 (by omega)), if_neg (nI_ge hc.2.1 (by omega)), if_neg (fun e => hc.2.2.1 ((nI_eq (by omega) (by omega)).1 e)), if_neg (show ¬ (9 : Int32) < nI (r.2 2) from nI_nlt (a := 9) hc.2.2.2 (by omega)), if_pos hc]
          obtain ⟨M2, e2, hT2, hF2⟩ := X4_setDebt_s (v := r.2 2) hT1 (i := r.2 0) (j := r.2 1) (by omega) (by omega)
          unfold X3_takeDebt_51
          rw [if_neg (by decide), show (2 : Int32) = nI 2 from rfl, zz_ald (by omega) (by omega), d1 2 (by omega), e2, zz_call]
          refine ⟨_, M2, rfl, ?_, hT2, d2, d3, fun e he => by rw [hF2 e (by omega), hF1 e (by omega)]⟩
          rw [zz_rz1, zz_call, if_neg (by decide)]
          rfl
        · left
          rw [if_neg hc]
          refine ⟨rfl, M1, ?_, badF M1 hF1⟩
          by_cases k1 : r.2 0 < s.2.1
          · rw [if_neg (nI_ge k1 (by omega))]
            by_cases k2 : r.2 1 < s.2.1
            · rw [if_neg (nI_ge k2 (by omega))]
              by_cases k3 : r.2 0 = r.2 1
              · rw [if_pos (by rw [k3]), zz_call, if_pos (by decide)]
              · rw [if_neg (fun e => k3 ((nI_eq (by omega) (by omega)).1 e)), if_pos (show (9 : Int32) < nI (r.2 2) from nI_lt (a := 9) (by omega) (by omega)), zz_call, if_pos (by decide)]
            · rw [if_pos (nI_le (by omega) (by omega)), zz_call, if_pos (by decide)]
          · rw [if_pos (nI_le (by omega) (by omega)), zz_call, if_pos (by decide)]
    · rw [if_neg c2]
      by_cases c3 : chr tx s.1 = 101
      · obtain ⟨M1, e1, hF1, hr1⟩ := rd 1 (by omega) (by omega)
        rw [if_pos c3, c3, show X3_numbersBehind (nI 101) M = some (nI 1, M) from rfl, zz_call, e1, zz_call]
        cases en : nus tx 1 1 (s.1 + 1) (fun _ => 0) with
        | none =>
          left
          exact ⟨rfl, M1, rfl, badF M1 hF1⟩
        | some r =>
          obtain ⟨d1, d2, d3, d4, d5⟩ := hr1 r en
          have v0 := d5 0 (by omega)
          have hT1 : TP M1 q s := hT.fr (fun e h1 h2 => hF1 e (by omega))
          show (_ ∧ ∃ M', (if ¬ nI r.1 = (-1 : Int32) then _ else _) = _ ∧ _) ∨ (∃ s' M', _ ∧ (if ¬ nI r.1 = (-1 : Int32) then _ else _) = _ ∧ _)
          rw [if_pos (neg1 d4), if_pos (by rfl)]
          show ((if 1 ≤ r.2 0 ∧ r.2 0 ≤ 60 then _ else none) = none ∧ _) ∨ (∃ s' M', (if 1 ≤ r.2 0 ∧ r.2 0 ≤ 60 then _ else none) = some s' ∧ _)
          unfold X3_takeEaster
          rw [show (0 : Int32) = nI 0 from rfl, zz_ald (by omega) (by omega), d1 0 (by omega), zz_ald (by omega) (by omega), d1 0 (by omega)]
          have z0 : X3_takeEaster_26 t q (nI 0) M1 = some (b2 false, M1) := by
            unfold X3_takeEaster_26
            rw [if_pos (by decide)]
            exact zz_rz0
          rw [z0]
          by_cases hc : 1 ≤ r.2 0 ∧ r.2 0 ≤ 60
          · right
            rw [if_neg (show ¬ nI (r.2 0) < (1 : Int32) from nI_nlt (b := 1) hc.1 (by omega)), if_neg (show ¬ (60 : Int32) < nI (r.2 0) from nI_nlt (a := 60) hc.2 (by omega)), if_pos hc]
            unfold X3_takeEaster_26 X4_setEasterDay
            rw [if_neg (by decide), show (0 : Int32) = nI 0 from rfl, zz_ald (by omega) (by omega), d1 0 (by omega), zz_put, zz_call]
            refine ⟨_, me_upd M1 q 2 (nI (r.2 0)), rfl, ?_, ?_, d2, d3, fun e he => by rw [up_c (by omega), hF1 e (by omega)]⟩
            · rw [show s_retz 1 (me_upd M1 q 2 (nI (r.2 0))) = some (b2 true, me_upd M1 q 2 (nI (r.2 0))) from zz_rz1, zz_call, if_neg (by decide)]
              rfl
            · obtain ⟨h0, h1, h2, h3, hk, hs, hd, ho⟩ := hT1
              refine ⟨?_, ?_, up_s, ?_, ?_, ?_, ?_, ?_⟩
              · rw [up_j (by omega)]; exact h0
              · rw [up_j (by omega)]; exact h1
              · rw [up_j (by omega)]; exact h3
              · rw [up_c (by omega)]; exact hk
              · rw [up_c (by omega)]; exact hs
              · rw [up_c (by omega)]; exact hd
              · rw [up_c (by omega)]; exact ho
          · left
            rw [if_neg hc]
            refine ⟨rfl, M1, ?_, badF M1 hF1⟩
            by_cases k1 : 1 ≤ r.2 0
            · rw [if_neg (show ¬ nI (r.2 0) < (1 : Int32) from nI_nlt (b := 1) k1 (by omega)), if_pos (show (60 : Int32) < nI (r.2 0) from nI_lt (a := 60) (by omega) (by omega)), zz_call, if_pos (by decide)]
            · rw [if_pos (show nI (r.2 0) < (1 : Int32) from nI_lt (b := 1) (by omega) (by omega)), zz_call, if_pos (by decide)]
      · left
        rw [if_neg c3]
        have n1 : ¬ nI (chr tx s.1) = (101 : Int32) := fun e => c3 ((nI_eq (b := 101) (by omega) (by omega)).1 e)
        have n2 : ¬ nI (chr tx s.1) = (111 : Int32) := fun e => c2 ((nI_eq (b := 111) (by omega) (by omega)).1 e)
        have n3 : ¬ nI (chr tx s.1) = (112 : Int32) := fun e => c1 ((nI_eq (b := 112) (by omega) (by omega)).1 e)
        refine ⟨rfl, M, ?_, fun e he => rfl⟩
        unfold X3_numbersBehind X3_readNumbers
        rw [if_neg n1, if_neg n2, if_neg n3, zz_call, show FU = 99999 + 1 from rfl, X3_readNumbers_6, if_pos (by decide), if_pos (by decide), zz_call, if_neg (by decide)]
end ITEM
