/-! ===== a stranger ===== -/
theorem wb_of32 (x : Int32) : ∃ n, x = nI n := ⟨x.toBitVec.toNat, by
  apply Int32.toBitVec_inj.1
  show x.toBitVec = BitVec.ofNat 32 x.toBitVec.toNat
  simp⟩
def nK (K : Nat → Nat) (n v : Nat) : Nat → Nat := fun i => if i = n then v else K i
def nD (al n : Nat) (d : Dm) (k : Nat) : Dm := fun a b => if a = n ∧ b < k ∧ al.testBit b = true then 1 else d a b
section STR
variable {M M' : Mem} {t u n ea kp i j c kind day al : Nat} {K S : Nat → Nat} {d0 d : Dm} {s : Ts} {A A1 A2 : Al} {tx Z : Tx}
theorem n_bit (hn : n < 8) (hj : j < n) : (al ||| 2 ^ n).testBit j = al.testBit j := by
  rw [Nat.testBit_or, Nat.testBit_two_pow_of_ne (by omega), Bool.or_false]
theorem n_ok (hV : t_ok n al K d) (h6 : n ≤ 6) : t_ok (n + 1) (al ||| 2 ^ n) (nK K n 0) (nD al n d n) := by
  have hal := hV.2.1
  refine ⟨by omega, ?_, fun i hi => ?_, fun a b => ?_, fun a b h => ?_⟩
  · have h1 : al < 2 ^ (n + 1) := Nat.lt_trans hal (Nat.pow_lt_pow_right (by omega) (by omega))
    exact Nat.or_lt_two_pow h1 (Nat.pow_lt_pow_right (by omega) (by omega))
  · unfold nK
    split
    · omega
    · exact hV.2.2.1 i (by omega)
  · unfold nD
    split
    · omega
    · exact hV.2.2.2.1 a b
  · unfold nD at h
    split at h
    · next hc =>
      refine ⟨by omega, by omega, by omega, ?_, ?_⟩
      · rw [hc.1, Nat.testBit_or, Nat.testBit_two_pow_self, Bool.or_true]
      · rw [Nat.testBit_or, hc.2.2, Bool.true_or]
    · obtain ⟨h1, h2, h3, h4, h5⟩ := hV.2.2.2.2 a b h
      refine ⟨by omega, by omega, h3, ?_, ?_⟩
      · rw [Nat.testBit_or, h4, Bool.true_or]
      · rw [Nat.testBit_or, h5, Bool.true_or]
theorem nD_0 : nD al n d 0 = d := by
  funext a b
  exact if_neg (by omega)
theorem nD_t {k : Nat} (h : al.testBit k = true) : d_up (nD al n d k) n k 1 = nD al n d (k + 1) := by
  funext a b
  unfold d_up nD
  by_cases c : a = n ∧ b = k
  · rw [if_pos c, if_pos ⟨c.1, by omega, by rw [c.2]; exact h⟩]
  · rw [if_neg c]
    by_cases e : a = n ∧ b < k ∧ al.testBit b = true
    · rw [if_pos e, if_pos ⟨e.1, by omega, e.2.2⟩]
    · rw [if_neg e, if_neg]
      intro e'
      exact e ⟨e'.1, by omega, e'.2.2⟩
theorem nD_f {k : Nat} (h : al.testBit k = false) : nD al n d k = nD al n d (k + 1) := by
  funext a b
  unfold nD
  by_cases e : a = n ∧ b < k ∧ al.testBit b = true
  · rw [if_pos e, if_pos ⟨e.1, by omega, e.2.2⟩]
  · rw [if_neg e, if_neg]
    intro e'
    by_cases hb : b = k
    · rw [hb, h] at e'
      cases e'.2.2
    · exact e ⟨e'.1, by omega, e'.2.2⟩
theorem X4_addStranger_s (hT : TC M t n day ea al K S d) (hV : t_ok n al K d) (h6 : n ≤ 6) : ∃ M', X4_addStranger t M = some ((), M') ∧ TC M' t (n + 1) day ea (al ||| 2 ^ n) (nK K n 0) (nK S n 0) (nD al n d n) ∧ Fr t (t + 5) M M' := by
  obtain ⟨h0, h1, h2, h3, hk, hs, hd, ho⟩ := id hT
  have qa := hV.al
  have qb : al ||| 2 ^ n < 128 := by
    have hx : (2 : Nat) ^ n ≤ 2 ^ 6 := Nat.pow_le_pow_right (by omega) h6
    exact Nat.or_lt_two_pow (n := 7) qa (by omega)
  generalize hM1 : me_upd (me_upd (me_upd (me_upd M (t + 1) n (nI 0)) (t + 2) n (nI 0)) t 3 (nI (al ||| 2 ^ n))) t 0 (nI (n + 1)) = M1
  have hT1 : TC M1 t (n + 1) day ea (al ||| 2 ^ n) (nK K n 0) (nK S n 0) (nD al n d 0) := by
    rw [nD_0, ← hM1]
    refine ⟨up_s, ?_, ?_, ?_, fun i hi => ?_, fun i hi => ?_, ?_, ?_⟩
    · rw [up_j (by omega), up_j (by omega), up_c (by omega), up_c (by omega)]; exact h1
    · rw [up_j (by omega), up_j (by omega), up_c (by omega), up_c (by omega)]; exact h2
    · rw [up_j (by omega), up_s]
    · rw [up_c (by omega), up_c (by omega), up_c (by omega)]
      by_cases hz : i = n
      · rw [hz, up_s]
        show nI 0 = nI (if n = n then 0 else K n)
        rw [if_pos rfl]
      · rw [up_j hz]
        show _ = nI (if i = n then 0 else K i)
        rw [if_neg hz]
        exact hk i (by omega)
    · rw [up_c (by omega), up_c (by omega)]
      by_cases hz : i = n
      · rw [hz, up_s]
        show nI 0 = nI (if n = n then 0 else S n)
        rw [if_pos rfl]
      · rw [up_j hz, up_c (by omega)]
        show _ = nI (if i = n then 0 else S i)
        rw [if_neg hz]
        exact hs i (by omega)
    · rw [up_c (by omega), up_c (by omega), up_c (by omega), up_c (by omega)]; exact hd
    · rw [up_c (by omega), up_c (by omega), up_c (by omega), up_c (by omega)]; exact ho
  have hF1 : Fr t (t + 5) M M1 := fun c hc => by rw [← hM1, up_c (by omega), up_c (by omega), up_c (by omega), up_c (by omega)]
  have e1 : X4_addPerson t 0 0 M = some ((), M1) := by
    have q1 : me_upd M (t + 1) n (nI 0) t 0 = nI n := by rw [up_c (by omega)]; exact h0
    have q2 : me_upd (me_upd M (t + 1) n (nI 0)) (t + 2) n (nI 0) t 0 = nI n := by rw [up_c (by omega)]; exact q1
    have q3 : me_upd (me_upd M (t + 1) n (nI 0)) (t + 2) n (nI 0) t 3 = nI al := by rw [up_c (by omega), up_c (by omega)]; exact h3
    have q4 : me_upd (me_upd (me_upd M (t + 1) n (nI 0)) (t + 2) n (nI 0)) t 3 (nI (al ||| 2 ^ n)) t 0 = nI n := by rw [up_j (by omega)]; exact q2
    unfold X4_addPerson
    rw [h0]
    simp (disch := omega) only [nl0, nl1, nl2, nl3, nl4, nl5, nl6, nl7, nl8, nl9, nl10, nl32, nl40, nl44, nl48, nl57, nl59, nl60, nl63, nl64, nl99, nl100, nl101, nl111, nl112, nl126, nl128, nl200, nl504, nl9999, nl65521, zz_ald, zz_ast, zz_let, zz_call, zz_put, zz_rem, zz_div, zz_rz, zz_rz0, zz_rz1, pk_mul, nI_add, pk_sub, b2_0, b2_1, nI_leI, nI_ltI, nI_eq, q1, q2, q3, q4, zz_sh1, fa_or, hM1]
    rw [if_neg (by omega)]
  unfold X4_addStranger
  rw [zz_let, h0, e1, zz_call]
  refine lp (S := Int32 × Mem) (fun f z => X4_addStranger_13 t (nI n) f z.1 z.2) (fun k z => z.1 = nI k ∧ TC z.2 t (n + 1) day ea (al ||| 2 ^ n) (nK K n 0) (nK S n 0) (nD al n d k) ∧ Fr t (t + 5) M z.2) (fun r => ∃ M', r = some ((), M') ∧ TC M' t (n + 1) day ea (al ||| 2 ^ n) (nK K n 0) (nK S n 0) (nD al n d n) ∧ Fr t (t + 5) M M') n ?_ ?_ 0 FU (nI 0, M1) (by omega) (FU_lt (by omega)) ⟨rfl, hT1, hF1⟩
  · intro k f z hk ⟨e1, hT1, hF1⟩
    obtain ⟨x, M1⟩ := z
    dsimp only at e1 hT1 hF1
    subst e1
    left
    show ∃ s', X4_addStranger_13 t (nI n) (f + 1) (nI k) M1 = _ ∧ _
    rw [X4_addStranger_13, if_neg (nI_ge hk (by omega)), X4_isAlive_s hT1 qb (by omega), n_bit (by omega) hk, zz_call, nI_1]
    cases hb : al.testBit k with
    | false =>
      rw [if_pos (by decide)]
      exact ⟨(nI (k + 1), M1), rfl, rfl, by rw [← nD_f hb]; exact hT1, hF1⟩
    | true =>
      obtain ⟨M2, e2, hT2, hF2⟩ := X4_setDebt_s (v := 1) hT1 (i := n) (j := k) (by omega) (by omega)
      rw [if_neg (by decide), nl1, e2, zz_call]
      exact ⟨(nI (k + 1), M2), rfl, rfl, by rw [← nD_t hb]; exact hT2, hF1.tr hF2⟩
  · intro f z ⟨e1, hT1, hF1⟩
    obtain ⟨x, M1⟩ := z
    dsimp only at e1 hT1 hF1
    subst e1
    refine ⟨M1, ?_, hT1, hF1⟩
    show X4_addStranger_13 t (nI n) (f + 1) (nI n) M1 = _
    rw [X4_addStranger_13, if_pos (nI_le (Nat.le_refl _) (by omega))]
theorem X6_stranger_101_s {x x2 x3 v5 : Int32} {S' : Nat → Nat} {w : Nat} (hT : TR M u 1 (n + 1) day (al ||| 2 ^ n) (nK K n 0) S' d) (hV : t_ok n al K d) (h6 : n ≤ 6) (hday : day < 2 ^ 29) (hw : v5 = nI w) :
    ∃ M', X6_stranger_101 u x x2 x3 (nI n) v5 FU (nI 0) M = some (if x = 0 then (nI (mpF (nK K n 0) day (nD al n d n)).1 - x2) + 100 else (nI (d_all (mpF (nK K n 0) day (nD al n d n)).2) - x3) + 100, M') ∧ (∀ c, (c < u + 13 ∨ u + 17 ≤ c) → c ≠ u + 3 → M' c = M c) ∧ M' (u + 3) n = v5 ∧ (∀ k, k ≠ n → M' (u + 3) k = M (u + 3) k) ∧ (∀ k, k < 64 → M' (u + 13) k = M (u + 13) k) ∧ M' (u + 14) 0 = M (u + 14) 0 ∧ M' (u + 15) 0 = M (u + 15) 0 ∧ M' (u + 16) 0 = M (u + 16) 0 := by
  have qa := hV.al
  have qb : al ||| 2 ^ n < 128 := by
    have hx : (2 : Nat) ^ n ≤ 2 ^ 6 := Nat.pow_le_pow_right (by omega) h6
    exact Nat.or_lt_two_pow (n := 7) qa (by omega)
  refine lp (S := Int32 × Mem) (fun f z => X6_stranger_101 u x x2 x3 (nI n) v5 f z.1 z.2) (fun k z => z.1 = nI k ∧ TR z.2 u 1 (n + 1) day (al ||| 2 ^ n) (nK K n 0) S' (nD al n d k) ∧ FrR u 1 M z.2)
    (fun r => ∃ M', r = some (if x = 0 then (nI (mpF (nK K n 0) day (nD al n d n)).1 - x2) + 100 else (nI (d_all (mpF (nK K n 0) day (nD al n d n)).2) - x3) + 100, M') ∧ (∀ c, (c < u + 13 ∨ u + 17 ≤ c) → c ≠ u + 3 → M' c = M c) ∧ M' (u + 3) n = v5 ∧ (∀ k, k ≠ n → M' (u + 3) k = M (u + 3) k) ∧ (∀ k, k < 64 → M' (u + 13) k = M (u + 13) k) ∧ M' (u + 14) 0 = M (u + 14) 0 ∧ M' (u + 15) 0 = M (u + 15) 0 ∧ M' (u + 16) 0 = M (u + 16) 0) n ?_ ?_ 0 FU (nI 0, M) (by omega) (FU_lt (by omega)) ⟨rfl, by rw [nD_0]; exact hT, FrR.rf⟩
  · intro k f z hk ⟨e1, hT1, hF1⟩
    obtain ⟨y, M1⟩ := z
    dsimp only at e1 hT1 hF1
    subst e1
    left
    show ∃ s', X6_stranger_101 u x x2 x3 (nI n) v5 (f + 1) (nI k) M1 = _ ∧ _
    rw [X6_stranger_101, if_neg (nI_ge hk (by omega)), nl1, X6_isAlive_s hT1 (by omega) qb (by omega), n_bit (by omega) hk, zz_call, nI_add]
    cases hb : al.testBit k with
    | false =>
      obtain ⟨M2, e2, hT2, hF2⟩ := X6_setDebt_s (v := 0) hT1 (by omega) (i := n) (j := k) (by omega) (by omega) (by omega)
      rw [if_pos (by decide), nl0, e2, zz_call]
      refine ⟨(nI (k + 1), M2), rfl, rfl, ?_, hF1.tr hF2⟩
      have e : d_up (nD al n d k) n k (if 0 < 9 then 0 else 9) = nD al n d (k + 1) := by
        rw [← nD_f hb, if_pos (by omega)]
        funext a b
        unfold d_up
        split
        · next hc =>
          rw [hc.1, hc.2]
          unfold nD
          rw [if_neg (by omega), d_zero hV (Or.inl (Nat.le_refl _))]
        · rfl
      rw [← e]
      exact hT2
    | true =>
      obtain ⟨M2, e2, hT2, hF2⟩ := X6_setDebt_s (v := 1) hT1 (by omega) (i := n) (j := k) (by omega) (by omega) (by omega)
      rw [if_neg (by decide), e2, zz_call]
      refine ⟨(nI (k + 1), M2), rfl, rfl, ?_, hF1.tr hF2⟩
      rw [← nD_t hb]
      exact hT2
  · intro f z ⟨e1, hT1, hF1⟩
    obtain ⟨y, M1⟩ := z
    dsimp only at e1 hT1 hF1
    subst e1
    obtain ⟨M2, e2, hT2, hF2, hV2⟩ := X6_makePeace_s hT1 (n_ok hV h6) hday (by omega)
    have hF := hF1.tr hF2
    have hT3 : TR (me_upd M2 (u + 3) n v5) u 1 (n + 1) day (al ||| 2 ^ n) (nK K n w) S' (mpF (nK K n 0) day (nD al n d n)).2 := by
      obtain ⟨c0, c1, c2, ck, cs, cd⟩ := hT2
      refine ⟨?_, ?_, ?_, fun i hi => ?_, ?_, ?_⟩
      · rw [up_c (by omega)]; exact c0
      · rw [up_c (by omega)]; exact c1
      · rw [up_c (by omega)]; exact c2
      · by_cases hz : i = n
        · rw [hz, up_s, hw]
          show nI w = nI (if n = n then w else K n)
          rw [if_pos rfl]
        · rw [up_j hz, ck i hi]
          show nI (if i = n then 0 else K i) = nI (if i = n then w else K i)
          rw [if_neg hz, if_neg hz]
      · rw [up_c (by omega)]; exact cs
      · rw [up_c (by omega)]; exact cd
    refine ⟨me_upd M2 (u + 3) n v5, ?_, fun c h1 h2 => by rw [up_c h2]; exact hF.1 c h1, up_s, fun k hk => by rw [up_j hk, hF.1 _ (by omega)], fun k hk => by rw [up_c (by omega)]; exact hF.2.1 k (by omega), ?_, ?_, ?_⟩
    · show X6_stranger_101 u x x2 x3 (nI n) v5 (f + 1) (nI n) M1 = _
      rw [X6_stranger_101, if_pos (nI_le (Nat.le_refl _) (by omega)), nl1, e2, zz_call, zz_let, zz_ast (by omega) (by omega)]
      by_cases hx : x = 0
      · rw [if_neg (not_not_intro hx), if_pos hx]
      · rw [if_pos hx, if_neg hx, X6_allOf_s hT3 (by omega), zz_call]
    · rw [up_c (by omega)]; exact (hF.2.2 0 (by omega)).1
    · rw [up_c (by omega)]; exact (hF.2.2 0 (by omega)).2.1
    · rw [up_c (by omega)]; exact (hF.2.2 0 (by omega)).2.2
theorem P_stranger {x : Int32} (hC : AC M t tx n ea K S d0 s A kp A1 A2 Z) (hR : AR M u tx n ea K S d0 s A kp A1 A2 Z) (hV : SV tx n ea K S d0 s A kp A1 A2 Z) (htu : t + 44 ≤ u) : PS t u M (X5_stranger t x) (X6_stranger u x) := by
  have hd := hV.day
  have hn := hV.2.1
  have hn7 := hV.2.2.2.2.1.1
  have hV1 := hV.2.2.2.2.2.1
  cases h : inR 0 1 x with
  | false =>
    refine PS.ro (v := -1) hC hR hV htu ⟨M, ?_, Sc.rf⟩ (fun M1 hR1 => ⟨M1, ?_, ScR.rf⟩)
    · unfold X5_stranger
      rw [X5_zo_s, h, zz_call, if_neg (by decide)]
    · unfold X6_stranger
      rw [show X6_in x.toInt64 0 1 M1 = _ from X6_in_s (lo := 0) (hi := 1), h, zz_call, if_neg (by decide)]
  | true =>
    by_cases h7 : n = 7
    · refine PS.ro (v := -3) hC hR hV htu ⟨M, ?_, Sc.rf⟩ (fun M1 hR1 => ⟨M1, ?_, ScR.rf⟩)
      · unfold X5_stranger X4_persons
        rw [X5_zo_s, h, zz_call, if_pos (by decide), zz_call, hC.2.2.1.1, h7, if_neg (by decide)]
      · unfold X6_stranger
        rw [show X6_in x.toInt64 0 1 M1 = _ from X6_in_s (lo := 0) (hi := 1), h, zz_call, if_pos (by decide), nl0, zz_ald (by omega) (by omega), hR1.2.1, h7, if_neg (by decide)]
    · have h6 : n ≤ 6 := by omega
      refine PS.ro (v := if x = 0 then (nI (mpF (nK K n 0) s.2.1 (nD s.1 n s.2.2 n)).1 - nI (mpF K s.2.1 s.2.2).1) + 100 else (nI (d_all (mpF (nK K n 0) s.2.1 (nD s.1 n s.2.2 n)).2) - nI (d_all (mpF K s.2.1 s.2.2).2)) + 100) hC hR hV htu ?_ (fun M1 hR1 => ?_)
      · obtain ⟨M1, e1, hT1, hS1⟩ := hC.trial hn7
        obtain ⟨M2, e2, hT2, hF2, hV2, _⟩ := X4_makePeace_s hT1 hV1 (by omega)
        have hS2 := hS1.tr (Sc.tri hF2)
        obtain ⟨M3, e3, hT3, hS3⟩ := (hC.sc hS2).trial hn7
        obtain ⟨M4, e4, hT4, hF4⟩ := X4_addStranger_s hT3 hV1 h6
        obtain ⟨M5, e5, hT5, hF5, hV5, _⟩ := X4_makePeace_s hT4 (n_ok hV1 h6) (by omega)
        refine ⟨M5, ?_, ((hS2.tr hS3).tr (Sc.tri hF4)).tr (Sc.tri hF5)⟩
        unfold X5_stranger X4_persons
        rw [X5_zo_s, h, zz_call, if_pos (by decide), zz_call, hC.2.2.1.1, if_pos (show nI n < (7 : Int32) from nI_lt (b := 7) (by omega) (by omega)), e1, zz_call, e2, zz_call, X4_allOwed_s hT2 hV2, zz_call, e3, zz_call, e4, zz_call, e5, zz_call, zz_let, X4_allOwed_s hT5 hV5, zz_call, zz_let]
        by_cases hx : x = 0
        · rw [if_neg (not_not_intro hx), if_pos hx, Int32.add_comm]
        · rw [if_pos hx, if_neg hx, Int32.add_comm]
      · obtain ⟨M2, e2, hT2, hF2⟩ := X6_copy_s (b := 1) hR1.2.2.2.2.1 (by omega) (by omega) (by omega)
        obtain ⟨M3, e3, hT3, hF3, hV3⟩ := X6_makePeace_s hT2 hV1 (by omega) (by omega)
        have hS3 : ScR u M1 M3 := (hF2.tr hF3).ScR (by omega)
        have hR3 := hR1.sc hn7 hS3
        obtain ⟨M4, e4, hT4, hF4⟩ := X6_copy_s (b := 1) hR3.2.2.2.2.1 (by omega) (by omega) (by omega)
        have hS4 : ScR u M1 M4 := hS3.tr (hF4.ScR (by omega))
        have hR4 := hR1.sc hn7 hS4
        obtain ⟨w, hw⟩ := wb_of32 (M4 (u + 3) n)
        obtain ⟨w2, hw2⟩ := wb_of32 (M4 (u + 4) n)
        generalize hM5 : me_upd (me_upd (me_upd M4 (u + 3) n (nI 0)) (u + 14) 1 (nI (s.1 ||| 2 ^ n))) (u + 16) 1 (nI (n + 1)) = M5
        obtain ⟨c0, c1, c2, ck, cs, cd⟩ := id hT4
        have hT5 : TR M5 u 1 (n + 1) s.2.1 (s.1 ||| 2 ^ n) (nK K n 0) (nK S n w2) s.2.2 := by
          rw [← hM5]
          refine ⟨up_s, ?_, ?_, fun i hi => ?_, fun i hi => ?_, ?_⟩
          · rw [up_c (by omega), up_c (by omega), up_c (by omega)]; exact c1
          · rw [up_c (by omega), up_s]
          · rw [up_c (by omega), up_c (by omega)]
            by_cases hz : i = n
            · rw [hz, up_s]
              show nI 0 = nI (if n = n then 0 else K n)
              rw [if_pos rfl]
            · rw [up_j hz]
              show _ = nI (if i = n then 0 else K i)
              rw [if_neg hz]
              exact ck i (by omega)
          · rw [up_c (by omega), up_c (by omega), up_c (by omega)]
            by_cases hz : i = n
            · rw [hz, hw2]
              show nI w2 = nI (if n = n then w2 else S n)
              rw [if_pos rfl]
            · show _ = nI (if i = n then w2 else S i)
              rw [if_neg hz]
              exact cs i (by omega)
          · rw [up_c (by omega), up_c (by omega), up_c (by omega)]; exact cd
        obtain ⟨M6, e6, k1, k2, k3, k4, k5, k6, k7⟩ := X6_stranger_101_s (x := x) (x2 := nI (mpF K s.2.1 s.2.2).1) (x3 := nI (d_all (mpF K s.2.1 s.2.2).2)) hT5 hV1 h6 (by omega) hw
        refine ⟨M6, ?_, hS4.tr ?_⟩
        · unfold X6_stranger
          have q1 : me_upd M4 (u + 3) n (nI 0) (u + 14) 1 = nI s.1 := by rw [up_c (by omega)]; exact c2
          have q2 : me_upd (me_upd M4 (u + 3) n (nI 0)) (u + 14) 1 (nI (s.1 ||| 2 ^ n)) (u + 16) 1 = nI n := by rw [up_c (by omega), up_c (by omega)]; exact c0
          rw [show X6_in x.toInt64 0 1 M1 = _ from X6_in_s (lo := 0) (hi := 1), h, zz_call, if_pos (by decide), nl0, zz_ald (by omega) (by omega), hR1.2.1, if_pos (show ¬ nI n = (7 : Int32) from fun e => h7 ((nI_eq (b := 7) (by omega) (by omega)).1 e)), nl1, e2, zz_call, e3, zz_call, X6_allOf_s hT3 (by omega), zz_call, e4, zz_call, zz_ald (by omega) (by omega), hR4.2.1, zz_ald (by omega) (by omega), zz_ast (by omega) (by omega), zz_ald (by omega) (by omega), q1, zz_sh1 (by omega), fa_or, zz_ast (by omega) (by omega), zz_ald (by omega) (by omega), q2, nI_add, zz_ast (by omega) (by omega), hM5, e6]
          rfl
        · have g : ∀ c, c ≠ u + 3 → c ≠ u + 14 → c ≠ u + 16 → M5 c = M4 c := fun c h1 h2 h3 => by rw [← hM5, up_c h3, up_c h2, up_c h1]
          have g3 : ∀ k, k ≠ n → M5 (u + 3) k = M4 (u + 3) k := fun k hk => by rw [← hM5, up_c (by omega), up_c (by omega), up_j hk]
          have g14 : M5 (u + 14) 0 = M4 (u + 14) 0 := by rw [← hM5, up_c (by omega), up_j (by omega), up_c (by omega)]
          have g16 : M5 (u + 16) 0 = M4 (u + 16) 0 := by rw [← hM5, up_j (by omega), up_c (by omega), up_c (by omega)]
          refine ⟨fun c hc => ?_, fun k hk => ?_, ?_, ?_, fun k hk => ⟨?_, ?_⟩, fun k hk => ⟨?_, ?_⟩, ?_, ?_, ?_⟩
          · rw [k1 c (by omega) (by omega), g c (by omega) (by omega) (by omega)]
          · rw [k1 u (by omega) (by omega), g u (by omega) (by omega) (by omega)]
          · rw [k1 _ (by omega) (by omega), g _ (by omega) (by omega) (by omega)]
          · rw [k1 _ (by omega) (by omega), g _ (by omega) (by omega) (by omega)]
          · by_cases hz : k = n
            · rw [hz, k2]
            · rw [k3 k hz, g3 k hz]
          · rw [k1 _ (by omega) (by omega), g _ (by omega) (by omega) (by omega)]
          · rw [k1 _ (by omega) (by omega), g _ (by omega) (by omega) (by omega)]
          · rw [k4 k hk, g _ (by omega) (by omega) (by omega)]
          · rw [k5, g14]
          · rw [k6, g _ (by omega) (by omega) (by omega)]
          · rw [k7, g16]
end STR
