/-! ===== who can vote ===== -/
theorem fa_xor (a b : Nat) : nI a ^^^ nI b = nI (a ^^^ b) := by
  apply Int32.toBitVec_inj.1
  show BitVec.ofNat 32 a ^^^ BitVec.ofNat 32 b = BitVec.ofNat 32 (a ^^^ b)
  apply BitVec.eq_of_getLsbD_eq
  intro i hi
  simp [hi]
/-- a without the bits of b -/
def nm (a b : Nat) : Nat := a &&& (b ^^^ (2 ^ 32 - 1))
theorem nm_I {a b : Nat} : nI a &&& (nI b ^^^ (-1 : Int32)) = nI (nm a b) := by
  rw [show (-1 : Int32) = nI (2 ^ 32 - 1) from by decide +kernel, fa_xor, fa_and]
  rfl
theorem nm_bit {a b i : Nat} (ha : a < 128) : (nm a b).testBit i = (a.testBit i && !b.testBit i) := by
  unfold nm
  rw [Nat.testBit_and, Nat.testBit_xor, Nat.testBit_two_pow_sub_one]
  by_cases h : i < 32
  · rw [decide_eq_true h]
    cases a.testBit i <;> cases b.testBit i <;> rfl
  · have h2 : a < 2 ^ i := Nat.lt_of_lt_of_le (m := 2 ^ 7) ha (Nat.pow_le_pow_right (by omega) (show 7 ≤ i by omega))
    rw [Nat.testBit_lt_two_pow h2]
    rfl
theorem nm_le {a b : Nat} : nm a b ≤ a := Nat.and_le_left
theorem z_bit {x : Nat} : x = 0 ↔ ∀ i, x.testBit i = false := by
  constructor
  · intro h i; rw [h, Nat.zero_testBit]
  · intro h
    apply Nat.eq_of_testBit_eq
    intro i
    rw [h i, Nat.zero_testBit]
section VOTE
variable {M M' : Mem} {t t1 u n ea kp i j c kind day al a b : Nat} {K S : Nat → Nat} {d0 d : Dm} {s : Ts} {A A1 A2 : Al} {tx Z : Tx} {R : Nat → Nat}
def alP (R : Nat → Nat) (W i : Nat) : Bool := W.testBit i && !decide (nm (nm W (2 ^ i)) (R i) = 0)
theorem nm_same {W : Nat} (hW : W < 128) : nm W (2 ^ i) = W ↔ W.testBit i = false := by
  constructor
  · intro h
    have h2 := nm_bit (b := 2 ^ i) (i := i) hW
    rw [h, Nat.testBit_two_pow_self] at h2
    rw [h2]
    simp
  · intro h
    apply Nat.eq_of_testBit_eq
    intro b
    rw [nm_bit hW, Nat.testBit_two_pow]
    by_cases hz : i = b
    · rw [← hz, h]; rfl
    · rw [decide_eq_false hz]; simp
theorem X2_allL_s {W : Nat} (hL : LK M t n R) (hn : n ≤ 7) (hW : W < 128) : X2_areAllLinked t (nI W) M = some (b2 (ff (alP R W) n).isNone, M) := by
  unfold X2_areAllLinked
  refine lp (S := Int32 × Mem) (fun f z => X2_areAllLinked_2 t (nI W) f z.1 z.2) (fun k z => z = (nI k, M) ∧ ∀ q, q < k → alP R W q = false) (fun r => r = some (b2 (ff (alP R W) n).isNone, M)) n ?_ ?_ 0 FU (nI 0, M) (by omega) (FU_lt (by omega)) ⟨rfl, fun q hq => by omega⟩
  · intro k f z hk ⟨e, hq⟩
    subst e
    have nxt : alP R W k = false → ∃ s' : Int32 × Mem, X2_areAllLinked_2 t (nI W) f (nI (k + 1)) M = X2_areAllLinked_2 t (nI W) f s'.1 s'.2 ∧ (s' = (nI (k + 1), M) ∧ ∀ q, q < k + 1 → alP R W q = false) := fun h => by
      refine ⟨(nI (k + 1), M), rfl, rfl, fun q hq' => ?_⟩
      by_cases hz : q = k
      · rw [hz]; exact h
      · exact hq q (by omega)
    have h1 : nm W (2 ^ k) < 128 := Nat.lt_of_le_of_lt nm_le hW
    have h2 : nm (nm W (2 ^ k)) (R k) < 128 := Nat.lt_of_le_of_lt nm_le h1
    show (∃ s', X2_areAllLinked_2 t (nI W) (f + 1) (nI k) M = _ ∧ _) ∨ X2_areAllLinked_2 t (nI W) (f + 1) (nI k) M = _
    rw [X2_areAllLinked_2, hL.1, if_neg (nI_ge hk (by omega)), zz_let, zz_shl (by omega), nm_I, nI_1]
    by_cases hb : W.testBit k = false
    · left
      rw [if_pos (by rw [(nm_same hW).2 hb])]
      exact nxt (by unfold alP; rw [hb]; rfl)
    · rw [if_neg (fun e => hb ((nm_same hW).1 ((nI_eq (by omega) (by omega)).1 e))), zz_ald (by omega) (by omega), hL.2 k (by omega), nm_I]
      by_cases hz : nm (nm W (2 ^ k)) (R k) = 0
      · left
        rw [if_pos (by rw [hz]; rfl)]
        exact nxt (by unfold alP; rw [decide_eq_true hz]; simp)
      · right
        rw [if_neg (nI_ne0 (by omega) (by omega)), ff_is hk (by unfold alP; rw [decide_eq_false hz]; simpa using hb) hq]
        exact zz_rz0
  · intro f z ⟨e, hq⟩
    subst e
    show X2_areAllLinked_2 t (nI W) (f + 1) (nI n) M = _
    rw [X2_areAllLinked_2, hL.1, if_pos (nI_le (Nat.le_refl _) (by omega)), ff_no hq]
    exact zz_rz1
/-- the sets that may vote -/
def vQ (R : Nat → Nat) (n al W : Nat) : Bool := decide (nm W al = 0) && (ff (alP R W) n).isNone
def vb (Q : Nat → Bool) (k : Nat) : Nat := fo (fun q x => if q ≠ 0 ∧ pc x < pc q ∧ Q q = true then q else x) k 0
theorem vb_lt {Q : Nat → Bool} : ∀ k, k ≤ 128 → vb Q k < 128 := by
  intro k
  induction k with
  | zero => intro _; exact (by decide : (0 : Nat) < 128)
  | succ k ih =>
    intro hk
    show (if k ≠ 0 ∧ pc (vb Q k) < pc k ∧ Q k = true then k else vb Q k) < 128
    split
    · omega
    · exact ih (by omega)
theorem pc_lt {a : Nat} : pc a < 100 := by unfold pc; omega
theorem X2_largest_s (hL : LK M t n R) (hn : n ≤ 7) (hal : al < 128) : X2_largestSet t (nI al) M = some (nI (vb (vQ R n al) (2 ^ n)), M) := by
  have h2n : 2 ^ n ≤ 2 ^ 7 := Nat.pow_le_pow_right (by omega) hn
  have h1n : 1 ≤ 2 ^ n := Nat.one_le_two_pow
  unfold X2_largestSet
  refine lp (S := Int32 × Int32 × Mem) (fun f z => X2_largestSet_4 t (nI al) f z.1 z.2.1 z.2.2) (fun k z => z = (nI (vb (vQ R n al) k), nI k, M) ∧ 1 ≤ k) (fun r => r = some (nI (vb (vQ R n al) (2 ^ n)), M)) (2 ^ n) ?_ ?_ 1 FU (nI 0, nI 1, M) h1n (FU_lt (by omega)) ⟨rfl, Nat.le_refl _⟩
  · intro k f z hk ⟨e, hk1⟩
    subst e
    left
    have hb := vb_lt (Q := vQ R n al) k (by omega)
    have p1 := pc_lt (a := k)
    have p2 := pc_lt (a := vb (vQ R n al) k)
    have hnm : nm k al < 128 := Nat.lt_of_le_of_lt nm_le (by omega)
    refine ⟨(nI (vb (vQ R n al) (k + 1)), nI (k + 1), M), ?_, rfl, by omega⟩
    have er : vb (vQ R n al) (k + 1) = if k ≠ 0 ∧ pc (vb (vQ R n al) k) < pc k ∧ vQ R n al k = true then k else vb (vQ R n al) k := rfl
    show X2_largestSet_4 t (nI al) (f + 1) (nI (vb (vQ R n al) k)) (nI k) M = X2_largestSet_4 t (nI al) f (nI (vb (vQ R n al) (k + 1))) (nI (k + 1)) M
    rw [X2_largestSet_4, hL.1, zz_shl (by omega), if_neg (nI_ge hk (by omega)), nm_I, er]
    unfold X2_largestSet_27
    by_cases hw : nm k al = 0
    · rw [if_neg (not_not_intro (show nI (nm k al) = 0 by rw [hw]; rfl)), if_neg (by decide), J6_bitCount_s (by omega), zz_call, J6_bitCount_s hb, zz_call, nI_1]
      by_cases hp : pc (vb (vQ R n al) k) < pc k
      · rw [if_neg (nI_ge hp (by omega)), X2_allL_s hL hn (by omega), zz_call]
        cases ha : (ff (alP R k) n).isNone with
        | false =>
          rw [if_pos (by decide), if_neg (by
            intro h
            have := h.2.2
            unfold vQ at this
            rw [ha, Bool.and_false] at this
            cases this)]
        | true =>
          rw [if_neg (by decide), if_pos ⟨by omega, hp, by unfold vQ; rw [ha, decide_eq_true hw]; rfl⟩]
      · rw [if_pos (nI_le (by omega) (by omega)), if_neg (fun h => hp h.2.1)]
    · rw [if_pos (nI_ne0 (by omega) (by omega)), if_pos rfl, nI_1, if_neg (by
        intro h
        have := h.2.2
        unfold vQ at this
        rw [decide_eq_false hw] at this
        cases this)]
  · intro f z ⟨e, hk1⟩
    subst e
    show X2_largestSet_4 t (nI al) (f + 1) _ (nI (2 ^ n)) M = _
    rw [X2_largestSet_4, hL.1, zz_shl (by omega), if_pos (nI_le (Nat.le_refl _) (by omega))]
/-! the reference's -/
def mP (al : Nat) (d : Dm) (W q : Nat) : Bool := decide (q / 8 < q % 8) && W.testBit (q / 8) && W.testBit (q % 8) && !o_may al d (q / 8) (q % 8)
theorem X6_mayAll_s {W : Nat} (hT : TR M u 0 n day al K S d) (hV : t_ok n al K d) (hW : W < 128) : X6_mayAll u (nI W) M = some (b2 (aF (mP al d W) 64 (decide (nm W al = 0))), M) := by
  have qa := hV.al
  have hnm : nm W al < 128 := Nat.lt_of_le_of_lt nm_le hW
  have loop : ∀ b, X6_mayAll_21 u (nI W) FU (b2 b) (nI 0) M = some (b2 (aF (mP al d W) 64 b), M) := by
    intro b
    refine lp (S := Int32 × Int32 × Mem) (fun f z => X6_mayAll_21 u (nI W) f z.1 z.2.1 z.2.2) (fun k z => z = (b2 (aF (mP al d W) k b), nI k, M)) (fun r => r = some (b2 (aF (mP al d W) 64 b), M)) 64 ?_ ?_ 0 FU (b2 b, nI 0, M) (by omega) (FU_lt (by omega)) rfl
    · intro k f z hk e
      subst e
      left
      refine ⟨(b2 (aF (mP al d W) (k + 1) b), nI (k + 1), M), ?_, rfl⟩
      have ea : aF (mP al d W) (k + 1) b = (aF (mP al d W) k b && !mP al d W k) := rfl
      generalize aF (mP al d W) k b = fl at ea
      show X6_mayAll_21 u (nI W) (f + 1) (b2 fl) (nI k) M = X6_mayAll_21 u (nI W) f (b2 (aF (mP al d W) (k + 1) b)) (nI (k + 1)) M
      rw [X6_mayAll_21, if_neg (show ¬ (64 : Int32) ≤ nI k from nI_ge (b := 64) hk (by omega)), ea, nI_1]
      cases fl with
      | false => rw [if_pos (by decide)]; rfl
      | true =>
        rw [if_neg (by decide), nl8, zz_div (by omega) (by omega) (by omega), zz_rem (by omega) (by omega) (by omega)]
        by_cases hl : k / 8 < k % 8
        · rw [if_neg (nI_ge hl (by omega)), zz_div (by omega) (by omega) (by omega), X6_has_s (by omega) (by omega), zz_call]
          cases h1 : W.testBit (k / 8) with
          | false => rw [if_pos (by decide), show mP al d W k = false from by unfold mP; rw [h1]; simp]; rfl
          | true =>
            rw [if_neg (by decide), zz_rem (by omega) (by omega) (by omega), X6_has_s (by omega) (by omega), zz_call]
            cases h2 : W.testBit (k % 8) with
            | false => rw [if_pos (by decide), show mP al d W k = false from by unfold mP; rw [h2]; simp]; rfl
            | true =>
              rw [if_neg (by decide), zz_div (by omega) (by omega) (by omega), zz_rem (by omega) (by omega) (by omega), nl0, X6_maySpeak_s hT hV (by omega) (by omega) (by omega), zz_call, show mP al d W k = !o_may al d (k / 8) (k % 8) from by unfold mP; rw [h1, h2, decide_eq_true hl]; rfl]
              cases o_may al d (k / 8) (k % 8) <;> rfl
        · rw [if_pos (nI_le (by omega) (by omega)), show mP al d W k = false from by unfold mP; rw [decide_eq_false hl]; rfl]
          rfl
    · intro f z e
      subst e
      show X6_mayAll_21 u (nI W) (f + 1) _ (nI 64) M = _
      rw [X6_mayAll_21, if_pos (by decide), zz_rz]
  unfold X6_mayAll
  rw [nl0, zz_ald (by omega) (by omega), hT.2.2.1, nm_I]
  by_cases hw : nm W al = 0
  · rw [if_neg (not_not_intro (show nI (nm W al) = nI 0 by rw [hw])), decide_eq_true hw]
    exact loop true
  · rw [if_pos (show ¬ nI (nm W al) = nI 0 from nI_ne0 (by omega) (by omega)), decide_eq_false hw]
    exact loop false
theorem vQ_eq {W : Nat} (hV : t_ok n al K d) (hRd : R = fun a => rB (o_may al d a) n) (hW : W < 2 ^ n) : aF (mP al d W) 64 (decide (nm W al = 0)) = vQ R n al W := by
  have w := hV.1
  have hW7 : W < 128 := Nat.lt_of_lt_of_le (k := 2 ^ 7) hW (Nat.pow_le_pow_right (by omega) w)
  have hWn : ∀ b, W.testBit b = true → b < n := fun b hb => by
    rcases Nat.lt_or_ge b n with h | h
    · exact h
    · have h2 : W < 2 ^ b := Nat.lt_of_lt_of_le hW (Nat.pow_le_pow_right (by omega) h)
      rw [Nat.testBit_lt_two_pow h2] at hb
      cases hb
  apply Bool.eq_iff_iff.2
  rw [aF_iff]
  unfold vQ
  rw [Bool.and_eq_true]
  have hone : ∀ i, nm W (2 ^ i) < 128 := fun i => Nat.lt_of_le_of_lt nm_le hW7
  constructor
  · intro ⟨h1, h2⟩
    refine ⟨h1, ?_⟩
    rw [ff_no (fun i hi => ?_)]
    · rfl
    · unfold alP
      cases hwi : W.testBit i with
      | false => rfl
      | true =>
        rw [decide_eq_true]
        · rfl
        · apply z_bit.2
          intro b
          rw [nm_bit (hone i), nm_bit hW7, Nat.testBit_two_pow]
          cases hwb : W.testBit b with
          | false => rfl
          | true =>
            by_cases hz : i = b
            · rw [decide_eq_true hz]; rfl
            · rw [decide_eq_false hz]
              have hbn := hWn b hwb
              have hm : o_may al d i b = true := by
                rcases Nat.lt_or_ge i b with hl | hl
                · have := h2 (8 * i + b) (by omega)
                  unfold mP at this
                  rw [show (8 * i + b) / 8 = i by omega, show (8 * i + b) % 8 = b by omega, decide_eq_true hl, hwi, hwb] at this
                  simpa using this
                · have := h2 (8 * b + i) (by omega)
                  unfold mP at this
                  rw [show (8 * b + i) / 8 = b by omega, show (8 * b + i) % 8 = i by omega, decide_eq_true (by omega), hwi, hwb] at this
                  rw [may_sym]
                  simpa using this
              have hr : (R i).testBit b = true := by
                rw [hRd]
                show (rB (o_may al d i) n).testBit b = true
                rw [rB_bit, hm, decide_eq_true hbn]
                rfl
              rw [hr]
              rfl
  · intro ⟨h1, h2⟩
    refine ⟨h1, fun q hq => ?_⟩
    have hno : ff (alP R W) n = none := by
      cases e : ff (alP R W) n with
      | none => rfl
      | some a => rw [e] at h2; cases h2
    cases hm : mP al d W q with
    | false => rfl
    | true =>
      exfalso
      unfold mP at hm
      simp only [Bool.and_eq_true, decide_eq_true_eq, Bool.not_eq_true'] at hm
      have hi := hWn _ hm.1.1.2
      have hj := hWn _ hm.1.2
      have h3 := ff_none hno (q / 8) hi
      unfold alP at h3
      rw [hm.1.1.2, Bool.true_and, Bool.not_eq_false', decide_eq_true_iff] at h3
      have h4 := z_bit.1 h3 (q % 8)
      rw [nm_bit (hone _), nm_bit hW7, Nat.testBit_two_pow, decide_eq_false (by omega), hm.1.2] at h4
      have hr : (R (q / 8)).testBit (q % 8) = false := by
        rw [hRd]
        show (rB (o_may al d (q / 8)) n).testBit (q % 8) = false
        rw [rB_bit, hm.2, Bool.and_false]
      rw [hr] at h4
      cases h4
theorem P_vote (hC : AC M t tx n ea K S d0 s A kp A1 A2 Z) (hR : AR M u tx n ea K S d0 s A kp A1 A2 Z) (hV : SV tx n ea K S d0 s A kp A1 A2 Z) (htu : t + 44 ≤ u) : PS t u M (X5_vote t) (X6_vote u) := by
  have hn := hV.2.1
  have hn7 := hV.2.2.2.2.1.1
  have hV1 := hV.2.2.2.2.2.1
  have qa := hV1.al
  have h2n : 2 ^ n ≤ 2 ^ 7 := Nat.pow_le_pow_right (by omega) hn7
  have h1n : 1 ≤ 2 ^ n := Nat.one_le_two_pow
  obtain ⟨R, hRd⟩ : ∃ R : Nat → Nat, R = fun a => rB (o_may s.1 s.2.2 a) n := ⟨_, rfl⟩
  refine PS.ro (v := nI (vb (vQ R n s.1) (2 ^ n))) hC hR hV htu ?_ (fun M1 hR1 => ⟨M1, ?_, ScR.rf⟩)
  · obtain ⟨M1, e1, hL1, hS1⟩ := hC.speakers hV1
    rw [← hRd] at hL1
    refine ⟨M1, ?_, hS1⟩
    unfold X5_vote X4_aliveBits
    rw [e1, zz_call, zz_call, (hC.sc hS1).2.2.1.2.2.2.1, X2_largest_s hL1 hn7 qa, zz_call]
  · unfold X6_vote
    refine lp (S := Int32 × Int32 × Mem) (fun f z => X6_vote_4 u f z.1 z.2.1 z.2.2) (fun k z => z = (nI (vb (vQ R n s.1) k), nI k, M1) ∧ 1 ≤ k) (fun r => r = some (nI (vb (vQ R n s.1) (2 ^ n)), M1)) (2 ^ n) ?_ ?_ 1 FU (nI 0, nI 1, M1) h1n (FU_lt (by omega)) ⟨rfl, Nat.le_refl _⟩
    · intro k f z hk ⟨e, hk1⟩
      subst e
      left
      have hb := vb_lt (Q := vQ R n s.1) k (by omega)
      have p1 := pc_lt (a := k)
      have p2 := pc_lt (a := vb (vQ R n s.1) k)
      refine ⟨(nI (vb (vQ R n s.1) (k + 1)), nI (k + 1), M1), ?_, rfl, by omega⟩
      have er : vb (vQ R n s.1) (k + 1) = if k ≠ 0 ∧ pc (vb (vQ R n s.1) k) < pc k ∧ vQ R n s.1 k = true then k else vb (vQ R n s.1) k := rfl
      show X6_vote_4 u (f + 1) (nI (vb (vQ R n s.1) k)) (nI k) M1 = X6_vote_4 u f (nI (vb (vQ R n s.1) (k + 1))) (nI (k + 1)) M1
      rw [X6_vote_4, nl0, zz_ald (by omega) (by omega), hR1.2.1, zz_shl (by omega), if_neg (nI_ge hk (by omega)), X6_bits_s (by omega), zz_call, X6_bits_s hb, zz_call, er, nI_1]
      by_cases hp : pc (vb (vQ R n s.1) k) < pc k
      · rw [if_neg (nI_ge hp (by omega)), X6_mayAll_s hR1.2.2.2.2.1 hV1 (by omega), vQ_eq hV1 hRd hk, zz_call]
        cases ha : vQ R n s.1 k with
        | false => rw [if_pos (by decide), if_neg (fun h => by cases h.2.2)]
        | true => rw [if_neg (by decide), if_pos ⟨by omega, hp, rfl⟩]
      · rw [if_pos (nI_le (by omega) (by omega)), if_neg (fun h => hp h.2.1)]
    · intro f z ⟨e, hk1⟩
      subst e
      show X6_vote_4 u (f + 1) _ (nI (2 ^ n)) M1 = _
      rw [X6_vote_4, nl0, zz_ald (by omega) (by omega), hR1.2.1, zz_shl (by omega), if_pos (nI_le (Nat.le_refl _) (by omega))]
end VOTE
