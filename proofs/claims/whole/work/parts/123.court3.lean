section COURT3
variable {M M' : Mem} {t u n ea kp i j c kind : Nat} {K S : Nat → Nat} {d0 d : Dm} {s : Ts} {A A1 A2 : Al} {tx Z : Tx}
theorem c_bound {al : Nat} (hV : t_ok n al K d) {w : Nat} (hw1 : 1 ≤ w) (hw2 : w ≤ 2) : c_al d w 64 ≤ 861 ∧ (c_al d w 64 = 0 ↔ cn (poP d) 64 < w) ∧ (w = 1 → c_al d w 64 = cn (poP d) 64) ∧ (w = 2 → c_al d w 64 = cn (poP d) 64 * (cn (poP d) 64 - 1) / 2) := by
  have hc := cn42 hV
  rcases (by omega : w = 1 ∨ w = 2) with rfl | rfl
  · rw [c_al1]
    exact ⟨by omega, by omega, fun _ => rfl, fun h => by omega⟩
  · obtain ⟨pf, hpf⟩ : ∃ pf : Nat → Nat, ∀ q, q < 64 → poP d q = true → pf (cn (poP d) q) = q := by
      refine ⟨fun r => (ff (fun q => poP d q && decide (cn (poP d) q = r)) 64).elim 0 id, fun q hq hp => ?_⟩
      have h : ff (fun q' => poP d q' && decide (cn (poP d) q' = cn (poP d) q)) 64 = some q := by
        refine ff_is hq ?_ (fun b hb => ?_)
        · show (poP d q && decide (cn (poP d) q = cn (poP d) q)) = true
          rw [hp, decide_eq_true rfl]
          rfl
        · show (poP d b && decide (cn (poP d) b = cn (poP d) q)) = false
          cases hb2 : poP d b with
          | false => rfl
          | true =>
            have := cn_st hb hb2
            rw [decide_eq_false (by omega)]
            rfl
      show (ff (fun q' => poP d q' && decide (cn (poP d) q' = cn (poP d) q)) 64).elim 0 id = q
      rw [h]
      rfl
    rw [c_al2 hpf]
    generalize cn (poP d) 64 = cN at hc
    obtain ⟨t1, t2⟩ := c_tri cN (by omega)
    rw [t1]
    refine ⟨t2, ?_, fun h => by omega, fun _ => rfl⟩
    have : ∀ c, c < 43 → (c * (c - 1) / 2 = 0 ↔ c < 2) := by decide +kernel
    exact this cN (by omega)
theorem P_court {x y : Int32} (hC : AC M t tx n ea K S d0 s A kp A1 A2 Z) (hR : AR M u tx n ea K S d0 s A kp A1 A2 Z) (hV : SV tx n ea K S d0 s A kp A1 A2 Z) (htu : t + 44 ≤ u) : PS t u M (X5_court t x y) (X6_court u x y) := by
  have hd := hV.day
  have hn7 := hV.2.2.2.2.1.1
  have hV1 := hV.2.2.2.2.2.1
  have hc := cn42 hV1
  rcases inR_c (lo := 0) (hi := 2) (x := x) (by omega) (by omega) with ⟨h, w, _, hw, rfl⟩ | ⟨h, h2⟩
  · cases hy : inR 0 1 y with
    | false =>
      refine PS.ro (v := -1) hC hR hV htu ⟨M, ?_, Sc.rf⟩ (fun M1 hR1 => ⟨M1, ?_, ScR.rf⟩)
      · unfold X5_court
        rw [if_neg (nI_pos (by omega)), if_neg (show ¬ (2 : Int32) < nI w from nI_nlt (a := 2) hw (by omega)), X5_zo_s, hy, zz_call, if_neg (by decide)]
      · unfold X6_court
        rw [show X6_in (nI w).toInt64 0 2 M1 = _ from X6_in_s (lo := 0) (hi := 2), h, zz_call, if_neg (by decide), show X6_in y.toInt64 0 1 M1 = _ from X6_in_s (lo := 0) (hi := 1), hy, zz_call, if_neg (by decide)]
    | true =>
      by_cases hw0 : w = 0
      · subst hw0
        refine PS.ro (v := c_val (if o_left K s.2.1 s.2.2 = 0 then 1 else 0) 1 y) hC hR hV htu ?_ (fun M1 hR1 => ?_)
        · obtain ⟨M1, e1, hP1, hS1⟩ := X5_listDebts_s hC hV1
          obtain ⟨M2, e2, hS2⟩ := (hC.sc hS1).left hV
          have hb := o_left_le hV1 (by omega) hC.2.2.1
          refine ⟨M2, ?_, hS1.tr hS2⟩
          unfold X5_court X5_lotsThatFree X5_lotsInAll
          rw [if_neg (by decide), if_neg (by decide), X5_zo_s, hy, zz_call, if_pos (by decide), e1, zz_call, if_pos (nI_le (by omega) (by omega)), if_neg (by decide), e2, zz_call, asN01 hb, zz_call, if_neg (by decide), zz_call]
          have hg : ∀ g, g ≤ 1 → (s_call (X5_greatestDivisor (nI g) 1 M2) fun v50 M50 => if (1 : Int32) ≤ v50 then (if ¬ y = 0 then (s_div 1 v50 fun v77 => some (v77, M50)) else (s_div (nI g) v50 fun v77 => some (v77, M50))) else some ((-4 : Int32), M50)) = some (c_val g 1 y, M2) := by
            intro g hg
            rw [show X5_greatestDivisor (nI g) 1 M2 = _ from gd_s (b := 1) hg (by omega), zz_call, Nat.gcd_one_right, if_pos (by decide)]
            unfold c_val
            rw [if_neg (show ¬ (1 : Nat) = 0 by omega), Nat.gcd_one_right]
            by_cases h0 : y = 0
            · rw [if_neg (not_not_intro h0), if_pos h0, zz_div (by omega) (by omega) (by omega)]
            · rw [if_pos h0, if_neg h0]
              rfl
          exact hg _ (by split <;> omega)
        · obtain ⟨M2, e2, hS2⟩ := hR1.left hV
          have hb : o_left K s.2.1 s.2.2 ≤ 441 := o_left_le hV1 (by omega) hC.2.2.1
          refine ⟨M2, ?_, hS2⟩
          unfold X6_court
          rw [show X6_in (nI 0).toInt64 0 2 M1 = _ from X6_in_s (lo := 0) (hi := 2), h, zz_call, if_neg (by decide), show X6_in y.toInt64 0 1 M1 = _ from X6_in_s (lo := 0) (hi := 1), hy, zz_call, if_pos (by decide), if_neg (by decide), show X6_owedBehind u 0 M1 = _ from e2, zz_call]
          have h53 : ∀ g, g ≤ 1 → X6_court_53 u (nI 0) y FU 1 (nI g) 0 M2 = some (c_val g 1 y, M2) := by
            intro g hg
            rw [show FU = 99999 + 1 from rfl, X6_court_53, if_neg (by decide), if_pos (by decide), if_pos (by decide)]
            exact X6_court_169_s (al := 1) (by omega) hg (by omega)
          by_cases hz : o_left K s.2.1 s.2.2 = 0
          · rw [if_neg (not_not_intro (show nI (o_left K s.2.1 s.2.2) = 0 by rw [hz]; rfl)), if_pos hz]
            exact h53 1 (by omega)
          · rw [if_pos (nI_ne0 (by omega) (by omega)), if_neg hz]
            exact h53 0 (by omega)
      · have hw1 : 1 ≤ w := by omega
        obtain ⟨b1, b2', b3, b4⟩ := c_bound hV1 hw1 hw
        have hgl : c_go K s.2.1 s.2.2 w 64 ≤ c_al s.2.2 w 64 := c_go_le
        refine PS.ro (v := c_val (c_go K s.2.1 s.2.2 w 64) (c_al s.2.2 w 64) y) hC hR hV htu ?_ (fun M1 hR1 => ?_)
        · obtain ⟨M1, e1, hP1, hS1⟩ := X5_listDebts_s hC hV1
          unfold X5_court
          rw [if_neg (nI_pos (by omega)), if_neg (show ¬ (2 : Int32) < nI w from nI_nlt (a := 2) hw (by omega)), X5_zo_s, hy, zz_call, if_pos (by decide), e1, zz_call]
          by_cases hcw : w ≤ cn (poP s.2.2) 64
          · obtain ⟨M2, e2, hS2⟩ := lots_s (hC.sc hS1) hV hP1 rfl hw1 hw
            have hne : c_al s.2.2 w 64 ≠ 0 := fun h => by have := b2'.1 h; omega
            have hin : X5_lotsInAll (nI w) (nI (cn (poP s.2.2) 64)) M2 = some (nI (c_al s.2.2 w 64), M2) := by
              unfold X5_lotsInAll
              rw [if_pos (show ¬ nI w = 0 from nI_ne0 (by omega) (by omega))]
              rcases (by omega : w = 1 ∨ w = 2) with rfl | rfl
              · rw [if_neg (by decide), b3 rfl]
              · have hbig : cn (poP s.2.2) 64 * (cn (poP s.2.2) 64 - 1) ≤ 42 * 42 := Nat.mul_le_mul (by omega) (by omega)
                rw [if_pos (by decide), b4 rfl, nl1, pk_sub (by omega), pk_mul, nl2, zz_div (by omega) (by omega) (by omega)]
            have hgp : 1 ≤ Nat.gcd (c_go K s.2.1 s.2.2 w 64) (c_al s.2.2 w 64) := Nat.gcd_pos_of_pos_right _ (by omega)
            have hgle : Nat.gcd (c_go K s.2.1 s.2.2 w 64) (c_al s.2.2 w 64) ≤ c_al s.2.2 w 64 := Nat.gcd_le_right _ (by omega)
            refine ⟨M2, ?_, hS1.tr hS2⟩
            rw [if_pos (nI_le hcw (by omega)), e2, zz_call, hin, zz_call, gd_s hgl b1, zz_call, if_pos (show (1 : Int32) ≤ nI _ from nI_le (a := 1) hgp (by omega))]
            unfold c_val
            rw [if_neg hne]
            by_cases h0 : y = 0
            · rw [if_neg (not_not_intro h0), if_pos h0, zz_div (by omega) (by omega) (by omega)]
            · rw [if_pos h0, if_neg h0, zz_div (by omega) (by omega) (by omega)]
          · refine ⟨M1, ?_, hS1⟩
            rw [if_neg (nI_ge (by omega) (by omega))]
            unfold c_val
            rw [if_pos (b2'.2 (by omega))]
        · unfold X6_court
          rw [show X6_in (nI w).toInt64 0 2 M1 = _ from X6_in_s (lo := 0) (hi := 2), h, zz_call, if_neg (by decide), show X6_in y.toInt64 0 1 M1 = _ from X6_in_s (lo := 0) (hi := 1), hy, zz_call, if_pos (by decide), if_pos (show ¬ nI w = 0 from nI_ne0 (by omega) (by omega))]
          refine lp (S := Int32 × Int32 × Int32 × Mem) (fun f z => X6_court_53 u (nI w) y f z.1 z.2.1 z.2.2.1 z.2.2.2) (fun k z => z.1 = nI (c_al s.2.2 w k) ∧ z.2.1 = nI (c_go K s.2.1 s.2.2 w k) ∧ z.2.2.1 = nI k ∧ ScR u M1 z.2.2.2) (fun r => ∃ M2, r = some (c_val (c_go K s.2.1 s.2.2 w 64) (c_al s.2.2 w 64) y, M2) ∧ ScR u M1 M2) 64 ?_ ?_ 0 FU (nI 0, nI 0, nI 0, M1) (by omega) (FU_lt (by omega)) ⟨rfl, rfl, rfl, ScR.rf⟩
          · intro k f z hk ⟨e1, e2, e3, hS2⟩
            obtain ⟨y1, y2, y3, M2⟩ := z
            dsimp only at e1 e2 e3 hS2
            subst e1 e2 e3
            left
            have hR2 := hR1.sc hn7 hS2
            have ea : c_al s.2.2 w (k + 1) = c_al s.2.2 w k + if poP s.2.2 k = true then (if w = 1 then 1 else c_b2 s.2.2 k 64) else 0 := rfl
            have eg : c_go K s.2.1 s.2.2 w (k + 1) = c_go K s.2.1 s.2.2 w k + if poP s.2.2 k = true then (if w = 1 then frN K s.2.1 s.2.2 k k else c_a2 K s.2.1 s.2.2 k 64) else 0 := rfl
            rcases (by omega : w = 1 ∨ w = 2) with rfl | rfl
            · obtain ⟨M3, e3, hS3⟩ := court80_1 (x2 := y) (al := c_al s.2.2 1 k) (go := c_go K s.2.1 s.2.2 1 k) (k53 := X6_court_53 u (nI 1) y f) hR2 hV hk
              refine ⟨(nI (c_al s.2.2 1 (k + 1)), nI (c_go K s.2.1 s.2.2 1 (k + 1)), nI (k + 1), M3), ?_, rfl, rfl, rfl, hS2.tr hS3⟩
              show X6_court_53 u (nI 1) y (f + 1) _ _ (nI k) M2 = _
              rw [X6_court_53, if_neg (show ¬ (64 : Int32) ≤ nI k from nI_ge (b := 64) hk (by omega)), if_neg (by decide), if_neg (show ¬ ¬ nI 1 = (1 : Int32) from not_not_intro rfl), e3, ea, eg, if_pos rfl, if_pos rfl]
            · obtain ⟨M3, e3, hS3⟩ := court80_2 (x2 := y) (al := c_al s.2.2 2 k) (go := c_go K s.2.1 s.2.2 2 k) (k53 := X6_court_53 u (nI 2) y f) hR2 hV hk
              refine ⟨(nI (c_al s.2.2 2 (k + 1)), nI (c_go K s.2.1 s.2.2 2 (k + 1)), nI (k + 1), M3), ?_, rfl, rfl, rfl, hS2.tr hS3⟩
              show X6_court_53 u (nI 2) y (f + 1) _ _ (nI k) M2 = _
              rw [X6_court_53, if_neg (show ¬ (64 : Int32) ≤ nI k from nI_ge (b := 64) hk (by omega)), if_neg (by decide), if_pos (by decide), zz_let, nI_1, e3, ea, eg, if_neg (show ¬ (2 : Nat) = 1 by omega), if_neg (show ¬ (2 : Nat) = 1 by omega)]
          · intro f z ⟨e1, e2, e3, hS2⟩
            obtain ⟨y1, y2, y3, M2⟩ := z
            dsimp only at e1 e2 e3 hS2
            subst e1 e2 e3
            refine ⟨M2, ?_, hS2⟩
            show X6_court_53 u (nI w) y (f + 1) _ _ (nI 64) M2 = _
            rw [X6_court_53, if_pos (by decide)]
            by_cases hne : c_al s.2.2 w 64 = 0
            · rw [if_neg (not_not_intro (show nI (c_al s.2.2 w 64) = 0 by rw [hne]; rfl))]
              unfold c_val
              rw [if_pos hne]
            · rw [if_pos (show ¬ nI (c_al s.2.2 w 64) = 0 from nI_ne0 (by omega) (by omega))]
              exact X6_court_169_s hne hgl b1
  · refine PS.ro (v := -1) hC hR hV htu ⟨M, ?_, Sc.rf⟩ (fun M1 hR1 => ⟨M1, ?_, ScR.rf⟩)
    · unfold X5_court
      rcases h2 with h2 | h2
      · rw [if_pos (show x < 0 from h2)]
      · by_cases h3 : x < 0
        · rw [if_pos h3]
        · rw [if_neg h3, if_pos (show (2 : Int32) < x from h2)]
    · unfold X6_court
      rw [show X6_in x.toInt64 0 2 M1 = _ from X6_in_s (lo := 0) (hi := 2), h, zz_call, if_pos (by decide)]
end COURT3
