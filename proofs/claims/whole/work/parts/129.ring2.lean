section RING2
variable {M M' : Mem} {t t1 u n ea kp i j c kind day al a b : Nat} {K S : Nat → Nat} {d0 d : Dm} {s : Ts} {A A1 A2 : Al} {tx Z : Tx} {R : Nat → Nat}
theorem P_ring {x y : Int32} (hC : AC M t tx n ea K S d0 s A kp A1 A2 Z) (hR : AR M u tx n ea K S d0 s A kp A1 A2 Z) (hV : SV tx n ea K S d0 s A kp A1 A2 Z) (htu : t + 44 ≤ u) : PS t u M (X5_ring t x y) (X6_ring u x y) := by
  have hn := hV.2.1
  have hn7 := hV.2.2.2.2.1.1
  have hV1 := hV.2.2.2.2.2.1
  rcases inR_c (lo := 0) (hi := n - 1) (x := x) (by omega) (by omega) with ⟨h, i, _, hi, rfl⟩ | ⟨h, _⟩
  · rcases inR_c (lo := 0) (hi := 1) (x := y) (by omega) (by omega) with ⟨h', w, _, hw, rfl⟩ | ⟨h', _⟩
    · obtain ⟨R, hRd⟩ : ∃ R : Nat → Nat, R = fun a => rB (fun b => decide (0 < s.2.2 a b)) n := ⟨_, rfl⟩
      have hR128 : ∀ i, i < n → R i < 128 := fun i _ => by rw [hRd]; exact rB_7 hn7
      have hD : ∀ j k, rgD s.2.2 R n i j = some k → j < 8 ∧ k < 8 := by
        intro j k h
        unfold rgD at h
        split at h
        · next hp =>
          have h1 := (ff_some h).1
          have h2 := (hV1.2.2.2.2 i j (Nat.ne_of_gt hp)).2.1
          omega
        · cases h
      have hbd := rgF_b hD
      refine PS.ro (v := if w = 0 then rga (-4) (rgF (rgD s.2.2 R n i) n) else rgb (rgF (rgD s.2.2 R n i) n)) hC hR hV htu ?_ (fun M1 hR1 => ?_)
      · obtain ⟨M1, e1, hL1, hF1⟩ := X4_linkDebts_s (t1 := t + 40) hC.2.2.1 hV1 (by omega)
        rw [← hRd] at hL1
        have hS1 : Sc t M M1 := fun c hc => hF1 c (by omega)
        have hC1 := hC.sc hS1
        refine ⟨M1, ?_, hS1⟩
        unfold X5_ring
        rw [X5_isPerson_s hC hn hn7, h, zz_call, if_neg (by decide), X5_zo_s, h', zz_call, if_pos (by decide), e1, zz_call]
        refine lp (S := Int32 × Int32 × Int32 × Mem) (fun f z => X5_ring_38 t (nI i) (nI w) f z.1 z.2.1 z.2.2.1 z.2.2.2) (fun k z => z = (rga (-4) (rgF (rgD s.2.2 R n i) k), rgb (rgF (rgD s.2.2 R n i) k), nI k, M1)) (fun r => r = some (if w = 0 then rga (-4) (rgF (rgD s.2.2 R n i) n) else rgb (rgF (rgD s.2.2 R n i) n), M1)) n ?_ ?_ 0 FU (-4, -4, nI 0, M1) (by omega) (FU_lt (by omega)) rfl
        · intro k f z hk e
          subst e
          left
          have er : rgF (rgD s.2.2 R n i) (k + 1) = rgS (rgD s.2.2 R n i k) k (rgF (rgD s.2.2 R n i) k) := rfl
          have hb := hbd k
          refine ⟨(rga (-4) (rgF (rgD s.2.2 R n i) (k + 1)), rgb (rgF (rgD s.2.2 R n i) (k + 1)), nI (k + 1), M1), ?_, rfl⟩
          generalize rgF (rgD s.2.2 R n i) k = acc at er hb
          show X5_ring_38 t (nI i) (nI w) (f + 1) (rga (-4) acc) (rgb acc) (nI k) M1 = X5_ring_38 t (nI i) (nI w) f (rga (-4) (rgF (rgD s.2.2 R n i) (k + 1))) (rgb (rgF (rgD s.2.2 R n i) (k + 1))) (nI (k + 1)) M1
          have hlk : (R i).testBit k = decide (0 < s.2.2 i k) := by rw [hRd]; show (rB (fun b => decide (0 < s.2.2 i b)) n).testBit k = _; rw [rB_bit, decide_eq_true hk, Bool.true_and]
          rw [X5_ring_38]
          unfold X4_persons
          rw [zz_call, hC1.2.2.1.1, if_neg (nI_ge hk (by omega)), X2_areLinked_s hL1 (by omega) (hR128 i (by omega)) (by omega), hlk, zz_call, er]
          by_cases hp : 0 < s.2.2 i k
          · have eD : rgD s.2.2 R n i k = ff (fun q => (Wk R n k q).testBit i) n := if_pos hp
            have hDb := hD k
            rw [eD] at hDb
            rw [decide_eq_true hp, if_neg (by decide), X2_steps_s hL1 hR128 hn7 (by omega) (by omega), zz_call, eD]
            generalize ff (fun q => (Wk R n k q).testBit i) n = dd at hDb
            unfold X5_ring_78
            cases dd with
            | none => rw [if_pos (by rfl), nI_1]; rfl
            | some q =>
              have hq8 := (hDb q rfl).2
              rw [fI_s, if_neg (neg4 (by omega)), nI_1, nI_1]
              cases acc with
              | none => rw [if_pos (by rfl), zz_let]; rfl
              | some p =>
                obtain ⟨b1, b2'⟩ := hb p rfl
                rw [rga_s, if_neg (neg4 (by omega))]
                by_cases hl : q + 1 < p.1
                · have ef : rgS (some q) k (some p) = some (q + 1, k) := if_pos hl
                  rw [ef, if_neg (nI_ge hl (by omega)), zz_let]
                  rfl
                · have ef : rgS (some q) k (some p) = some p := if_neg hl
                  rw [ef, if_pos (nI_le (by omega) (by omega))]
                  rfl
          · have eD : rgD s.2.2 R n i k = none := if_neg hp
            rw [decide_eq_false hp, if_pos (by decide), eD]
            unfold X5_ring_78
            rw [if_pos rfl, nI_1]
            rfl
        · intro f z e
          subst e
          show X5_ring_38 t (nI i) (nI w) (f + 1) _ _ (nI n) M1 = _
          rw [X5_ring_38]
          unfold X4_persons
          rw [zz_call, hC1.2.2.1.1, if_pos (nI_le (Nat.le_refl _) (by omega))]
          by_cases h0 : w = 0
          · rw [if_neg (not_not_intro (show nI w = 0 by rw [h0]; rfl)), if_pos h0]
          · rw [if_pos (show ¬ nI w = 0 from nI_ne0 (by omega) (by omega)), if_neg h0]
      · obtain ⟨M2, g, e2, hg1, hg2, hg3, hg4⟩ := X6_layFar_s hR1.2.2.2.2.1 hV1 (show i < n by omega)
        have hS2 : ScR u M1 M2 := by
          refine ⟨fun c hc => hg4 c (by omega), fun k hk => by rw [hg4 u (by omega)], by rw [hg4 _ (by omega)], by rw [hg4 _ (by omega)], fun k hk => ⟨by rw [hg4 _ (by omega)], by rw [hg4 _ (by omega)]⟩, fun k hk => ⟨by rw [hg4 _ (by omega)], by rw [hg4 _ (by omega)]⟩, by rw [hg4 _ (by omega)], by rw [hg4 _ (by omega)], by rw [hg4 _ (by omega)]⟩
        have hR2 := hR1.sc hn7 hS2
        refine ⟨M2, ?_, hS2⟩
        have e8 : rgF (rgD s.2.2 R n i) n = rgF (rgD s.2.2 R n i) 8 := by
          unfold rgF
          rw [show 8 = n + (8 - n) by omega]
          refine (fo_stop _ _ (fun q z h1 h2 => ?_)).symm
          have : rgD s.2.2 R n i q = none := if_neg (by rw [d_zero hV1 (Or.inr h1)]; omega)
          rw [this]
          rfl
        rw [e8]
        unfold X6_ring
        rw [X6_isPerson_s hR1 hn hn7, h, zz_call, if_neg (by decide), show X6_in (nI w).toInt64 0 1 M1 = _ from X6_in_s (lo := 0) (hi := 1), h', zz_call, if_pos (by decide), e2, zz_call]
        refine lp (S := Int32 × Int32 × Int32 × Mem) (fun f z => X6_ring_35 u (nI i) (nI w) f z.1 z.2.1 z.2.2.1 z.2.2.2) (fun k z => z = (rga 99 (rgF (rgD s.2.2 R n i) k), rgb (rgF (rgD s.2.2 R n i) k), nI k, M2)) (fun r => r = some (if w = 0 then rga (-4) (rgF (rgD s.2.2 R n i) 8) else rgb (rgF (rgD s.2.2 R n i) 8), M2)) 8 ?_ ?_ 0 FU (99, -4, nI 0, M2) (by omega) (FU_lt (by omega)) rfl
        · intro k f z hk e
          subst e
          left
          have er : rgF (rgD s.2.2 R n i) (k + 1) = rgS (rgD s.2.2 R n i k) k (rgF (rgD s.2.2 R n i) k) := rfl
          have hb := hbd k
          refine ⟨(rga 99 (rgF (rgD s.2.2 R n i) (k + 1)), rgb (rgF (rgD s.2.2 R n i) (k + 1)), nI (k + 1), M2), ?_, rfl⟩
          generalize rgF (rgD s.2.2 R n i) k = acc at er hb
          have q9 := hV1.2.2.2.1 i k
          show X6_ring_35 u (nI i) (nI w) (f + 1) (rga 99 acc) (rgb acc) (nI k) M2 = X6_ring_35 u (nI i) (nI w) f (rga 99 (rgF (rgD s.2.2 R n i) (k + 1))) (rgb (rgF (rgD s.2.2 R n i) (k + 1))) (nI (k + 1)) M2
          rw [X6_ring_35, if_neg (show ¬ (8 : Int32) ≤ nI k from nI_ge (b := 8) hk (by omega)), show X6_debt u 0 (nI i) (nI k) M2 = _ from X6_debt_s (b := 0) hR2.2.2.2.2.1 (by omega) (by omega) hk, zz_call, er, nI_1]
          by_cases hp : 0 < s.2.2 i k
          · have hkn := (hV1.2.2.2.2 i k (Nat.ne_of_gt hp)).2.1
            have eD : rgD s.2.2 R n i k = ff (fun q => (Wk R n k q).testBit i) n := if_pos hp
            have hDb := hD k
            rw [eD] at hDb
            have hfe := far_eq hV1 hRd hg2 hg3 hkn
            rw [if_neg (nI_nle hp (by omega)), zz_ald (by omega) (by omega), hg1 k hk, hfe, eD, nI_1]
            generalize ff (fun q => (Wk R n k q).testBit i) n = dd at hDb hfe
            cases dd with
            | none =>
              rw [if_pos]
              · rfl
              · cases acc with
                | none => exact (by decide : (99 : Int32) ≤ nI 100)
                | some p =>
                  obtain ⟨b1, b2'⟩ := hb p rfl
                  exact nI_le (a := p.1) (b := 100) (by omega) (by omega)
            | some q =>
              have hq8 := (hDb q rfl).2
              show (if rga 99 acc ≤ nI (q + 1) then _ else _) = _
              cases acc with
              | none =>
                rw [rga_n, if_neg (show ¬ (99 : Int32) ≤ nI (q + 1) from nI_ge (b := 99) (by omega) (by omega)), zz_ald (by omega) (by omega), hg1 k hk, hfe, zz_let, nI_1]
                rfl
              | some p =>
                obtain ⟨b1, b2'⟩ := hb p rfl
                rw [rga_s]
                by_cases hl : q + 1 < p.1
                · have ef : rgS (some q) k (some p) = some (q + 1, k) := if_pos hl
                  rw [ef, if_neg (nI_ge hl (by omega)), zz_ald (by omega) (by omega), hg1 k hk, hfe, zz_let, nI_1]
                  rfl
                · have ef : rgS (some q) k (some p) = some p := if_neg hl
                  rw [ef, if_pos (nI_le (by omega) (by omega))]
                  rfl
          · have eD : rgD s.2.2 R n i k = none := if_neg hp
            rw [if_pos (show nI (s.2.2 i k) ≤ 0 from nI_le (b := 0) (by omega) (by omega)), eD]
            rfl
        · intro f z e
          subst e
          show X6_ring_35 u (nI i) (nI w) (f + 1) _ _ (nI 8) M2 = _
          rw [X6_ring_35, if_pos (by decide)]
          have hb := hbd 8
          generalize rgF (rgD s.2.2 R n i) 8 = acc at hb
          cases acc with
          | none =>
            rw [if_pos (show rgb none < 0 from by decide)]
            by_cases h0 : w = 0
            · rw [if_pos h0]; rfl
            · rw [if_neg h0]
          | some p =>
            obtain ⟨b1, b2'⟩ := hb p rfl
            rw [rgb_s, rga_s, rga_s, if_neg (nI_pos (by omega))]
            rcases (by omega : w = 0 ∨ w = 1) with rfl | rfl
            · rw [if_pos (by decide), if_pos rfl]
            · rw [if_neg (by decide), if_neg (by omega)]
    · refine PS.ro (v := -1) hC hR hV htu ⟨M, ?_, Sc.rf⟩ (fun M1 hR1 => ⟨M1, ?_, ScR.rf⟩)
      · unfold X5_ring
        rw [X5_isPerson_s hC hn hn7, h, zz_call, if_neg (by decide), X5_zo_s, h', zz_call, if_neg (by decide)]
      · unfold X6_ring
        rw [X6_isPerson_s hR1 hn hn7, h, zz_call, if_neg (by decide), show X6_in y.toInt64 0 1 M1 = _ from X6_in_s (lo := 0) (hi := 1), h', zz_call, if_neg (by decide)]
  · refine PS.ro (v := -1) hC hR hV htu ⟨M, ?_, Sc.rf⟩ (fun M1 hR1 => ⟨M1, ?_, ScR.rf⟩)
    · unfold X5_ring
      rw [X5_isPerson_s hC hn hn7, h, zz_call, if_pos (by decide)]
    · unfold X6_ring
      rw [X6_isPerson_s hR1 hn hn7, h, zz_call, if_pos (by decide)]
end RING2
