/-! ===== fault, lay ===== -/
def p_in : Pt := (0, 0, 40, (fun _ => 0), (fun _ => 0), (fun _ _ => 0))
section LAY
variable {M M' : Mem} {t u n ea kp i j c kind p w : Nat} {K S v : Nat → Nat} {d0 d : Dm} {s : Ts} {A A1 A2 : Al} {tx Z : Tx}
theorem p_in_ok : p_ok p_in := ⟨⟨by show 0 ≤ 7; omega, (by decide : 2 ^ 0 - 1 < 2 ^ 0), fun i hi => absurd hi (Nat.not_lt_zero _), fun i j => by show 0 ≤ 9; omega, fun i j h => absurd rfl h⟩, by show 40 ≤ 60; omega, fun i hi => absurd hi (Nat.not_lt_zero _)⟩
theorem pr_ok (hx : tx_ok tx) : ∀ f s, p_ok s → p_ok (pr tx f s).2 := by
  intro f
  induction f with
  | zero => intro s h; exact h
  | succ f ih =>
    intro s h
    show p_ok (if tx.1 ≤ s.1 then ((-4 : Int32), s) else (pstep tx s).elim (nI s.1, s) (fun s' => pr tx f s')).2
    split
    · exact h
    · cases e : pstep tx s with
      | none => exact h
      | some s' => exact ih s' (pstep_ok hx h e)
theorem X3_readTown_s (hC : AC M t tx n ea K S d0 s A kp A1 A2 Z) (hx : tx_ok tx) :
    ∃ M', X3_readTown (t + 3) (t + 1) (t + 23) M = some ((pr tx 201 p_in).1, M') ∧ Sc t M M' ∧ ((pr tx 201 p_in).1 = -4 → TP M' (t + 23) (pr tx 201 p_in).2) := by
  have h200 := hx.1
  obtain ⟨M1, e1, hT1, hF1⟩ := X4_clear_s (M := M) (t := t + 23) (K := fun _ => 0) (S := fun _ => 0)
  unfold X3_readTown
  rw [e1, zz_call]
  refine lp (S := Int32 × Int32 × Mem) (fun f z => X3_readTown_9 (t + 3) (t + 1) (t + 23) f z.1 z.2.1 z.2.2) (fun k z => ∃ s : Pt, z.1 = nI s.1 ∧ z.2.1 = nI k ∧ TP z.2.2 (t + 23) s ∧ p_ok s ∧ k ≤ s.1 ∧ s.1 ≤ 200 ∧ pr tx 201 p_in = pr tx (201 - k) s ∧ Sc t M z.2.2)
    (fun r => ∃ M', r = some ((pr tx 201 p_in).1, M') ∧ Sc t M M' ∧ ((pr tx 201 p_in).1 = -4 → TP M' (t + 23) (pr tx 201 p_in).2)) 200 ?_ ?_ 0 FU (nI 0, nI 0, M1) (by omega) (FU_lt (by omega)) ⟨p_in, rfl, rfl, hT1, p_in_ok, by omega, by show 0 ≤ 200; omega, rfl, Sc.tri hF1⟩
  · intro k f z hk ⟨s, e1, e2, hT2, hp2, hk2, hs2, hpr, hS2⟩
    obtain ⟨x, y, M2⟩ := z
    dsimp only at e1 e2 hT2 hS2
    subst e1 e2
    have hC2 := hC.sc hS2
    have hL2 : LT M2 (t + 1) tx := hC2.1
    have epr : pr tx (201 - k) s = if tx.1 ≤ s.1 then ((-4 : Int32), s) else (pstep tx s).elim (nI s.1, s) (fun s' => pr tx (200 - k) s') := by
      rw [show 201 - k = (200 - k) + 1 by omega]
      rfl
    show (∃ s', X3_readTown_9 (t + 3) (t + 1) (t + 23) (f + 1) (nI s.1) (nI k) M2 = _ ∧ _) ∨ (∃ M', X3_readTown_9 (t + 3) (t + 1) (t + 23) (f + 1) (nI s.1) (nI k) M2 = _ ∧ _)
    rw [X3_readTown_9, if_neg (show ¬ (200 : Int32) ≤ nI k from nI_ge (b := 200) hk (by omega))]
    unfold X1_length
    rw [zz_call, hL2.1]
    by_cases hl : tx.1 ≤ s.1
    · right
      rw [if_pos hl] at epr
      rw [if_pos (nI_le hl (by omega)), hpr, epr]
      exact ⟨M2, rfl, hS2, fun _ => hT2⟩
    · rw [if_neg hl] at epr
      rw [if_neg (nI_ge (by omega) (by omega))]
      rcases X3_item_s (t := t + 3) (q := t + 23) hL2 hx hT2 hp2 (by omega) (by omega) (by omega) with ⟨en, M3, e3, hF3⟩ | ⟨s', M3, en, e3, hT3, hlt, hle, hF3⟩
      · right
        rw [en] at epr
        rw [e3, zz_call, if_neg (by decide), hpr, epr]
        refine ⟨M3, rfl, hS2.tr (fun c hc => hF3 c (by omega)), fun h => ?_⟩
        exact absurd h (neg4 (by omega))
      · left
        rw [en] at epr
        rw [e3, zz_call, if_pos (neg1 (by omega)), nI_1]
        exact ⟨(nI s'.1, nI (k + 1), M3), rfl, s', rfl, rfl, hT3, pstep_ok hx hp2 en, by omega, by omega, by rw [hpr, epr, show 201 - (k + 1) = 200 - k by omega]; rfl, hS2.tr (fun c hc => hF3 c (by omega))⟩
  · intro f z ⟨s, e1, e2, hT2, hp2, hk2, hs2, hpr, hS2⟩
    obtain ⟨x, y, M2⟩ := z
    dsimp only at e1 e2 hT2 hS2
    subst e1 e2
    have epr : pr tx (201 - 200) s = ((-4 : Int32), s) := if_pos (by omega)
    rw [hpr, epr]
    refine ⟨M2, ?_, hS2, fun _ => hT2⟩
    show X3_readTown_9 (t + 3) (t + 1) (t + 23) (f + 1) (nI s.1) (nI 200) M2 = _
    rw [X3_readTown_9, if_pos (by decide)]
theorem X6_noTown_s : ∃ M', X6_noTown u (nI 1) M = some ((), M') ∧ PR M' u p_in ∧ ScR u M M' := by
  unfold X6_noTown
  rw [zz_ast (by omega) (by omega), zz_ast (by omega) (by omega)]
  have hS0 : ScR u M (me_upd (me_upd M (u + 2) 1 0) (u + 6) 1 40) := (ScR.wr (by omega)).tr (ScR.wr (by omega))
  refine lp (S := Int32 × Mem) (fun f z => X6_noTown_17 u (nI 1) f z.1 z.2) (fun k z => z.1 = nI k ∧ z.2 (u + 2) 1 = nI 0 ∧ z.2 (u + 6) 1 = nI 40 ∧ (∀ q, q < k → z.2 (u + 5) (64 + q) = nI 0) ∧ ScR u M z.2) (fun r => ∃ M', r = some ((), M') ∧ PR M' u p_in ∧ ScR u M M') 64 ?_ ?_ 0 FU (nI 0, me_upd (me_upd M (u + 2) 1 0) (u + 6) 1 40) (by omega) (FU_lt (by omega)) ⟨rfl, by dsimp only; rw [up_c (by omega), up_s]; rfl, by dsimp only; rw [up_s]; rfl, fun q hq => by omega, hS0⟩
  · intro k f z hk ⟨e1, h2, h6, h5, hS2⟩
    obtain ⟨x, M2⟩ := z
    dsimp only at e1 h2 h6 h5 hS2
    subst e1
    left
    refine ⟨(nI (k + 1), me_upd M2 (u + 5) (64 + k) (nI 0)), ?_, rfl, by dsimp only; rw [up_c (by omega)]; exact h2, by dsimp only; rw [up_c (by omega)]; exact h6, fun q hq => ?_, hS2.tr (ScR.wr (by omega))⟩
    · show X6_noTown_17 u (nI 1) (f + 1) (nI k) M2 = _
      rw [X6_noTown_17, if_neg (show ¬ (64 : Int32) ≤ nI k from nI_ge (b := 64) hk (by omega)), show (64 : Int32) * nI 1 = nI 64 from rfl, nI_add, zz_ast (by omega) (by omega), nI_1]
      rfl
    · dsimp only
      by_cases hz : q = k
      · rw [hz, up_s]
      · rw [up_j (by omega)]; exact h5 q (by omega)
  · intro f z ⟨e1, h2, h6, h5, hS2⟩
    obtain ⟨x, M2⟩ := z
    dsimp only at e1 h2 h6 h5 hS2
    subst e1
    refine ⟨M2, ?_, ⟨h2, h6, fun i hi => absurd hi (Nat.not_lt_zero _), fun i hi => absurd hi (Nat.not_lt_zero _), fun i j hi hj => ?_⟩, hS2⟩
    · show X6_noTown_17 u (nI 1) (f + 1) (nI 64) M2 = _
      rw [X6_noTown_17, if_pos (by decide)]
    · rw [Nat.add_assoc]
      exact h5 _ (by omega)
theorem X6_readAll_s (hR : AR M u tx n ea K S d0 s A kp A1 A2 Z) (hn7 : n ≤ 7) (hx : tx_ok tx) :
    ∃ M', X6_readAll u M = some ((pr tx 201 p_in).1, M') ∧ ScR u M M' ∧ ((pr tx 201 p_in).1 = -4 → PR M' u (pr tx 201 p_in).2) := by
  have h200 := hx.1
  obtain ⟨M1, e1, hP1, hS1⟩ := X6_noTown_s (M := M) (u := u)
  unfold X6_readAll
  rw [show X6_noTown u 1 M = _ from e1, zz_call, zz_put]
  have hR1 := hR.sc hn7 hS1
  have hSP : SP (me_upd M1 u 14 (nI 0)) u tx 0 := ⟨by rw [up_j (by omega)]; exact hR1.1.1, fun k hk => by rw [up_c (by omega)]; exact hR1.1.2 k hk, up_s⟩
  refine lp (S := Mem) (fun f z => X6_readAll_10 u f z) (fun k z => ∃ s : Pt, SP z u tx s.1 ∧ PR z u s ∧ p_ok s ∧ k ≤ s.1 ∧ s.1 ≤ 200 ∧ pr tx 201 p_in = pr tx (201 - k) s ∧ ScR u M z)
    (fun r => ∃ M', r = some ((pr tx 201 p_in).1, M') ∧ ScR u M M' ∧ ((pr tx 201 p_in).1 = -4 → PR M' u (pr tx 201 p_in).2)) 200 ?_ ?_ 0 FU (me_upd M1 u 14 (nI 0)) (by omega) (FU_lt (by omega)) ⟨p_in, hSP, hP1.fr FrS.sp, p_in_ok, by omega, by show 0 ≤ 200; omega, rfl, hS1.tr FrS.sp.ScR⟩
  · intro k f M2 hk ⟨s, g2, hT2, hp2, hk2, hs2, hpr, hS2⟩
    have epr : pr tx (201 - k) s = if tx.1 ≤ s.1 then ((-4 : Int32), s) else (pstep tx s).elim (nI s.1, s) (fun s' => pr tx (200 - k) s') := by
      rw [show 201 - k = (200 - k) + 1 by omega]
      rfl
    show (∃ s', X6_readAll_10 u (f + 1) M2 = _ ∧ _) ∨ (∃ M', X6_readAll_10 u (f + 1) M2 = _ ∧ _)
    rw [X6_readAll_10, g2.1, g2.2.2]
    by_cases hl : tx.1 ≤ s.1
    · right
      rw [if_pos hl] at epr
      rw [if_pos (nI_le hl (by omega)), hpr, epr]
      exact ⟨M2, rfl, hS2, fun _ => hT2⟩
    · rw [if_neg hl] at epr
      rw [if_neg (nI_ge (by omega) (by omega)), zz_let]
      rcases X6_item_s g2 hx hT2 hp2 (by omega) with ⟨en, M3, e3, hF3⟩ | ⟨s', M3, en, e3, g3, hT3, hF3⟩
      · right
        rw [en] at epr
        rw [e3, zz_call, if_neg (by decide), hpr, epr]
        refine ⟨M3, rfl, hS2.tr hF3, fun h => ?_⟩
        exact absurd h (neg4 (by omega))
      · left
        have hlt : s.1 < s'.1 ∧ s'.1 ≤ tx.1 := by
          have hM0 : LT (fun a k => if a = 0 then nI tx.1 else nI (tx.2 k)) 0 tx := ⟨rfl, fun k hk => rfl⟩
          have nn : ∀ w r, 1 ≤ w → w ≤ 3 → nus tx w w (s.1 + 1) (fun _ => 0) = some r → s.1 < r.1 ∧ r.1 ≤ tx.1 := by
            intro w r hw1 hw3 hr
            obtain ⟨_, _, _, hh⟩ := X3_readN_s (t := 2) (c := 0) hx hw1 hw3 (by omega) w (s.1 + 1) (fun _ => 0) (fun a k => if a = 0 then nI tx.1 else nI (tx.2 k)) FU (Nat.le_refl _) (by omega) (FU_lt (by omega)) hM0 (fun i hi => by omega)
            obtain ⟨_, d2, d3, d4, _⟩ := hh r hr
            have := d3 (by omega)
            omega
          unfold pstep at en
          by_cases c1 : chr tx s.1 = 112
          · rw [if_pos c1] at en
            cases e : nus tx 2 2 (s.1 + 1) (fun _ => 0) with
            | none => rw [e] at en; cases en
            | some r =>
              rw [e] at en
              change (if r.2 0 < 4 ∧ r.2 1 < 4 ∧ s.2.1 < 7 then _ else _) = some s' at en
              split at en
              · cases en; exact nn 2 r (by omega) (by omega) e
              · cases en
          · rw [if_neg c1] at en
            by_cases c2 : chr tx s.1 = 111
            · rw [if_pos c2] at en
              cases e : nus tx 3 3 (s.1 + 1) (fun _ => 0) with
              | none => rw [e] at en; cases en
              | some r =>
                rw [e] at en
                change (if r.2 0 < s.2.1 ∧ r.2 1 < s.2.1 ∧ r.2 0 ≠ r.2 1 ∧ r.2 2 ≤ 9 then _ else _) = some s' at en
                split at en
                · cases en; exact nn 3 r (by omega) (by omega) e
                · cases en
            · rw [if_neg c2] at en
              by_cases c3 : chr tx s.1 = 101
              · rw [if_pos c3] at en
                cases e : nus tx 1 1 (s.1 + 1) (fun _ => 0) with
                | none => rw [e] at en; cases en
                | some r =>
                  rw [e] at en
                  change (if 1 ≤ r.2 0 ∧ r.2 0 ≤ 60 then _ else _) = some s' at en
                  split at en
                  · cases en; exact nn 1 r (by omega) (by omega) e
                  · cases en
              · rw [if_neg c3] at en
                cases en
        rw [en] at epr
        rw [e3, zz_call, if_pos (by decide)]
        exact ⟨M3, rfl, s', g3, hT3, pstep_ok hx hp2 en, by omega, by omega, by rw [hpr, epr, show 201 - (k + 1) = 200 - k by omega]; rfl, hS2.tr hF3⟩
  · intro f M2 ⟨s, g2, hT2, hp2, hk2, hs2, hpr, hS2⟩
    have epr : pr tx (201 - 200) s = ((-4 : Int32), s) := if_pos (by omega)
    rw [hpr, epr]
    refine ⟨M2, ?_, hS2, fun _ => hT2⟩
    show X6_readAll_10 u (f + 1) M2 = _
    rw [X6_readAll_10, g2.1, g2.2.2, if_pos (nI_le (by omega) (by omega))]
theorem P_fault (hC : AC M t tx n ea K S d0 s A kp A1 A2 Z) (hR : AR M u tx n ea K S d0 s A kp A1 A2 Z) (hV : SV tx n ea K S d0 s A kp A1 A2 Z) (htu : t + 44 ≤ u) : PS t u M (X5_fault t) (X6_fault u) := by
  refine PS.ro (v := (pr tx 201 p_in).1) hC hR hV htu ?_ (fun M1 hR1 => ?_)
  · obtain ⟨M1, e1, hS1, _⟩ := X3_readTown_s hC hV.1
    refine ⟨M1, ?_, hS1⟩
    unfold X5_fault
    rw [e1, zz_call]
  · obtain ⟨M2, e2, hS2, _⟩ := X6_readAll_s hR1 hV.2.2.2.2.1.1 hV.1
    refine ⟨M2, ?_, hS2⟩
    unfold X6_fault
    rw [e2, zz_call]
end LAY
