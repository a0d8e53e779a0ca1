section ITEMR
variable {M M' : Mem} {t u n ea kp i j c kind p w : Nat} {K S v : Nat → Nat} {d0 d : Dm} {s : Ts} {A A1 A2 : Al} {tx Z : Tx}
def PR (M : Mem) (u : Nat) (s : Pt) : Prop := M (u + 2) 1 = nI s.2.1 ∧ M (u + 6) 1 = nI s.2.2.1 ∧ (∀ i, i < s.2.1 → M (u + 3) (8 + i) = nI (s.2.2.2.1 i)) ∧ (∀ i, i < s.2.1 → M (u + 4) (8 + i) = nI (s.2.2.2.2.1 i)) ∧ (∀ i j, i < 8 → j < 8 → M (u + 5) (64 + 8 * i + j) = nI (s.2.2.2.2.2 i j))
theorem FrS.ScR (h : FrS u M M') : ScR u M M' := ⟨fun c hc => h.1 c (by omega) (by omega), h.2, by rw [h.1 _ (by omega) (by omega)], by rw [h.1 _ (by omega) (by omega)], fun k hk => ⟨by rw [h.1 _ (by omega) (by omega)], by rw [h.1 _ (by omega) (by omega)]⟩, fun k hk => ⟨by rw [h.1 _ (by omega) (by omega)], by rw [h.1 _ (by omega) (by omega)]⟩, by rw [h.1 _ (by omega) (by omega)], by rw [h.1 _ (by omega) (by omega)], by rw [h.1 _ (by omega) (by omega)]⟩
theorem PR.fr {s : Pt} (hP : PR M u s) (h : FrS u M M') : PR M' u s := by
  unfold PR
  rw [h.1 (u + 2) (by omega) (by omega), h.1 (u + 6) (by omega) (by omega), h.1 (u + 3) (by omega) (by omega), h.1 (u + 4) (by omega) (by omega), h.1 (u + 5) (by omega) (by omega)]
  exact hP
/-- a write into the reference's second place of its own -/
theorem ScR.wr {a k : Nat} {x : Int32} (h : (a = u + 2 ∧ k = 1) ∨ (a = u + 6 ∧ k = 1) ∨ ((a = u + 3 ∨ a = u + 4) ∧ 8 ≤ k) ∨ (a = u + 5 ∧ 64 ≤ k)) : ScR u M (me_upd M a k x) := by
  refine ⟨fun c hc => up_c (by omega), fun q hq => by rw [up_c (by omega)], ?_, ?_, fun q hq => ⟨?_, ?_⟩, fun q hq => ⟨?_, ?_⟩, by rw [up_c (by omega)], by rw [up_c (by omega)], by rw [up_c (by omega)]⟩
  · by_cases ha : a = u + 2
    · rw [up_j (by omega)]
    · rw [up_c (by omega)]
  · by_cases ha : a = u + 6
    · rw [up_j (by omega)]
    · rw [up_c (by omega)]
  · by_cases ha : a = u + 3
    · rw [up_j (by omega)]
    · rw [up_c (by omega)]
  · by_cases ha : a = u + 4
    · rw [up_j (by omega)]
    · rw [up_c (by omega)]
  · by_cases ha : a = u + 5
    · rw [up_j (by omega)]
    · rw [up_c (by omega)]
  · rw [up_c (by omega)]
theorem SP.wr {a k : Nat} {x : Int32} (h : SP M u tx p) (ha : u + 2 ≤ a) : SP (me_upd M a k x) u tx p := ⟨by rw [up_c (by omega)]; exact h.1, fun q hq => by rw [up_c (by omega)]; exact h.2.1 q hq, by rw [up_c (by omega)]; exact h.2.2⟩
theorem X6_item_s {s : Pt} (hS : SP M u tx s.1) (hx : tx_ok tx) (hT : PR M u s) (hp : p_ok s) (hs : s.1 < tx.1) :
    (pstep tx s = none ∧ ∃ M', X6_item u M = some (b2 false, M') ∧ ScR u M M') ∨ (∃ s' M', pstep tx s = some s' ∧ X6_item u M = some (b2 true, M') ∧ SP M' u tx s'.1 ∧ PR M' u s' ∧ ScR u M M') := by
  have h200 := hx.1
  have hb := chr_b hx s.1
  have hn7 := hp.1.1
  unfold X6_item pstep
  rw [hS.2.2, X6_letter_s hS hx (by omega), zz_call, hS.2.2, zz_put, nI_1]
  have g1 : SP (me_upd M u 14 (nI (s.1 + 1))) u tx (s.1 + 1) := hS.go
  have f1 : FrS u M (me_upd M u 14 (nI (s.1 + 1))) := FrS.sp
  generalize me_upd M u 14 (nI (s.1 + 1)) = M1 at g1 f1
  have rd : ∀ w, 1 ≤ w → w ≤ 3 → (nus tx w w (s.1 + 1) (fun _ => 0) = none ∧ ∃ M', X6_figures u (nI w) M1 = some (b2 false, M') ∧ FrS u M M') ∨ (∃ r M', nus tx w w (s.1 + 1) (fun _ => 0) = some r ∧ X6_figures u (nI w) M1 = some (b2 true, M') ∧ SP M' u tx r.1 ∧ (∀ i, i < w → M' (u + 12) i = nI (r.2 i)) ∧ FrS u M M' ∧ ∀ i, i < w → r.2 i ≤ 99) := by
    intro w hw1 hw3
    have hfig := X6_figs_s (u := u) hx hw1 hw3 w (s.1 + 1) (fun _ => 0) M1 FU (Nat.le_refl _) (by omega) (FU_lt (by omega)) g1 (fun i hi => by omega)
    rw [Nat.sub_self] at hfig
    rcases hfig with ⟨h1, M', h2, h3⟩ | ⟨r, M', h1, h2, h3, h4, h5⟩
    · exact Or.inl ⟨h1, M', h2, f1.tr h3⟩
    · refine Or.inr ⟨r, M', h1, h2, h3, h4, f1.tr h5, ?_⟩
      have hM0 : LT (fun a k => if a = 0 then nI tx.1 else nI (tx.2 k)) 0 tx := ⟨rfl, fun k hk => rfl⟩
      obtain ⟨_, _, _, hr⟩ := X3_readN_s (t := 2) (c := 0) hx hw1 hw3 (by omega) w (s.1 + 1) (fun _ => 0) (fun a k => if a = 0 then nI tx.1 else nI (tx.2 k)) FU (Nat.le_refl _) (by omega) (FU_lt (by omega)) hM0 (fun i hi => by omega)
      exact (hr r h1).2.2.2.2 (fun i hi => by omega)
  by_cases c1 : chr tx s.1 = 112
  · rw [if_pos c1, c1, if_neg (by decide), if_neg (by decide), if_pos (by rfl)]
    rcases rd 2 (by omega) (by omega) with ⟨en, M2, e2, f2⟩ | ⟨r, M2, en, e2, g2, d1, f2, d5⟩
    · left
      rw [en, show X6_figures u 2 M1 = _ from e2, zz_call, if_pos (by decide)]
      exact ⟨rfl, M2, zz_rz0, f2.ScR⟩
    · have v0 := d5 0 (by omega)
      have v1 := d5 1 (by omega)
      obtain ⟨t1, t2, t3, t4, t5⟩ := hT.fr f2
      rw [en, show X6_figures u 2 M1 = _ from e2, zz_call, if_neg (by decide), show (1 : Int32) = nI 1 from rfl, show (0 : Int32) = nI 0 from rfl, zz_ald (by omega) (by omega), t1, zz_ald (by omega) (by omega), d1 0 (by omega), zz_ald (by omega) (by omega), d1 1 (by omega), zz_ald (by omega) (by omega), d1 0 (by omega), zz_ald (by omega) (by omega), d1 1 (by omega)]
      show ((if r.2 0 < 4 ∧ r.2 1 < 4 ∧ s.2.1 < 7 then _ else none) = none ∧ _) ∨ (∃ s' M', (if r.2 0 < 4 ∧ r.2 1 < 4 ∧ s.2.1 < 7 then _ else none) = some s' ∧ _)
      by_cases hc : r.2 0 < 4 ∧ r.2 1 < 4 ∧ s.2.1 < 7
      · right
        generalize hM3 : me_upd (me_upd (me_upd M2 (u + 3) (8 + s.2.1) (nI (r.2 0))) (u + 4) (8 + s.2.1) (nI (r.2 1))) (u + 2) 1 (nI (s.2.1 + 1)) = M3
        have ea : X6_addPerson u (nI 1) (nI (r.2 0)) (nI (r.2 1)) M2 = some ((), M3) := by
          have q1 : me_upd M2 (u + 3) (8 + s.2.1) (nI (r.2 0)) (u + 2) 1 = nI s.2.1 := by rw [up_c (by omega)]; exact t1
          have q2 : me_upd (me_upd M2 (u + 3) (8 + s.2.1) (nI (r.2 0))) (u + 4) (8 + s.2.1) (nI (r.2 1)) (u + 2) 1 = nI s.2.1 := by rw [up_c (by omega)]; exact q1
          unfold X6_addPerson
          rw [zz_ald (by omega) (by omega), t1, show (8 : Int32) * nI 1 = nI 8 from rfl, nI_add, zz_ast (by omega) (by omega), zz_ald (by omega) (by omega), q1, nI_add, zz_ast (by omega) (by omega), zz_ald (by omega) (by omega), q2, nI_1, zz_ast (by omega) (by omega), hM3]
        rw [if_pos hc, if_neg (show ¬ nI s.2.1 = (7 : Int32) from fun e => by have := (nI_eq (a := s.2.1) (b := 7) (by omega) (by omega)).1 e; omega), if_neg (show ¬ (3 : Int32) < nI (r.2 0) from nI_nlt (a := 3) (by omega) (by omega)), if_pos (show nI (r.2 1) ≤ (3 : Int32) from nI_le (b := 3) (by omega) (by omega)), ea, zz_call]
        refine ⟨_, M3, rfl, zz_rz1, ?_, ⟨?_, ?_, fun i hi => ?_, fun i hi => ?_, ?_⟩, f2.ScR.tr ?_⟩
        · rw [← hM3]; exact ((g2.wr (by omega)).wr (by omega)).wr (by omega)
        · rw [← hM3]; exact up_s
        · rw [← hM3, up_c (by omega), up_c (by omega), up_c (by omega)]; exact t2
        · change i < s.2.1 + 1 at hi
          show _ = nI (nK s.2.2.2.1 s.2.1 (r.2 0) i)
          rw [← hM3, up_c (by omega), up_c (by omega)]
          unfold nK
          by_cases hz : i = s.2.1
          · rw [hz, up_s, if_pos rfl]
          · rw [up_j (by omega), if_neg hz]; exact t3 i (by omega)
        · change i < s.2.1 + 1 at hi
          show _ = nI (nK s.2.2.2.2.1 s.2.1 (r.2 1) i)
          rw [← hM3, up_c (by omega)]
          unfold nK
          by_cases hz : i = s.2.1
          · rw [hz, up_s, if_pos rfl]
          · rw [up_j (by omega), up_c (by omega), if_neg hz]; exact t4 i (by omega)
        · rw [← hM3, up_c (by omega), up_c (by omega), up_c (by omega)]; exact t5
        · rw [← hM3]
          exact ((ScR.wr (by omega)).tr (ScR.wr (by omega))).tr (ScR.wr (by omega))
      · left
        rw [if_neg hc]
        refine ⟨rfl, M2, ?_, f2.ScR⟩
        by_cases k0 : s.2.1 = 7
        · rw [if_pos (show nI s.2.1 = (7 : Int32) by rw [k0]; rfl)]; exact zz_rz0
        · rw [if_neg (show ¬ nI s.2.1 = (7 : Int32) from fun e => k0 ((nI_eq (b := 7) (by omega) (by omega)).1 e))]
          by_cases k1 : r.2 0 < 4
          · rw [if_neg (show ¬ (3 : Int32) < nI (r.2 0) from nI_nlt (a := 3) (by omega) (by omega)), if_neg (show ¬ nI (r.2 1) ≤ (3 : Int32) from nI_ge (a := 3) (by omega) (by omega))]; exact zz_rz0
          · rw [if_pos (show (3 : Int32) < nI (r.2 0) from nI_lt (a := 3) (by omega) (by omega))]; exact zz_rz0
  · rw [if_neg c1]
    by_cases c2 : chr tx s.1 = 111
    · rw [if_pos c2, c2, if_neg (by decide), if_pos (by rfl)]
      rcases rd 3 (by omega) (by omega) with ⟨en, M2, e2, f2⟩ | ⟨r, M2, en, e2, g2, d1, f2, d5⟩
      · left
        rw [en, show X6_figures u 3 M1 = _ from e2, zz_call, if_pos (by decide)]
        exact ⟨rfl, M2, zz_rz0, f2.ScR⟩
      · have v0 := d5 0 (by omega)
        have v1 := d5 1 (by omega)
        have v2 := d5 2 (by omega)
        obtain ⟨t1, t2, t3, t4, t5⟩ := hT.fr f2
        rw [en, show X6_figures u 3 M1 = _ from e2, zz_call, if_neg (by decide), show (1 : Int32) = nI 1 from rfl, show (0 : Int32) = nI 0 from rfl, show (2 : Int32) = nI 2 from rfl, zz_ald (by omega) (by omega), d1 0 (by omega), zz_ald (by omega) (by omega), t1, zz_ald (by omega) (by omega), d1 1 (by omega), zz_ald (by omega) (by omega), t1, zz_ald (by omega) (by omega), d1 0 (by omega), zz_ald (by omega) (by omega), d1 1 (by omega), zz_ald (by omega) (by omega), d1 2 (by omega), zz_ald (by omega) (by omega), d1 0 (by omega), zz_ald (by omega) (by omega), d1 1 (by omega), zz_ald (by omega) (by omega), d1 2 (by omega)]
        show ((if r.2 0 < s.2.1 ∧ r.2 1 < s.2.1 ∧ r.2 0 ≠ r.2 1 ∧ r.2 2 ≤ 9 then _ else none) = none ∧ _) ∨ (∃ s' M', (if r.2 0 < s.2.1 ∧ r.2 1 < s.2.1 ∧ r.2 0 ≠ r.2 1 ∧ r.2 2 ≤ 9 then _ else none) = some s' ∧ _)
        by_cases hc : r.2 0 < s.2.1 ∧ r.2 1 < s.2.1 ∧ r.2 0 ≠ r.2 1 ∧ r.2 2 ≤ 9
        · right
          rw [if_neg (nI_ge hc.1 (by omega)), if_neg (nI_ge hc.2.1 (by omega)), if_neg (fun e => hc.2.2.1 ((nI_eq (by omega) (by omega)).1 e)), if_pos (show nI (r.2 2) ≤ (9 : Int32) from nI_le (b := 9) hc.2.2.2 (by omega)), if_pos hc, show (8 : Int32) * nI (r.2 0) = nI (8 * r.2 0) from pk_mul 8 _, show (64 : Int32) + nI (8 * r.2 0) = nI (64 + 8 * r.2 0) from nI_add 64 _, nI_add, zz_ast (by omega) (by omega)]
          refine ⟨_, _, rfl, zz_rz1, g2.wr (by omega), ⟨?_, ?_, ?_, ?_, fun a b ha hb' => ?_⟩, f2.ScR.tr (ScR.wr (by omega))⟩
          · rw [up_c (by omega)]; exact t1
          · rw [up_c (by omega)]; exact t2
          · rw [up_c (by omega)]; exact t3
          · rw [up_c (by omega)]; exact t4
          · show _ = nI (d_up s.2.2.2.2.2 (r.2 0) (r.2 1) (r.2 2) a b)
            by_cases hz : a = r.2 0 ∧ b = r.2 1
            · rw [hz.1, hz.2, up_s, d_up_s]
            · rw [up_j (by omega), d_up_n (by omega)]; exact t5 a b ha hb'
        · left
          rw [if_neg hc]
          refine ⟨rfl, M2, ?_, f2.ScR⟩
          by_cases k1 : r.2 0 < s.2.1
          · rw [if_neg (nI_ge k1 (by omega))]
            by_cases k2 : r.2 1 < s.2.1
            · rw [if_neg (nI_ge k2 (by omega))]
              by_cases k3 : r.2 0 = r.2 1
              · rw [if_pos (by rw [k3])]; exact zz_rz0
              · rw [if_neg (fun e => k3 ((nI_eq (by omega) (by omega)).1 e)), if_neg (show ¬ nI (r.2 2) ≤ (9 : Int32) from nI_ge (a := 9) (by omega) (by omega))]; exact zz_rz0
            · rw [if_pos (nI_le (by omega) (by omega))]; exact zz_rz0
          · rw [if_pos (nI_le (by omega) (by omega))]; exact zz_rz0
    · rw [if_neg c2]
      by_cases c3 : chr tx s.1 = 101
      · rw [if_pos c3, c3, if_pos (by rfl)]
        rcases rd 1 (by omega) (by omega) with ⟨en, M2, e2, f2⟩ | ⟨r, M2, en, e2, g2, d1, f2, d5⟩
        · left
          rw [en, show X6_figures u 1 M1 = _ from e2, zz_call, if_pos (by decide)]
          exact ⟨rfl, M2, zz_rz0, f2.ScR⟩
        · have v0 := d5 0 (by omega)
          obtain ⟨t1, t2, t3, t4, t5⟩ := hT.fr f2
          rw [en, show X6_figures u 1 M1 = _ from e2, zz_call, if_neg (by decide), show (0 : Int32) = nI 0 from rfl, zz_ald (by omega) (by omega), d1 0 (by omega), show X6_in (nI (r.2 0)).toInt64 1 60 M2 = _ from X6_in_s (lo := 1) (hi := 60), zz_call, inR_n (by omega) (by omega) (by omega)]
          show ((if 1 ≤ r.2 0 ∧ r.2 0 ≤ 60 then _ else none) = none ∧ _) ∨ (∃ s' M', (if 1 ≤ r.2 0 ∧ r.2 0 ≤ 60 then _ else none) = some s' ∧ _)
          by_cases hc : 1 ≤ r.2 0 ∧ r.2 0 ≤ 60
          · right
            rw [if_pos hc, decide_eq_true hc.1, decide_eq_true hc.2, if_pos (by decide), zz_ald (by omega) (by omega), d1 0 (by omega), show (1 : Int32) = nI 1 from rfl, zz_ast (by omega) (by omega)]
            refine ⟨_, _, rfl, zz_rz1, g2.wr (by omega), ⟨?_, up_s, ?_, ?_, ?_⟩, f2.ScR.tr (ScR.wr (by omega))⟩
            · rw [up_c (by omega)]; exact t1
            · rw [up_c (by omega)]; exact t3
            · rw [up_c (by omega)]; exact t4
            · rw [up_c (by omega)]; exact t5
          · left
            have hf : (decide (1 ≤ r.2 0) && decide (r.2 0 ≤ 60)) = false := by
              by_cases k1 : 1 ≤ r.2 0
              · rw [decide_eq_true k1, decide_eq_false (fun h => hc ⟨k1, h⟩)]; rfl
              · rw [decide_eq_false k1]; rfl
            rw [if_neg hc, hf, if_neg (by decide)]
            exact ⟨rfl, M2, zz_rz0, f2.ScR⟩
      · left
        rw [if_neg c3]
        have n1 : ¬ nI (chr tx s.1) = (101 : Int32) := fun e => c3 ((nI_eq (b := 101) (by omega) (by omega)).1 e)
        have n2 : ¬ nI (chr tx s.1) = (111 : Int32) := fun e => c2 ((nI_eq (b := 111) (by omega) (by omega)).1 e)
        have n3 : ¬ nI (chr tx s.1) = (112 : Int32) := fun e => c1 ((nI_eq (b := 112) (by omega) (by omega)).1 e)
        rw [if_neg n1, if_neg n2, if_neg n3]
        exact ⟨rfl, M1, zz_rz0, f1.ScR⟩
end ITEMR
