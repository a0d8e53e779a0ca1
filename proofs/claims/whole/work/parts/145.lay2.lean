/-! ===== lay ===== -/
section LAY2
variable {M M' : Mem} {t u n ea kp i j c kind p w : Nat} {K S v : Nat → Nat} {d0 d : Dm} {s : Ts} {A A1 A2 : Al} {tx Z : Tx}
theorem X6_lay91_s : ∃ M', X6_lay_91 u FU (nI 0) M = (s_ast M' (u + 7) 3 (0 : Int32) (0 : Int32) fun M124 => s_put M124 u 11 (0 : Int32) fun M127 => s_put M127 u 12 (0 : Int32) fun M132 => s_call (X6_begin u M132) fun _ M136 => s_ald M136 (u + 2) 2 (0 : Int32) fun v144 => some (v144, M136)) ∧ (∀ q, q < 64 → M' (u + 5) q = M (u + 5) (64 + q)) ∧ Fr (u + 5) (u + 6) M M' := by
  refine lp (S := Int32 × Mem) (fun f z => X6_lay_91 u f z.1 z.2) (fun k z => z.1 = nI k ∧ (∀ q, q < k → z.2 (u + 5) q = M (u + 5) (64 + q)) ∧ (∀ q, z.2 (u + 5) (64 + q) = M (u + 5) (64 + q)) ∧ Fr (u + 5) (u + 6) M z.2)
    (fun r => ∃ M', r = (s_ast M' (u + 7) 3 (0 : Int32) (0 : Int32) fun M124 => s_put M124 u 11 (0 : Int32) fun M127 => s_put M127 u 12 (0 : Int32) fun M132 => s_call (X6_begin u M132) fun _ M136 => s_ald M136 (u + 2) 2 (0 : Int32) fun v144 => some (v144, M136)) ∧ (∀ q, q < 64 → M' (u + 5) q = M (u + 5) (64 + q)) ∧ Fr (u + 5) (u + 6) M M') 64 ?_ ?_ 0 FU (nI 0, M) (by omega) (FU_lt (by omega)) ⟨rfl, fun q hq => by omega, fun q => rfl, Fr.rf⟩
  · intro k f z hk ⟨e1, h1, h2, hF⟩
    obtain ⟨x, M2⟩ := z
    dsimp only at e1 h1 h2 hF
    subst e1
    left
    refine ⟨(nI (k + 1), me_upd M2 (u + 5) k (M (u + 5) (64 + k))), ?_, rfl, fun q hq => ?_, fun q => by dsimp only; rw [up_j (by omega)]; exact h2 q, hF.tr (Fr.up (by omega) (by omega))⟩
    · show X6_lay_91 u (f + 1) (nI k) M2 = _
      rw [X6_lay_91, if_neg (show ¬ (64 : Int32) ≤ nI k from nI_ge (b := 64) hk (by omega)), show (64 : Int32) + nI k = nI (64 + k) from nI_add 64 k, zz_ald (by omega) (by omega), zz_ast (by omega) (by omega), h2 k, nI_1]
    · dsimp only
      by_cases hz : q = k
      · rw [hz, up_s]
      · rw [up_j (by omega)]; exact h1 q (by omega)
  · intro f z ⟨e1, h1, h2, hF⟩
    obtain ⟨x, M2⟩ := z
    dsimp only at e1 h1 h2 hF
    subst e1
    refine ⟨M2, ?_, h1, hF⟩
    show X6_lay_91 u (f + 1) (nI 64) M2 = _
    rw [X6_lay_91, if_pos (by decide)]
theorem X6_lay47_s : ∃ M', X6_lay_47 u FU (nI 0) M = X6_lay_91 u FU (nI 0) M' ∧ (∀ q, q < 8 → M' (u + 3) q = M (u + 3) (8 + q) ∧ M' (u + 4) q = M (u + 4) (8 + q)) ∧ Fr (u + 3) (u + 5) M M' := by
  refine lp (S := Int32 × Mem) (fun f z => X6_lay_47 u f z.1 z.2) (fun k z => z.1 = nI k ∧ (∀ q, q < k → z.2 (u + 3) q = M (u + 3) (8 + q) ∧ z.2 (u + 4) q = M (u + 4) (8 + q)) ∧ (∀ q, z.2 (u + 3) (8 + q) = M (u + 3) (8 + q) ∧ z.2 (u + 4) (8 + q) = M (u + 4) (8 + q)) ∧ Fr (u + 3) (u + 5) M z.2)
    (fun r => ∃ M', r = X6_lay_91 u FU (nI 0) M' ∧ (∀ q, q < 8 → M' (u + 3) q = M (u + 3) (8 + q) ∧ M' (u + 4) q = M (u + 4) (8 + q)) ∧ Fr (u + 3) (u + 5) M M') 8 ?_ ?_ 0 FU (nI 0, M) (by omega) (FU_lt (by omega)) ⟨rfl, fun q hq => by omega, fun q => ⟨rfl, rfl⟩, Fr.rf⟩
  · intro k f z hk ⟨e1, h1, h2, hF⟩
    obtain ⟨x, M2⟩ := z
    dsimp only at e1 h1 h2 hF
    subst e1
    left
    refine ⟨(nI (k + 1), me_upd (me_upd M2 (u + 3) k (M (u + 3) (8 + k))) (u + 4) k (M (u + 4) (8 + k))), ?_, rfl, fun q hq => ?_, fun q => ?_, (hF.tr (Fr.up (by omega) (by omega))).tr (Fr.up (by omega) (by omega))⟩
    · show X6_lay_47 u (f + 1) (nI k) M2 = _
      rw [X6_lay_47, if_neg (show ¬ (8 : Int32) ≤ nI k from nI_ge (b := 8) hk (by omega)), show (8 : Int32) + nI k = nI (8 + k) from nI_add 8 k, zz_ald (by omega) (by omega), zz_ast (by omega) (by omega), zz_ald (by omega) (by omega), zz_ast (by omega) (by omega), (h2 k).1, up_c (by omega), (h2 k).2, nI_1]
    · dsimp only
      by_cases hz : q = k
      · rw [hz, up_c (by omega), up_s, up_s]; exact ⟨rfl, rfl⟩
      · rw [up_c (by omega), up_j (by omega), up_j (by omega), up_c (by omega)]; exact h1 q (by omega)
    · dsimp only
      rw [up_c (by omega), up_j (by omega), up_j (by omega), up_c (by omega)]
      exact h2 q
  · intro f z ⟨e1, h1, h2, hF⟩
    obtain ⟨x, M2⟩ := z
    dsimp only at e1 h1 h2 hF
    subst e1
    refine ⟨M2, ?_, h1, hF⟩
    show X6_lay_47 u (f + 1) (nI 8) M2 = _
    rw [X6_lay_47, if_pos (by decide)]
    rfl
theorem P_lay (hC : AC M t tx n ea K S d0 s A kp A1 A2 Z) (hR : AR M u tx n ea K S d0 s A kp A1 A2 Z) (hV : SV tx n ea K S d0 s A kp A1 A2 Z) (htu : t + 44 ≤ u) : PS t u M (X5_lay t) (X6_lay u) := by
  have hok : p_ok (pr tx 201 p_in).2 := pr_ok hV.1 201 p_in p_in_ok
  obtain ⟨M1, e1, hS1, hT1⟩ := X3_readTown_s hC hV.1
  have n7 := hV.2.2.2.2.1.1
  have rd : ∀ M1, AR M1 u tx n ea K S d0 s A kp A1 A2 Z → _ := fun M1 hR1 => X6_readAll_s hR1 n7 hV.1
  generalize hp : pr tx 201 p_in = p at *
  obtain ⟨a, p⟩ := p
  dsimp only at hok hT1 e1 rd
  by_cases ha : a = -4
  · subst ha
    have hT1 := hT1 rfl
    obtain ⟨p0, n', ea', K', S', d'⟩ := p
    obtain ⟨o1, o2, o3⟩ := hok
    have o7 := o1.1
    dsimp only [TP] at o1 o2 o3 o7 hT1
    by_cases hn : n' = 0
    · subst hn
      refine PS.ro (v := -2) hC hR hV htu ⟨M1, ?_, hS1⟩ (fun M1 hR1 => ?_)
      · unfold X5_lay X4_persons
        rw [e1, zz_call, if_neg (fun h => h rfl), zz_call, hT1.1, if_neg (by decide)]
      · obtain ⟨M2, e2, hS2, hP2⟩ := rd M1 hR1
        refine ⟨M2, ?_, hS2⟩
        unfold X6_lay
        rw [e2, zz_call, if_neg (fun h => h rfl), nl1, zz_ald (by omega) (by omega), (hP2 rfl).1, if_neg (fun h => h rfl)]
    · obtain ⟨M2, e2, hT2, hF2⟩ := X4_copyFrom_s (t := t + 7) hT1 (by omega) (by omega)
      have hT1b := hT1.fr (M' := M2) (fun c h1 h2 => hF2 c (by omega))
      obtain ⟨M3, e3, hT3, hF3⟩ := X4_copyFrom_s (t := t + 16) hT1b (by omega) (by omega)
      have hT2b := hT2.fr (M' := M3) (fun c h1 h2 => hF3 c (by omega))
      have hC1 := hC.sc hS1
      obtain ⟨a1, _, _, _, _, _, _, _, _⟩ := hC1
      have hG : ∀ c, c ≠ t → c ≠ t + 28 → me_upd (me_upd (me_upd (me_upd M3 (t + 28) 3 (nI 0)) t 9 (nI 0)) t 10 (nI 0)) t 8 (nI 0) c = M3 c := fun c h1 h2 => by rw [up_c h1, up_c h1, up_c h1, up_c h2]
      have g28 : me_upd (me_upd (me_upd (me_upd M3 (t + 28) 3 (nI 0)) t 9 (nI 0)) t 10 (nI 0)) t 8 (nI 0) (t + 28) 3 = nI 0 := by rw [up_c (by omega), up_c (by omega), up_c (by omega), up_s]
      have g8 : me_upd (me_upd (me_upd (me_upd M3 (t + 28) 3 (nI 0)) t 9 (nI 0)) t 10 (nI 0)) t 8 (nI 0) t 8 = nI 0 := up_s
      have g9 : me_upd (me_upd (me_upd (me_upd M3 (t + 28) 3 (nI 0)) t 9 (nI 0)) t 10 (nI 0)) t 8 (nI 0) t 9 = nI 0 := by rw [up_j (by omega), up_j (by omega), up_s]
      have g10 : me_upd (me_upd (me_upd (me_upd M3 (t + 28) 3 (nI 0)) t 9 (nI 0)) t 10 (nI 0)) t 8 (nI 0) t 10 = nI 0 := by rw [up_j (by omega), up_s]
      have run : X5_lay t M = some (nI n', me_upd (me_upd (me_upd (me_upd M3 (t + 28) 3 (nI 0)) t 9 (nI 0)) t 10 (nI 0)) t 8 (nI 0)) := by
        unfold X5_lay X4_persons X0_clear X5_forgetSilence
        rw [e1, zz_call, if_neg (fun h => h rfl), zz_call, hT1.1, if_pos (show (1 : Int32) ≤ nI n' from nI_le (a := 1) (by omega) (by omega)), e2, zz_call, e3, zz_call, zz_put, zz_call, zz_put, zz_put, zz_call, zz_put, zz_call]
        have := (hT3.fr (fun c h1 h2 => hG c (by omega) (by omega))).1
        exact congrArg some (Prod.ext this rfl)
      generalize me_upd (me_upd (me_upd (me_upd M3 (t + 28) 3 (nI 0)) t 9 (nI 0)) t 10 (nI 0)) t 8 (nI 0) = M4 at *
      have hC4 : AC M4 t tx n' ea' K' S' d' (2 ^ n' - 1, 0, d') (0, A.2) 0 A1 A2 (0, Z.2) := by
        refine ⟨?_, hT2b.fr (fun c h1 h2 => hG c (by omega) (by omega)), hT3.fr (fun c h1 h2 => hG c (by omega) (by omega)), ⟨g28, fun k hk => absurd hk (Nat.not_lt_zero _)⟩, fun h => by omega, fun h => by omega, g8, g9, g10⟩
        rw [hG _ (by omega) (by omega), hG _ (by omega) (by omega), hF3 _ (by omega), hF3 _ (by omega), hF2 _ (by omega), hF2 _ (by omega)]
        exact a1
      have hR4 : AR M4 u tx n ea K S d0 s A kp A1 A2 Z := hR.out (fun c h1 h2 => by rw [hG c (by omega) (by omega), hF3 c (by omega), hF2 c (by omega), hS1 c (by omega)])
      obtain ⟨M5, e5, hS5, hP5⟩ := rd M4 hR4
      obtain ⟨p1, p2, p3, p4, p5⟩ := hP5 rfl
      dsimp only at p1 p2 p3 p4 p5
      have hR5 := hR4.sc n7 hS5
      obtain ⟨r1, _, _, _, _, _, _, _, _, _, _⟩ := hR5
      obtain ⟨M6, hM6⟩ : ∃ M6, M6 = me_upd (me_upd M5 (u + 2) 0 (nI n')) (u + 6) 0 (nI ea') := ⟨_, rfl⟩
      obtain ⟨M7, e7, h7, hF7⟩ := X6_lay47_s (M := M6) (u := u)
      obtain ⟨M8, e8, h8, hF8⟩ := X6_lay91_s (M := M7) (u := u)
      have k6 : ∀ c, c ≠ u + 2 → c ≠ u + 6 → M6 c = M5 c := fun c h1 h2 => by rw [hM6, up_c h2, up_c h1]
      have k62 : M6 (u + 2) 0 = nI n' := by rw [hM6, up_c (by omega), up_s]
      have k66 : M6 (u + 6) 0 = nI ea' := by rw [hM6, up_s]
      obtain ⟨M9, hM9⟩ : ∃ M9, M9 = me_upd (me_upd (me_upd M8 (u + 7) 0 (nI 0)) u 11 (nI 0)) u 12 (nI 0) := ⟨_, rfl⟩
      have k9 : ∀ c, c ≠ u → c ≠ u + 7 → M9 c = M8 c := fun c h1 h2 => by rw [hM9, up_c h1, up_c h1, up_c h2]
      have hx : ARx M9 u tx n' ea' K' S' d' (0, A.2) 0 A1 A2 (0, Z.2) := by
        refine ⟨⟨?_, ?_⟩, ?_, ?_, fun i j hi hj => ?_, fun i hi => ?_, fun i hi => ?_, ⟨?_, fun k hk => absurd hk (Nat.not_lt_zero _)⟩, fun h => by omega, fun h => by omega, ?_, ?_, fun k hk => absurd hk (Nat.not_lt_zero _)⟩
        · rw [hM9, up_j (by omega), up_j (by omega), up_c (by omega), hF8 _ (by omega), hF7 _ (by omega), k6 _ (by omega) (by omega)]; exact r1.1
        · rw [k9 _ (by omega) (by omega), hF8 _ (by omega), hF7 _ (by omega), k6 _ (by omega) (by omega)]; exact r1.2
        · rw [k9 _ (by omega) (by omega), hF8 _ (by omega), hF7 _ (by omega)]; exact k62
        · rw [k9 _ (by omega) (by omega), hF8 _ (by omega), hF7 _ (by omega)]; exact k66
        · rw [k9 _ (by omega) (by omega), h8 _ (by omega), hF7 _ (by omega), k6 _ (by omega) (by omega), ← Nat.add_assoc]; exact p5 i j hi hj
        · rw [k9 _ (by omega) (by omega), hF8 _ (by omega), (h7 i (by omega)).1, k6 _ (by omega) (by omega)]; exact p3 i hi
        · rw [k9 _ (by omega) (by omega), hF8 _ (by omega), (h7 i (by omega)).2, k6 _ (by omega) (by omega)]; exact p4 i hi
        · rw [hM9, up_c (by omega), up_c (by omega), up_s]
        · rw [hM9, up_j (by omega), up_s]
        · rw [hM9, up_s]
      have hA0 : a_all n' (0, A.2) := ⟨by show 0 ≤ 40; omega, fun k hk => absurd hk (Nat.not_lt_zero _)⟩
      obtain ⟨MB, eB, hRB, hFB⟩ := hx.again o1 hA0
      have hRB' : AR MB u tx n' ea' K' S' d' (2 ^ n' - 1, 0, d') (0, A.2) 0 A1 A2 (0, Z.2) := hRB
      refine PS.of (v := nI n') htu run hC4 ?_ hRB' (fun c hc => ?_) ⟨hV.1, by omega, o2, o3, o1, o1, by show 0 ≤ 9 * 0; omega, hA0, by omega, fun h => by omega, fun h => by omega, by show 0 ≤ 6; omega, fun k hk => absurd hk (Nat.not_lt_zero _)⟩
      · unfold X6_lay
        rw [e5, zz_call, if_neg (fun h => h rfl), nl0, nl1, zz_ald (by omega) (by omega), p1, if_pos (by
          intro e
          have := (nI_eq (a := n') (b := 0) (by omega) (by omega)).1 e
          omega), zz_ald (by omega) (by omega), p1, zz_ast (by omega) (by omega), zz_ald (by omega) (by omega), up_c (by omega), p2, zz_ast (by omega) (by omega), ← hM6, e7, e8, nl0, zz_ast (by omega) (by omega), zz_put, zz_put, ← hM9, eB, zz_call, zz_ald (by omega) (by omega), hRB'.2.1]
      · rw [hFB.1 c (by omega), k9 c (by omega) (by omega), hF8 c (by omega), hF7 c (by omega), k6 c (by omega) (by omega)]; exact hS5.Fr c (by omega)
  · refine PS.ro (v := -2) hC hR hV htu ⟨M1, ?_, hS1⟩ (fun M1 hR1 => ?_)
    · unfold X5_lay
      rw [e1, zz_call, if_pos ha]
    · obtain ⟨M2, e2, hS2, hP2⟩ := rd M1 hR1
      refine ⟨M2, ?_, hS2⟩
      unfold X6_lay
      rw [e2, zz_call, if_pos ha]
end LAY2
