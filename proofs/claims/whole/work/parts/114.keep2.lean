section KEEP2
variable {M M' : Mem} {t u n ea kp i j c kind : Nat} {K S : Nat → Nat} {d0 d : Dm} {s : Ts} {A A1 A2 : Al} {tx Z : Tx}
theorem AC.keep {B1 B2 : Al} {q : Nat} {w : Nat} (hC : AC M t tx n ea K S d0 s A kp A1 A2 Z) (hM : M' t 8 = nI q) (hM2 : ∀ k, k ≠ 8 → M' t k = M t k) (hF : ∀ c, (c < t + 32 ∨ t + 40 ≤ c) → c ≠ t → M' c = M c) (h1 : 1 ≤ q → LA M' (t + 32) B1) (h2 : 2 ≤ q → LA M' (t + 36) B2) : AC M' t tx n ea K S d0 s A q B1 B2 Z := by
  obtain ⟨a1, a2, a3, a4, a5, a6, a7, a8, a9⟩ := id hC
  refine ⟨?_, a2.fr (fun c h1 h2 => hF c (by omega) (by omega)), a3.fr (fun c h1 h2 => hF c (by omega) (by omega)), a4.fr (fun c h1 h2 => hF c (by omega) (by omega)), h1, h2, hM, ?_, ?_⟩
  · rw [hF _ (by omega) (by omega), hF _ (by omega) (by omega)]; exact a1
  · rw [hM2 _ (by omega)]; exact a8
  · rw [hM2 _ (by omega)]; exact a9
theorem AR.keep {B1 B2 : Al} {q : Nat} (hR : AR M u tx n ea K S d0 s A kp A1 A2 Z) (hM : M' u 11 = nI q) (hM2 : ∀ k, k ≠ 11 → M' u k = M u k) (hF : ∀ c, (c < u + 7 ∨ u + 11 ≤ c) → c ≠ u → M' c = M c) (h0 : RA M' u 0 A) (h1 : 1 ≤ q → RA M' u 1 B1) (h2 : 2 ≤ q → RA M' u 2 B2) : AR M' u tx n ea K S d0 s A q B1 B2 Z := by
  obtain ⟨a1, a2, a3, a4, ⟨c0, c1, c2, ck, cs, cd⟩, a6, a7, a8, a9, a10, a11⟩ := id hR
  refine ⟨?_, ?_, ?_, ?_, ⟨?_, ?_, ?_, ?_, ?_, ?_⟩, h0, h1, h2, hM, ?_, ?_⟩
  · rw [hM2 _ (by omega), hF _ (by omega) (by omega)]; exact a1
  · rw [hF _ (by omega) (by omega)]; exact a2
  · rw [hF _ (by omega) (by omega)]; exact a3
  · rw [hF _ (by omega) (by omega)]; exact a4
  · rw [hF _ (by omega) (by omega)]; exact c0
  · rw [hF _ (by omega) (by omega)]; exact c1
  · rw [hF _ (by omega) (by omega)]; exact c2
  · rw [hF _ (by omega) (by omega)]; exact ck
  · rw [hF _ (by omega) (by omega)]; exact cs
  · rw [hF _ (by omega) (by omega)]; exact cd
  · rw [hM2 _ (by omega)]; exact a10
  · rw [hF _ (by omega) (by omega)]; exact a11
theorem P_keep (hC : AC M t tx n ea K S d0 s A kp A1 A2 Z) (hR : AR M u tx n ea K S d0 s A kp A1 A2 Z) (hV : SV tx n ea K S d0 s A kp A1 A2 Z) (htu : t + 44 ≤ u) : PS t u M (X5_keep t) (X6_keep u) := by
  obtain ⟨v1, v2, v3, v4, v5, v6, v7, v8, v9, v10, v11, v12, v13⟩ := id hV
  obtain ⟨a1, a2, a3, a4, a5, a6, a7, a8, a9⟩ := id hC
  have h40 := v8.1
  by_cases h2 : kp < 2
  · -- where it is kept
    have cls : ∃ M1, X5_keep t M = some (nI (kp + 1), M1) ∧ AC M1 t tx n ea K S d0 s A (kp + 1) (if kp = 0 then A else A1) (if kp = 0 then A2 else A) Z ∧ Fr t (t + 44) M M1 := by
      generalize hM0 : me_upd M t 8 (nI (kp + 1)) = M0
      have g1 : M0 t 8 = nI (kp + 1) := by rw [← hM0]; exact up_s
      have g2 : ∀ k, k ≠ 8 → M0 t k = M t k := fun k hk => by rw [← hM0]; exact up_j hk
      have g3 : ∀ c, c ≠ t → M0 c = M c := fun c hc => by rw [← hM0]; exact up_c hc
      have hA0 : LA M0 (t + 28) A := a4.fr (fun c h1 h2 => g3 c (by omega))
      by_cases h0 : kp = 0
      · obtain ⟨M1, e1, hA1, hF1⟩ := X0_copyFrom_s (t := t + 32) hA0 h40 (by omega)
        refine ⟨M1, ?_, ?_, fun c hc => by rw [hF1 c (by omega), g3 c (by omega)]⟩
        · unfold X5_keep X5_latestKept
          rw [a7, if_pos (show nI kp < (2 : Int32) from nI_lt (b := 2) h2 (by omega)), nl1, nI_add, zz_put, hM0, g1, h0, if_neg (by decide), zz_call, e1, zz_call, hF1 t (by omega), g1, h0]
        · rw [if_pos h0]
          exact hC.keep (w := 0) (by rw [hF1 t (by omega)]; exact g1) (fun k hk => by rw [hF1 t (by omega)]; exact g2 k hk) (fun c h1 h2 => by rw [hF1 c (by omega), g3 c h2]) (fun _ => hA1) (fun h => by omega)
      · obtain ⟨M1, e1, hA1, hF1⟩ := X0_copyFrom_s (t := t + 36) hA0 h40 (by omega)
        refine ⟨M1, ?_, ?_, fun c hc => by rw [hF1 c (by omega), g3 c (by omega)]⟩
        · unfold X5_keep X5_latestKept
          rw [a7, if_pos (show nI kp < (2 : Int32) from nI_lt (b := 2) h2 (by omega)), nl1, nI_add, zz_put, hM0, g1, show kp + 1 = 2 by omega, if_pos (by decide), zz_call, e1, zz_call, hF1 t (by omega), g1, show kp + 1 = 2 by omega]
        · rw [if_neg h0, if_neg h0]
          exact hC.keep (w := 0) (by rw [hF1 t (by omega)]; exact g1) (fun k hk => by rw [hF1 t (by omega)]; exact g2 k hk) (fun c h1 h2 => by rw [hF1 c (by omega), g3 c h2]) (fun _ => (a5 (by omega)).fr (fun c h1 h2 => by rw [hF1 c (by omega), g3 c (by omega)])) (fun _ => hA1)
    obtain ⟨M1, e1, hC1, hF1⟩ := cls
    have hR1 : AR M1 u tx n ea K S d0 s A kp A1 A2 Z := hR.out (fun c h1 h2 => hF1 c (by omega))
    obtain ⟨r1, r2, r3, r4, r5, r6, r7, r8, r9, r10, r11⟩ := id hR1
    generalize hM2 : me_upd M1 u 11 (nI (kp + 1)) = M2
    have g1 : M2 u 11 = nI (kp + 1) := by rw [← hM2]; exact up_s
    have g2 : ∀ k, k ≠ 11 → M2 u k = M1 u k := fun k hk => by rw [← hM2]; exact up_j hk
    have g3 : ∀ c, c ≠ u → M2 c = M1 c := fun c hc => by rw [← hM2]; exact up_c hc
    obtain ⟨M3, e3, hA3, hK3, hF3⟩ := X6_copyActs_s (b := kp + 1) (r6.fr (fun c h1 h2 => g3 c (by omega))) h40 (by omega) (by omega) (by omega)
    refine PS.of (v := nI (kp + 1)) (M1 := M1) (M2 := M3) htu e1 hC1 ?_ (hR1.keep (by rw [hF3 u (by omega)]; exact g1) (fun k hk => by rw [hF3 u (by omega)]; exact g2 k hk) (fun c h1 h2 => by rw [hF3 c (by omega), g3 c h2]) (hK3 0 A (by omega) h40 (r6.fr (fun c h1 h2 => g3 c (by omega)))) (fun _ => ?_) (fun h => ?_)) (fun c hc => by rw [hF3 c (by omega), g3 c (by omega)]) ⟨v1, v2, v3, v4, v5, v6, v7, v8, by omega, fun _ => ?_, fun h => ?_, v12, v13⟩
    · unfold X6_keep
      rw [r9, if_pos (by
        intro e
        have := (nI_eq (a := kp) (b := 2) (by omega) (by omega)).1 e
        omega), nl1, nI_add, zz_put, hM2, g1, nl0, e3, zz_call, hF3 u (by omega), g1]
    · by_cases h0 : kp = 0
      · subst h0
        exact hA3
      · rw [if_neg h0]
        exact hK3 1 A1 (by omega) (v10 (by omega)).1 ((r7 (by omega)).fr (fun c h1 h2 => g3 c (by omega)))
    · have h0 : kp = 1 := by omega
      subst h0
      exact hA3
    · by_cases h0 : kp = 0
      · rw [if_pos h0]; exact v8
      · rw [if_neg h0]; exact v10 (by omega)
    · have h0 : ¬ kp = 0 := by omega
      rw [if_neg h0]
      exact v8
  · have h2' : kp = 2 := by omega
    refine PS.ro (v := -3) hC hR hV htu ⟨M, ?_, Sc.rf⟩ (fun M1 hR1 => ⟨M1, ?_, ScR.rf⟩)
    · unfold X5_keep
      rw [a7, h2', if_neg (by decide)]
    · unfold X6_keep
      rw [hR1.2.2.2.2.2.2.2.2.1, h2', if_neg (by decide)]
theorem P_back (hC : AC M t tx n ea K S d0 s A kp A1 A2 Z) (hR : AR M u tx n ea K S d0 s A kp A1 A2 Z) (hV : SV tx n ea K S d0 s A kp A1 A2 Z) (htu : t + 44 ≤ u) : PS t u M (X5_back t) (X6_back u) := by
  obtain ⟨v1, v2, v3, v4, v5, v6, v7, v8, v9, v10, v11, v12, v13⟩ := id hV
  obtain ⟨a1, a2, a3, a4, a5, a6, a7, a8, a9⟩ := id hC
  by_cases h1 : 1 ≤ kp
  · obtain ⟨B, hB⟩ : ∃ B : Al, B = if kp = 1 then A1 else A2 := ⟨_, rfl⟩
    have hAll : a_all n B := by
      rw [hB]
      split
      · exact v10 h1
      · exact v11 (by omega)
    have cls : ∃ M1, X5_back t M = some (nI (kp - 1), M1) ∧ AC M1 t tx n ea K S d0 (s_again n K d0 B) B (kp - 1) A1 A2 Z ∧ t_ok n (s_again n K d0 B).1 K (s_again n K d0 B).2.2 ∧ (s_again n K d0 B).2.1 ≤ 9 * B.1 ∧ Fr t (t + 44) M M1 := by
      have step : ∀ c, (c = t + 32 ∨ c = t + 36) → LA M c B → X5_latestKept t M = some (c, M) → ∃ M1, X5_back t M = some (nI (kp - 1), M1) ∧ AC M1 t tx n ea K S d0 (s_again n K d0 B) B (kp - 1) A1 A2 Z ∧ t_ok n (s_again n K d0 B).1 K (s_again n K d0 B).2.2 ∧ (s_again n K d0 B).2.1 ≤ 9 * B.1 ∧ Fr t (t + 44) M M1 := by
        intro c hc hL hk
        obtain ⟨M1, e1, hA1, hF1⟩ := X0_copyFrom_s (t := t + 28) hL hAll.1 (by omega)
        generalize hM2 : me_upd M1 t 8 (nI (kp - 1)) = M2
        have g1 : M2 t 8 = nI (kp - 1) := by rw [← hM2]; exact up_s
        have g2 : ∀ k, k ≠ 8 → M2 t k = M t k := fun k hk => by rw [← hM2, up_j hk, hF1 t (by omega)]
        have g3 : ∀ c, c ≠ t → M2 c = M1 c := fun c hc => by rw [← hM2]; exact up_c hc
        have g4 : ∀ c, (c < t + 28 ∨ t + 32 ≤ c) → c ≠ t → M2 c = M c := fun c h1 h2 => by rw [g3 c h2, hF1 c (by omega)]
        have hx : ACx M2 t tx n ea K S d0 B (kp - 1) A1 A2 Z := by
          refine ⟨?_, a2.fr (fun c h1 h2 => g4 c (by omega) (by omega)), hA1.fr (fun c h1 h2 => g3 c (by omega)), fun hk => (a5 (by omega)).fr (fun c h1 h2 => g4 c (by omega) (by omega)), fun hk => (a6 (by omega)).fr (fun c h1 h2 => g4 c (by omega) (by omega)), g1, ?_, ?_⟩
          · rw [g4 _ (by omega) (by omega), g4 _ (by omega) (by omega)]; exact a1
          · rw [g2 _ (by omega)]; exact a8
          · rw [g2 _ (by omega)]; exact a9
        obtain ⟨M3, e3, hC3, hV3, hd3, hF3⟩ := hx.again v5 hAll
        refine ⟨M3, ?_, hC3, hV3, hd3, fun c hc => by rw [hF3 c hc, g4 c (by omega) (by omega)]⟩
        unfold X5_back
        rw [a7, if_pos (show (1 : Int32) ≤ nI kp from nI_le (a := 1) h1 (by omega)), hk, zz_call, e1, zz_call, hF1 t (by omega), a7, zz_put, show nI kp - 1 = nI (kp - 1) from pk_sub (b := 1) h1, hM2, e3, zz_call, hC3.2.2.2.2.2.2.1]
      by_cases h0 : kp = 1
      · refine step (t + 32) (Or.inl rfl) (by rw [hB, if_pos h0]; exact a5 h1) ?_
        unfold X5_latestKept
        rw [a7, h0, if_neg (by decide)]
      · refine step (t + 36) (Or.inr rfl) (by rw [hB, if_neg h0]; exact a6 (by omega)) ?_
        unfold X5_latestKept
        rw [a7, show kp = 2 by omega, if_pos (by decide)]
    obtain ⟨M1, e1, hC1, hV1, hd1, hF1⟩ := cls
    have hR1 : AR M1 u tx n ea K S d0 s A kp A1 A2 Z := hR.out (fun c h1 h2 => hF1 c (by omega))
    obtain ⟨r1, r2, r3, r4, rk, rs, r6, r7, r8, r9, r10, r11⟩ := hR1.x
    have hRB : RA M1 u kp B := by
      by_cases h0 : kp = 1
      · rw [hB, if_pos h0, h0]
        exact r7 h1
      · rw [hB, if_neg h0, show kp = 2 by omega]
        exact r8 (by omega)
    obtain ⟨M2, e2, hA2, hK2, hF2⟩ := X6_copyActs_s (b := 0) hRB hAll.1 (by omega) (by omega) (by omega)
    generalize hM3 : me_upd M2 u 11 (nI (kp - 1)) = M3
    have g1 : M3 u 11 = nI (kp - 1) := by rw [← hM3]; exact up_s
    have g2 : ∀ k, k ≠ 11 → M3 u k = M1 u k := fun k hk => by rw [← hM3, up_j hk, hF2 u (by omega)]
    have g3 : ∀ c, c ≠ u → M3 c = M2 c := fun c hc => by rw [← hM3]; exact up_c hc
    have g4 : ∀ c, (c < u + 7 ∨ u + 11 ≤ c) → c ≠ u → M3 c = M1 c := fun c h1 h2 => by rw [g3 c h2, hF2 c (by omega)]
    have hrx : ARx M3 u tx n ea K S d0 B (kp - 1) A1 A2 Z := by
      refine ⟨?_, ?_, ?_, ?_, ?_, ?_, hA2.fr (fun c h1 h2 => g3 c (by omega)), fun hk => (hK2 1 A1 (by omega) (v10 (by omega)).1 (r7 (by omega))).fr (fun c h1 h2 => g3 c (by omega)), fun hk => by omega, g1, ?_, ?_⟩
      · rw [g2 _ (by omega), g4 _ (by omega) (by omega)]; exact r1
      · rw [g4 _ (by omega) (by omega)]; exact r2
      · rw [g4 _ (by omega) (by omega)]; exact r3
      · rw [g4 _ (by omega) (by omega)]; exact r4
      · rw [g4 _ (by omega) (by omega)]; exact rk
      · rw [g4 _ (by omega) (by omega)]; exact rs
      · rw [g2 _ (by omega)]; exact r10
      · rw [g4 _ (by omega) (by omega)]; exact r11
    obtain ⟨M4, e4, hR4, hF4⟩ := hrx.again v5 hAll
    refine PS.of (v := nI (kp - 1)) (M1 := M1) (M2 := M4) htu e1 hC1 ?_ hR4 (fun c hc => by rw [hF4.1 c (by omega), g4 c (by omega) (by omega)]) ⟨v1, v2, v3, v4, v5, hV1, hd1, hAll, by omega, fun _ => v10 (by omega), fun h => by omega, v12, v13⟩
    unfold X6_back
    rw [r9, if_pos (by
      intro e
      have := (nI_eq (a := kp) (b := 0) (by omega) (by omega)).1 e
      omega), nl0, e2, zz_call, hF2 u (by omega), r9, zz_put, nl1, pk_sub h1, hM3, e4, zz_call, hR4.2.2.2.2.2.2.2.2.1]
  · have h0 : kp = 0 := by omega
    refine PS.ro (v := -2) hC hR hV htu ⟨M, ?_, Sc.rf⟩ (fun M1 hR1 => ⟨M1, ?_, ScR.rf⟩)
    · unfold X5_back
      rw [a7, h0, if_neg (by decide)]
    · unfold X6_back
      rw [hR1.2.2.2.2.2.2.2.2.1, h0, if_neg (by decide)]
end KEEP2
