/-! ===== undone, kept ===== -/
/-- all but the town as it is now -/
def ACx (M : Mem) (t : Nat) (tx : Tx) (n ea : Nat) (K S : Nat → Nat) (d0 : Dm) (A : Al) (kp : Nat) (A1 A2 : Al) (Z : Tx) : Prop :=
  (M (t + 1) 1 = nI tx.1 ∧ ∀ k, k < tx.1 → M (t + 2) k = nI (tx.2 k)) ∧ TC M (t + 7) n 0 ea (2 ^ n - 1) K S d0 ∧ LA M (t + 28) A ∧ (1 ≤ kp → LA M (t + 32) A1) ∧ (2 ≤ kp → LA M (t + 36) A2) ∧ M t 8 = nI kp ∧ M t 9 = nI Z.1 ∧ M t 10 = nI (zb Z)
def ARx (M : Mem) (t : Nat) (tx : Tx) (n ea : Nat) (K S : Nat → Nat) (d0 : Dm) (A : Al) (kp : Nat) (A1 A2 : Al) (Z : Tx) : Prop :=
  (M t 0 = nI tx.1 ∧ ∀ k, k < tx.1 → M (t + 1) k = nI (tx.2 k)) ∧ M (t + 2) 0 = nI n ∧ M (t + 6) 0 = nI ea ∧ (∀ i j, i < 8 → j < 8 → M (t + 5) (8 * i + j) = nI (d0 i j)) ∧ (∀ i, i < n → M (t + 3) i = nI (K i)) ∧ (∀ i, i < n → M (t + 4) i = nI (S i)) ∧ RA M t 0 A ∧ (1 ≤ kp → RA M t 1 A1) ∧ (2 ≤ kp → RA M t 2 A2) ∧ M t 11 = nI kp ∧ M t 12 = nI Z.1 ∧ (∀ k, k < Z.1 → M (t + 11) k = nI (Z.2 k))
section KEEP
variable {M M' : Mem} {t u n ea kp i j c kind : Nat} {K S : Nat → Nat} {d0 d : Dm} {s : Ts} {A A1 A2 : Al} {tx Z : Tx}
theorem no_but {x2 : Int32} (h : x2 < 0) : ∀ k, k < 40 → (nI k = x2 ↔ k = 1000) := by
  intro k hk
  constructor
  · intro e
    rw [← e] at h
    exact absurd h (nI_pos (by omega))
  · intro e
    omega
/-- the town as it is now, done again -/
def s_again (n : Nat) (K : Nat → Nat) (d0 : Dm) (A : Al) : Ts := o_rep n K A 1000 A.1 (2 ^ n - 1, 0, d0)
theorem ACx.again (hC : ACx M t tx n ea K S d0 A kp A1 A2 Z) (hV5 : t_ok n (2 ^ n - 1) K d0) (hAll : a_all n A) :
    ∃ M2, X5_doAgain t (t + 16) (-1) M = some ((), M2) ∧ AC M2 t tx n ea K S d0 (s_again n K d0 A) A kp A1 A2 Z ∧ t_ok n (s_again n K d0 A).1 K (s_again n K d0 A).2.2 ∧ (s_again n K d0 A).2.1 ≤ 9 * A.1 ∧ Fr t (t + 44) M M2 := by
  obtain ⟨a1, a2, a4, a5, a6, a7, a8, a9⟩ := id hC
  obtain ⟨M2, e2, hT2, hF2⟩ := X5_doAgain_s (t1 := t + 16) (x2 := -1) (but := 1000) a2 a4 hV5 hAll (by omega) (by omega) (no_but (by decide))
  obtain ⟨hT3, hV3, hd3⟩ := hT2 _ rfl
  refine ⟨M2, e2, ⟨?_, a2.fr (fun c h1 h2 => hF2 c (by omega)), hT3, a4.fr (fun c h1 h2 => hF2 c (by omega)), fun hk => (a5 hk).fr (fun c h1 h2 => hF2 c (by omega)), fun hk => (a6 hk).fr (fun c h1 h2 => hF2 c (by omega)), ?_, ?_, ?_⟩, hV3, hd3, fun c hc => hF2 c (by omega)⟩
  · rw [hF2 _ (by omega), hF2 _ (by omega)]; exact a1
  · rw [hF2 _ (by omega)]; exact a7
  · rw [hF2 _ (by omega)]; exact a8
  · rw [hF2 _ (by omega)]; exact a9
theorem ARx.again (hR : ARx M u tx n ea K S d0 A kp A1 A2 Z) (hV5 : t_ok n (2 ^ n - 1) K d0) (hAll : a_all n A) :
    ∃ M2, X6_begin u M = some ((), M2) ∧ AR M2 u tx n ea K S d0 (s_again n K d0 A) A kp A1 A2 Z ∧ FrR u 0 M M2 := by
  obtain ⟨r1, r2, r3, r4, rk, rs, r6, r7, r8, r9, r10, r11⟩ := id hR
  obtain ⟨M4, e4, hT4, hF4⟩ := X6_beginBut_s (M := M) (t := u) (b := 0) (x2 := -4) (but := 1000) (K := K) (S := S) r2 rk rs r4 r6 hV5 hAll (by omega) (no_but (by decide))
  obtain ⟨hT5, _, _⟩ := hT4 _ rfl
  refine ⟨M4, ?_, ⟨?_, ?_, ?_, ?_, hT5, r6.fr (fun c h1 h2 => hF4.1 c (by omega)), fun hk => (r7 hk).fr (fun c h1 h2 => hF4.1 c (by omega)), fun hk => (r8 hk).fr (fun c h1 h2 => hF4.1 c (by omega)), ?_, ?_, ?_⟩, hF4⟩
  · unfold X6_begin
    rw [nl0, e4, zz_call]
  · rw [hF4.1 _ (by omega), hF4.1 _ (by omega)]; exact r1
  · rw [hF4.1 _ (by omega)]; exact r2
  · rw [hF4.1 _ (by omega)]; exact r3
  · rw [hF4.1 _ (by omega)]; exact r4
  · rw [hF4.1 _ (by omega)]; exact r9
  · rw [hF4.1 _ (by omega)]; exact r10
  · rw [hF4.1 _ (by omega)]; exact r11
theorem AC.x (hC : AC M t tx n ea K S d0 s A kp A1 A2 Z) : ACx M t tx n ea K S d0 A kp A1 A2 Z := ⟨hC.1, hC.2.1, hC.2.2.2⟩
theorem AR.x (hR : AR M u tx n ea K S d0 s A kp A1 A2 Z) : ARx M u tx n ea K S d0 A kp A1 A2 Z := ⟨hR.1, hR.2.1, hR.2.2.1, hR.2.2.2.1, hR.2.2.2.2.1.2.2.2.1, hR.2.2.2.2.1.2.2.2.2.1, hR.2.2.2.2.2⟩
theorem P_undo (hC : AC M t tx n ea K S d0 s A kp A1 A2 Z) (hR : AR M u tx n ea K S d0 s A kp A1 A2 Z) (hV : SV tx n ea K S d0 s A kp A1 A2 Z) (htu : t + 44 ≤ u) : PS t u M (X5_undo t) (X6_undo u) := by
  obtain ⟨v1, v2, v3, v4, v5, v6, v7, v8, v9, v10, v11, v12, v13⟩ := id hV
  obtain ⟨a1, a2, a4, a5, a6, a7, a8, a9⟩ := hC.x
  have h40 := v8.1
  by_cases h0 : A.1 = 0
  · refine PS.ro (v := -2) hC hR hV htu ⟨M, ?_, Sc.rf⟩ (fun M1 hR1 => ⟨M1, ?_, ScR.rf⟩)
    · unfold X5_undo X0_size
      rw [zz_call, a4.1, h0, if_neg (by decide)]
    · unfold X6_undo
      rw [nl0, zz_ald (by omega) (by omega), hR1.2.2.2.2.2.1.1, h0, if_neg (by decide)]
  · obtain ⟨B, hB⟩ : ∃ B : Al, B = (A.1 - 1, A.2) := ⟨_, rfl⟩
    have hB1 : B.1 = A.1 - 1 := by rw [hB]
    have hB2 : B.2 = A.2 := by rw [hB]
    have hAll : a_all n B := ⟨by omega, fun k hk => by rw [hB2]; exact v8.2 k (by omega)⟩
    generalize hM1 : me_upd M (t + 28) 3 (nI (A.1 - 1)) = M1
    have hF1 : ∀ c, c ≠ t + 28 → M1 c = M c := fun c hc => by rw [← hM1, up_c hc]
    have hx : ACx M1 t tx n ea K S d0 B kp A1 A2 Z := by
      refine ⟨?_, a2.fr (fun c h1 h2 => hF1 c (by omega)), ⟨?_, fun k hk => ?_⟩, fun hk => (a5 hk).fr (fun c h1 h2 => hF1 c (by omega)), fun hk => (a6 hk).fr (fun c h1 h2 => hF1 c (by omega)), ?_, ?_, ?_⟩
      · rw [hF1 _ (by omega), hF1 _ (by omega)]; exact a1
      · rw [← hM1, up_s, hB1]
      · rw [hF1 _ (by omega), hF1 _ (by omega), hF1 _ (by omega), hB2]
        exact a4.2 k (by omega)
      · rw [hF1 _ (by omega)]; exact a7
      · rw [hF1 _ (by omega)]; exact a8
      · rw [hF1 _ (by omega)]; exact a9
    obtain ⟨M2, e2, hC2, hV2, hd2, hF2⟩ := hx.again v5 hAll
    have hR2 : AR M2 u tx n ea K S d0 s A kp A1 A2 Z := hR.out (fun c h1 h2 => by rw [hF2 c (by omega), hF1 c (by omega)])
    obtain ⟨r1, r2, r3, r4, rk, rs, r6, r7, r8, r9, r10, r11⟩ := hR2.x
    generalize hM3 : me_upd M2 (u + 7) 0 (nI (A.1 - 1)) = M3
    have hG : ∀ c, c ≠ u + 7 → M3 c = M2 c := fun c hc => by rw [← hM3, up_c hc]
    have g7 : M3 (u + 7) 0 = nI (A.1 - 1) := by rw [← hM3]; exact up_s
    have g7' : ∀ q, q ≠ 0 → M3 (u + 7) q = M2 (u + 7) q := fun q hq => by rw [← hM3, up_j hq]
    have keep : ∀ q B, 1 ≤ q → RA M2 u q B → RA M3 u q B := by
      intro q B hq hB
      obtain ⟨k1, k2⟩ := hB
      refine ⟨by rw [g7' q (by omega)]; exact k1, fun k hk => ?_⟩
      rw [hG _ (by omega), hG _ (by omega), hG _ (by omega)]
      exact k2 k hk
    have hrx : ARx M3 u tx n ea K S d0 B kp A1 A2 Z := by
      refine ⟨?_, ?_, ?_, ?_, ?_, ?_, ⟨?_, fun k hk => ?_⟩, fun hk => keep 1 A1 (by omega) (r7 hk), fun hk => keep 2 A2 (by omega) (r8 hk), ?_, ?_, ?_⟩
      · rw [hG _ (by omega), hG _ (by omega)]; exact r1
      · rw [hG _ (by omega)]; exact r2
      · rw [hG _ (by omega)]; exact r3
      · rw [hG _ (by omega)]; exact r4
      · rw [hG _ (by omega)]; exact rk
      · rw [hG _ (by omega)]; exact rs
      · rw [g7, hB1]
      · rw [hG _ (by omega), hG _ (by omega), hG _ (by omega), hB2]
        exact r6.2 k (by omega)
      · rw [hG _ (by omega)]; exact r9
      · rw [hG _ (by omega)]; exact r10
      · rw [hG _ (by omega)]; exact r11
    obtain ⟨M4, e4, hR4, hF4⟩ := hrx.again v5 hAll
    refine PS.of (v := nI (A.1 - 1)) (M1 := M2) (M2 := M4) htu ?_ hC2 ?_ hR4 (fun c hc => by rw [hF4.1 c (by omega), hG c (by omega)]) ⟨v1, v2, v3, v4, v5, hV2, hd2, hAll, v9, v10, v11, v12, v13⟩
    · unfold X5_undo X0_size X0_dropLatest
      rw [zz_call, a4.1, if_pos (show (1 : Int32) ≤ nI A.1 from nI_le (a := 1) (by omega) (by omega)), if_neg (nI_nle (by omega) (by omega)), zz_put, zz_call, show nI A.1 - 1 = nI (A.1 - 1) from pk_sub (b := 1) (by omega), hM1, e2, zz_call, zz_call, hC2.2.2.2.1.1, hB1]
    · unfold X6_undo
      rw [nl0, zz_ald (by omega) (by omega), r6.1, if_pos (by
        intro e
        have := (nI_eq (a := A.1) (b := 0) (by omega) (by omega)).1 e
        omega), zz_ald (by omega) (by omega), r6.1, nl1, pk_sub (by omega), zz_ast (by omega) (by omega), hM3, e4, zz_call, zz_ald (by omega) (by omega), hR4.2.2.2.2.2.1.1, hB1]
theorem X0_copyFrom_s {t1 : Nat} (hT : LA M t1 A) (h40 : A.1 ≤ 40) (h : t + 4 ≤ t1 ∨ t1 + 4 ≤ t) : ∃ M', X0_copyFrom t t1 M = some ((), M') ∧ LA M' t A ∧ Fr t (t + 4) M M' := by
  obtain ⟨h0, h1⟩ := id hT
  unfold X0_copyFrom
  simp only [nl0, nl40]
  rw [zz_cpy (by omega) (by omega) (by omega), zz_cpy (by omega) (by omega) (by omega), zz_cpy (by omega) (by omega) (by omega), zz_put]
  refine ⟨_, rfl, ⟨?_, fun k hk => ⟨?_, ?_, ?_⟩⟩, ?_⟩
  · simp (disch := omega) only [rw_c, up_s]; exact h0
  · simp (disch := omega) only [rw_c, rw_s, up_c, sb_cpy0]
    exact (h1 k hk).1
  · simp (disch := omega) only [rw_c, rw_s, up_c, sb_cpy0]
    exact (h1 k hk).2.1
  · simp (disch := omega) only [rw_c, rw_s, up_c, sb_cpy0]
    exact (h1 k hk).2.2
  · intro c hc
    simp (disch := omega) only [rw_c, up_c]
theorem X6_copyActs_s {a b : Nat} (hA : RA M u a A) (h40 : A.1 ≤ 40) (ha : a < 3) (hb : b < 3) (hab : a ≠ b) : ∃ M', X6_copyActs u (nI a) (nI b) M = some ((), M') ∧ RA M' u b A ∧ (∀ q B, q ≠ b → B.1 ≤ 40 → RA M u q B → RA M' u q B) ∧ (∀ c, (c < u + 7 ∨ u + 11 ≤ c) → M' c = M c) := by
  unfold X6_copyActs
  rw [zz_ald (by omega) (by omega), zz_ast (by omega) (by omega), hA.1]
  have key : ∃ M', X6_copyActs_14 u (nI a) (nI b) FU (nI 0) (me_upd M (u + 7) b (nI A.1)) = some ((), M') ∧ (∀ c, (c < u + 8 ∨ u + 11 ≤ c) → M' c = me_upd M (u + 7) b (nI A.1) c) ∧ (∀ q, q < 40 → M' (u + 8) (40 * b + q) = M (u + 8) (40 * a + q) ∧ M' (u + 9) (40 * b + q) = M (u + 9) (40 * a + q) ∧ M' (u + 10) (40 * b + q) = M (u + 10) (40 * a + q)) ∧ (∀ q, (q < 40 * b ∨ 40 * b + 40 ≤ q) → M' (u + 8) q = M (u + 8) q ∧ M' (u + 9) q = M (u + 9) q ∧ M' (u + 10) q = M (u + 10) q) := by
    refine lp (S := Int32 × Mem) (fun f z => X6_copyActs_14 u (nI a) (nI b) f z.1 z.2) (fun k z => z.1 = nI k ∧ (∀ c, (c < u + 8 ∨ u + 11 ≤ c) → z.2 c = me_upd M (u + 7) b (nI A.1) c) ∧ (∀ q, q < k → z.2 (u + 8) (40 * b + q) = M (u + 8) (40 * a + q) ∧ z.2 (u + 9) (40 * b + q) = M (u + 9) (40 * a + q) ∧ z.2 (u + 10) (40 * b + q) = M (u + 10) (40 * a + q)) ∧ (∀ q, (q < 40 * b ∨ 40 * b + 40 ≤ q) → z.2 (u + 8) q = M (u + 8) q ∧ z.2 (u + 9) q = M (u + 9) q ∧ z.2 (u + 10) q = M (u + 10) q))
      (fun r => ∃ M', r = some ((), M') ∧ (∀ c, (c < u + 8 ∨ u + 11 ≤ c) → M' c = me_upd M (u + 7) b (nI A.1) c) ∧ (∀ q, q < 40 → M' (u + 8) (40 * b + q) = M (u + 8) (40 * a + q) ∧ M' (u + 9) (40 * b + q) = M (u + 9) (40 * a + q) ∧ M' (u + 10) (40 * b + q) = M (u + 10) (40 * a + q)) ∧ (∀ q, (q < 40 * b ∨ 40 * b + 40 ≤ q) → M' (u + 8) q = M (u + 8) q ∧ M' (u + 9) q = M (u + 9) q ∧ M' (u + 10) q = M (u + 10) q)) 40 ?_ ?_ 0 FU (nI 0, me_upd M (u + 7) b (nI A.1)) (by omega) (FU_lt (by omega)) ⟨rfl, fun c hc => rfl, fun q hq => by omega, fun q hq => by
        refine ⟨?_, ?_, ?_⟩
        · show me_upd M (u + 7) b (nI A.1) (u + 8) q = _
          rw [up_c (by omega)]
        · show me_upd M (u + 7) b (nI A.1) (u + 9) q = _
          rw [up_c (by omega)]
        · show me_upd M (u + 7) b (nI A.1) (u + 10) q = _
          rw [up_c (by omega)]⟩
    · intro k f z hk ⟨e1, h1, h2, h3⟩
      obtain ⟨x, M1⟩ := z
      dsimp only at e1 h1 h2 h3
      subst e1
      left
      have q1 := h3 (40 * a + k) (by omega)
      refine ⟨(nI (k + 1), me_upd (me_upd (me_upd M1 (u + 8) (40 * b + k) (M1 (u + 8) (40 * a + k))) (u + 9) (40 * b + k) (M1 (u + 9) (40 * a + k))) (u + 10) (40 * b + k) (M1 (u + 10) (40 * a + k))), ?_, rfl, fun c hc => ?_, fun q hq => ?_, fun q hq => ?_⟩
      · show X6_copyActs_14 u (nI a) (nI b) (f + 1) (nI k) M1 = X6_copyActs_14 u (nI a) (nI b) f (nI (k + 1)) _
        rw [X6_copyActs_14]
        simp (disch := omega) only [nl0, nl1, nl2, nl3, nl4, nl5, nl6, nl7, nl8, nl9, nl10, nl32, nl40, nl44, nl48, nl57, nl59, nl60, nl63, nl64, nl99, nl100, nl101, nl111, nl112, nl126, nl128, nl200, nl504, nl9999, nl65521, zz_ald, zz_ast, zz_let, zz_call, zz_put, zz_rem, zz_div, zz_rz, zz_rz0, zz_rz1, pk_mul, nI_add, pk_sub, b2_0, b2_1, nI_leI, nI_ltI, nI_eq, up_c]
        rw [if_neg (by omega)]
      · dsimp only
        rw [up_c (by omega), up_c (by omega), up_c (by omega)]
        exact h1 c hc
      · dsimp only
        by_cases hz : q = k
        · subst hz
          refine ⟨?_, ?_, ?_⟩
          · rw [up_c (by omega), up_c (by omega), up_s]; exact q1.1
          · rw [up_c (by omega), up_s]; exact q1.2.1
          · rw [up_s]; exact q1.2.2
        · have := h2 q (by omega)
          refine ⟨?_, ?_, ?_⟩
          · rw [up_c (by omega), up_c (by omega), up_j (by omega)]; exact this.1
          · rw [up_c (by omega), up_j (by omega), up_c (by omega)]; exact this.2.1
          · rw [up_j (by omega), up_c (by omega), up_c (by omega)]; exact this.2.2
      · dsimp only
        have := h3 q hq
        refine ⟨?_, ?_, ?_⟩
        · rw [up_c (by omega), up_c (by omega), up_j (by omega)]; exact this.1
        · rw [up_c (by omega), up_j (by omega), up_c (by omega)]; exact this.2.1
        · rw [up_j (by omega), up_c (by omega), up_c (by omega)]; exact this.2.2
    · intro f z ⟨e1, h1, h2, h3⟩
      obtain ⟨x, M1⟩ := z
      dsimp only at e1 h1 h2 h3
      subst e1
      refine ⟨M1, ?_, h1, h2, h3⟩
      show X6_copyActs_14 u (nI a) (nI b) (f + 1) (nI 40) M1 = _
      rw [X6_copyActs_14, if_pos (by decide)]
  obtain ⟨M', e, h1, h2, h3⟩ := key
  refine ⟨M', e, ⟨?_, fun k hk => ?_⟩, fun q B hq hB hRA => ⟨?_, fun k hk => ?_⟩, fun c hc => ?_⟩
  · rw [h1 _ (by omega), up_s]
  · have := h2 k (by omega)
    rw [this.1, this.2.1, this.2.2]
    exact hA.2 k hk
  · rw [h1 _ (by omega), up_j hq]
    exact hRA.1
  · have := h3 (40 * q + k) (by omega)
    rw [this.1, this.2.1, this.2.2]
    exact hRA.2 k hk
  · rw [h1 _ (by omega), up_c (by omega)]
end KEEP
