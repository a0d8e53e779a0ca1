/-! ===== ACTS ===== -/
def a_add (A : Al) (kind i j : Nat) : Al := (A.1 + 1, fun k => if k = A.1 then (kind, i, j) else A.2 k)
section ACTS
variable {M M' : Mem} {t u n ea kp i j c kind : Nat} {K S : Nat → Nat} {d0 d : Dm} {s : Ts} {A A1 A2 : Al} {tx Z : Tx}
theorem a_all_add (h : a_all n A) (hA : a_ok n kind i j) (hf : A.1 < 40) : a_all n (a_add A kind i j) := by
  refine ⟨by show A.1 + 1 ≤ 40; omega, fun k hk => ?_⟩
  by_cases hz : k = A.1
  · have e : (a_add A kind i j).2 k = (kind, i, j) := if_pos hz
    rw [e]
    exact hA
  · have e : (a_add A kind i j).2 k = A.2 k := if_neg hz
    rw [e]
    exact h.2 k (by change k < A.1 + 1 at hk; omega)
theorem X0_add_s (h : LA M c A) (hl : A.1 < 40) : ∃ M', X0_add c (nI kind) (nI i) (nI j) M = some ((), M') ∧ LA M' c (a_add A kind i j) ∧ Fr c (c + 4) M M' := by
  obtain ⟨h0, h1⟩ := h
  refine ⟨me_upd (me_upd (me_upd (me_upd M (c + 1) A.1 (nI kind)) (c + 2) A.1 (nI i)) (c + 3) A.1 (nI j)) c 3 (nI (A.1 + 1)), ?_, ⟨up_s, fun k hk => ?_⟩, fun q hq => by rw [up_c (by omega), up_c (by omega), up_c (by omega), up_c (by omega)]⟩
  · unfold X0_add
    have e1 : me_upd M (c + 1) A.1 (nI kind) c 3 = nI A.1 := by rw [up_c (by omega)]; exact h0
    have e2 : me_upd (me_upd M (c + 1) A.1 (nI kind)) (c + 2) A.1 (nI i) c 3 = nI A.1 := by rw [up_c (by omega)]; exact e1
    have e3 : me_upd (me_upd (me_upd M (c + 1) A.1 (nI kind)) (c + 2) A.1 (nI i)) (c + 3) A.1 (nI j) c 3 = nI A.1 := by rw [up_c (by omega)]; exact e2
    rw [h0]
    simp (disch := omega) only [nl0, nl1, nl2, nl3, nl4, nl5, nl6, nl7, nl8, nl9, nl10, nl32, nl40, nl44, nl48, nl57, nl59, nl60, nl63, nl64, nl99, nl100, nl101, nl111, nl112, nl126, nl128, nl200, nl504, nl9999, nl65521, zz_ald, zz_ast, zz_let, zz_call, zz_put, zz_rem, zz_div, zz_rz, zz_rz0, zz_rz1, pk_mul, nI_add, pk_sub, b2_0, b2_1, nI_leI, nI_ltI, nI_eq, e1, e2, e3]
    rw [if_neg (by omega)]
  · by_cases hz : k = A.1
    · have e : (a_add A kind i j).2 k = (kind, i, j) := if_pos hz
      rw [e, hz]
      refine ⟨?_, ?_, ?_⟩
      · rw [up_c (by omega), up_c (by omega), up_c (by omega), up_s]
      · rw [up_c (by omega), up_c (by omega), up_s]
      · rw [up_c (by omega), up_s]
    · have e : (a_add A kind i j).2 k = A.2 k := if_neg hz
      rw [e]
      obtain ⟨g1, g2, g3⟩ := h1 k (by change k < A.1 + 1 at hk; omega)
      refine ⟨?_, ?_, ?_⟩
      · rw [up_c (by omega), up_c (by omega), up_c (by omega), up_j hz]; exact g1
      · rw [up_c (by omega), up_c (by omega), up_j hz, up_c (by omega)]; exact g2
      · rw [up_c (by omega), up_j hz, up_c (by omega), up_c (by omega)]; exact g3
theorem X5_act_s (hC : AC M t tx n ea K S d0 s A kp A1 A2 Z) (hV : SV tx n ea K S d0 s A kp A1 A2 Z) (hA : a_ok n kind i j) (hc : o_can s.1 K s.2.2 kind i j = true) (hf : A.1 < 40) :
    ∃ M', X5_act t (nI kind) (nI i) (nI j) M = some (nI 0, M') ∧ AC M' t tx n ea K S d0 (o_do n K kind i j s) (a_add A kind i j) kp A1 A2 Z ∧ SV tx n ea K S d0 (o_do n K kind i j s) (a_add A kind i j) kp A1 A2 Z ∧ Fr t (t + 44) M M' := by
  obtain ⟨a1, a2, a3, a4, a5, a6, a7, a8, a9⟩ := id hC
  obtain ⟨v1, v2, v3, v4, v5, v6, v7, v8, v9, v10, v11, v12, v13⟩ := id hV
  obtain ⟨M1, e1, hA1, hF1⟩ := X0_add_s (kind := kind) (i := i) (j := j) a4 hf
  have hT1 : TC M1 (t + 16) n s.2.1 ea s.1 K S s.2.2 := a3.fr (fun c h1 h2 => hF1 c (by omega))
  obtain ⟨M2, e2, hT2, hF2⟩ := X4_perform_s hT1 v6 (by omega) hA hc
  obtain ⟨hT3, hV3, hd3⟩ := hT2 _ rfl
  have hF : ∀ c, (c < t + 16 ∨ (t + 21 ≤ c ∧ c < t + 28) ∨ t + 32 ≤ c) → M2 c = M c := fun c hc => by rw [hF2 c (by omega), hF1 c (by omega)]
  refine ⟨M2, ?_, ⟨?_, a2.fr (fun c h1 h2 => hF c (by omega)), hT3, hA1.fr (fun c h1 h2 => hF2 c (by omega)), fun hk => (a5 hk).fr (fun c h1 h2 => hF c (by omega)), fun hk => (a6 hk).fr (fun c h1 h2 => hF c (by omega)), ?_, ?_, ?_⟩, ⟨v1, v2, v3, v4, v5, hV3, ?_, a_all_add v8 hA hf, v9, v10, v11, v12, v13⟩, fun c hc => hF c (by omega)⟩
  · unfold X5_act X0_size
    rw [X4_canBeDoneA_s a3 v6 hA, hc, zz_call, if_pos (by decide), zz_call, a4.1, if_pos (show nI A.1 < (40 : Int32) from nI_lt (b := 40) hf (by omega)), e1, zz_call, e2, zz_call]
    rfl
  · rw [hF _ (by omega), hF _ (by omega)]; exact a1
  · rw [hF _ (by omega)]; exact a7
  · rw [hF _ (by omega)]; exact a8
  · rw [hF _ (by omega)]; exact a9
  · show _ ≤ 9 * (A.1 + 1)
    omega
theorem X5_act_no (hC : AC M t tx n ea K S d0 s A kp A1 A2 Z) (hV : SV tx n ea K S d0 s A kp A1 A2 Z) (hA : a_ok n kind i j) (hc : o_can s.1 K s.2.2 kind i j = false) : X5_act t (nI kind) (nI i) (nI j) M = some (-2, M) := by
  unfold X5_act
  rw [X4_canBeDoneA_s hC.2.2.1 hV.2.2.2.2.2.1 hA, hc, zz_call, if_neg (by decide)]
theorem X5_act_full (hC : AC M t tx n ea K S d0 s A kp A1 A2 Z) (hV : SV tx n ea K S d0 s A kp A1 A2 Z) (hA : a_ok n kind i j) (hc : o_can s.1 K s.2.2 kind i j = true) (hf : ¬ A.1 < 40) : X5_act t (nI kind) (nI i) (nI j) M = some (-3, M) := by
  have h40 := hV.2.2.2.2.2.2.2.1.1
  unfold X5_act X0_size
  rw [X4_canBeDoneA_s hC.2.2.1 hV.2.2.2.2.2.1 hA, hc, zz_call, if_pos (by decide), zz_call, hC.2.2.2.1.1, if_neg (show ¬ nI A.1 < (40 : Int32) from nI_nlt (b := 40) (by omega) (by omega))]
theorem X6_act_s (hR : AR M u tx n ea K S d0 s A kp A1 A2 Z) (hV : SV tx n ea K S d0 s A kp A1 A2 Z) (hA : a_ok n kind i j) (hc : o_can s.1 K s.2.2 kind i j = true) (hf : A.1 < 40) :
    ∃ M', X6_act u (nI kind) (nI (r_i kind i)) (nI (r_j kind j)) M = some (nI 0, M') ∧ AR M' u tx n ea K S d0 (o_do n K kind i j s) (a_add A kind i j) kp A1 A2 Z ∧ Fr u (u + 19) M M' := by
  obtain ⟨a1, a2, a3, a4, a5, a6, a7, a8, a9, a10, a11⟩ := id hR
  obtain ⟨v1, v2, v3, v4, v5, v6, v7, v8, v9, v10, v11, v12, v13⟩ := id hV
  obtain ⟨b1, b2'⟩ := a6
  generalize hM1 : me_upd (me_upd (me_upd (me_upd M (u + 8) A.1 (nI kind)) (u + 9) A.1 (nI (r_i kind i))) (u + 10) A.1 (nI (r_j kind j))) (u + 7) 0 (nI (A.1 + 1)) = M1
  have hF1 : ∀ c, (c < u + 7 ∨ u + 11 ≤ c) → M1 c = M c := fun c hc => by rw [← hM1, up_c (by omega), up_c (by omega), up_c (by omega), up_c (by omega)]
  have hT1 : TR M1 u 0 n s.2.1 s.1 K S s.2.2 := by
    obtain ⟨c0, c1, c2, ck, cs, cd⟩ := a5
    refine ⟨?_, ?_, ?_, ?_, ?_, ?_⟩
    · rw [hF1 _ (by omega)]; exact c0
    · rw [hF1 _ (by omega)]; exact c1
    · rw [hF1 _ (by omega)]; exact c2
    · rw [hF1 _ (by omega)]; exact ck
    · rw [hF1 _ (by omega)]; exact cs
    · rw [hF1 _ (by omega)]; exact cd
  obtain ⟨M2, e2, hT2, hF2⟩ := X6_doAct_s hT1 v6 (by omega) (by omega) hA hc
  obtain ⟨hT3, _, _⟩ := hT2 _ rfl
  have hF : ∀ c, (c < u + 7 ∨ (u + 11 ≤ c ∧ c < u + 13) ∨ u + 17 ≤ c) → M2 c = M c := fun c hc => by rw [hF2.1 c (by omega), hF1 c (by omega)]
  have h7 : M2 (u + 7) = M1 (u + 7) := hF2.1 _ (by omega)
  have h8 : M2 (u + 8) = M1 (u + 8) := hF2.1 _ (by omega)
  have h9 : M2 (u + 9) = M1 (u + 9) := hF2.1 _ (by omega)
  have h10 : M2 (u + 10) = M1 (u + 10) := hF2.1 _ (by omega)
  have k7 : M1 (u + 7) 0 = nI (A.1 + 1) ∧ ∀ q, q ≠ 0 → M1 (u + 7) q = M (u + 7) q := by
    rw [← hM1]
    exact ⟨up_s, fun q hq => by rw [up_j hq, up_c (by omega), up_c (by omega), up_c (by omega)]⟩
  have k8 : M1 (u + 8) A.1 = nI kind ∧ ∀ q, q ≠ A.1 → M1 (u + 8) q = M (u + 8) q := by
    rw [← hM1]
    exact ⟨by rw [up_c (by omega), up_c (by omega), up_c (by omega), up_s], fun q hq => by rw [up_c (by omega), up_c (by omega), up_c (by omega), up_j hq]⟩
  have k9 : M1 (u + 9) A.1 = nI (r_i kind i) ∧ ∀ q, q ≠ A.1 → M1 (u + 9) q = M (u + 9) q := by
    rw [← hM1]
    exact ⟨by rw [up_c (by omega), up_c (by omega), up_s], fun q hq => by rw [up_c (by omega), up_c (by omega), up_j hq, up_c (by omega)]⟩
  have k10 : M1 (u + 10) A.1 = nI (r_j kind j) ∧ ∀ q, q ≠ A.1 → M1 (u + 10) q = M (u + 10) q := by
    rw [← hM1]
    exact ⟨by rw [up_c (by omega), up_s], fun q hq => by rw [up_c (by omega), up_j hq, up_c (by omega), up_c (by omega)]⟩
  have keep : ∀ q B, 1 ≤ q → RA M u q B → RA M2 u q B := by
    intro q B hq hB
    obtain ⟨g1, g2⟩ := hB
    refine ⟨by rw [h7, k7.2 q (by omega)]; exact g1, fun k hk => ?_⟩
    rw [h8, h9, h10, k8.2 _ (by omega), k9.2 _ (by omega), k10.2 _ (by omega)]
    exact g2 k hk
  refine ⟨M2, ?_, ⟨?_, ?_, ?_, ?_, hT3, ⟨?_, fun k hk => ?_⟩, fun hk => keep 1 A1 (by omega) (a7 hk), fun hk => keep 2 A2 (by omega) (a8 hk), ?_, ?_, ?_⟩, fun c hc => hF c (by omega)⟩
  · unfold X6_act
    have q1 : me_upd M (u + 8) A.1 (nI kind) (u + 7) 0 = nI A.1 := by rw [up_c (by omega)]; exact b1
    have q2 : me_upd (me_upd M (u + 8) A.1 (nI kind)) (u + 9) A.1 (nI (r_i kind i)) (u + 7) 0 = nI A.1 := by rw [up_c (by omega)]; exact q1
    have q3 : me_upd (me_upd (me_upd M (u + 8) A.1 (nI kind)) (u + 9) A.1 (nI (r_i kind i))) (u + 10) A.1 (nI (r_j kind j)) (u + 7) 0 = nI A.1 := by rw [up_c (by omega)]; exact q2
    rw [nl0, X6_canDoA_s a5 v6 (by omega) hA, hc, zz_call, if_pos (by decide)]
    simp (disch := omega) only [nl0, nl1, nl2, nl3, nl4, nl5, nl6, nl7, nl8, nl9, nl10, nl32, nl40, nl44, nl48, nl57, nl59, nl60, nl63, nl64, nl99, nl100, nl101, nl111, nl112, nl126, nl128, nl200, nl504, nl9999, nl65521, zz_ald, zz_ast, zz_let, zz_call, zz_put, zz_rem, zz_div, zz_rz, zz_rz0, zz_rz1, pk_mul, nI_add, pk_sub, b2_0, b2_1, nI_leI, nI_ltI, nI_eq, b1, q1, q2, q3, hM1, e2]
    rw [if_pos (by omega)]
  · rw [hF _ (by omega), hF _ (by omega)]; exact a1
  · rw [hF _ (by omega)]; exact a2
  · rw [hF _ (by omega)]; exact a3
  · rw [hF _ (by omega)]; exact a4
  · rw [h7]; exact k7.1
  · rw [h8, h9, h10, show 40 * 0 + k = k by omega]
    by_cases hz : k = A.1
    · have e : (a_add A kind i j).2 k = (kind, i, j) := if_pos hz
      rw [e, hz]
      exact ⟨k8.1, k9.1, k10.1⟩
    · have e : (a_add A kind i j).2 k = A.2 k := if_neg hz
      rw [e, k8.2 _ hz, k9.2 _ hz, k10.2 _ hz]
      have := b2' k (by change k < A.1 + 1 at hk; omega)
      rw [show 40 * 0 + k = k by omega] at this
      exact this
  · rw [hF _ (by omega)]; exact a9
  · rw [hF _ (by omega)]; exact a10
  · rw [hF _ (by omega)]; exact a11
theorem X6_act_no (hR : AR M u tx n ea K S d0 s A kp A1 A2 Z) (hV : SV tx n ea K S d0 s A kp A1 A2 Z) (hA : a_ok n kind i j) (hc : o_can s.1 K s.2.2 kind i j = false) : X6_act u (nI kind) (nI (r_i kind i)) (nI (r_j kind j)) M = some (-2, M) := by
  unfold X6_act
  rw [nl0, X6_canDoA_s hR.2.2.2.2.1 hV.2.2.2.2.2.1 (by omega) hA, hc, zz_call, if_neg (by decide)]
theorem X6_act_full (hR : AR M u tx n ea K S d0 s A kp A1 A2 Z) (hV : SV tx n ea K S d0 s A kp A1 A2 Z) (hA : a_ok n kind i j) (hc : o_can s.1 K s.2.2 kind i j = true) (hf : ¬ A.1 < 40) : X6_act u (nI kind) (nI (r_i kind i)) (nI (r_j kind j)) M = some (-3, M) := by
  have h40 := hV.2.2.2.2.2.2.2.1.1
  unfold X6_act
  rw [nl0, X6_canDoA_s hR.2.2.2.2.1 hV.2.2.2.2.2.1 (by omega) hA, hc, zz_call, if_pos (by decide), zz_ald (by omega) (by omega), hR.2.2.2.2.2.1.1, show A.1 = 40 by omega, if_neg (by decide)]
theorem s_call_id {r : Option (Int32 × Mem)} : (s_call r fun v M => some (v, M)) = r := by
  cases r with
  | none => rfl
  | some q => rfl
theorem P_two {x y : Int32} (hk : kind ≤ 2) (hC : AC M t tx n ea K S d0 s A kp A1 A2 Z) (hR : AR M u tx n ea K S d0 s A kp A1 A2 Z) (hV : SV tx n ea K S d0 s A kp A1 A2 Z) (htu : t + 44 ≤ u) : PS t u M (X5_actOfTwo t (nI kind) x y) (X6_actOfTwo u (nI kind) x y) := by
  have hn := hV.2.1
  have hn7 := hV.2.2.2.2.1.1
  rcases two_c (x := x) (y := y) hn hn7 with ⟨h, i, j, hi, hj, hij, rfl, rfl⟩ | h
  · have hA : a_ok n kind i j := ⟨by omega, fun _ => ⟨hi, hj, hij⟩, fun h => by omega, fun h => by omega⟩
    have ri : r_i kind i = i := if_neg (by omega)
    have rj : r_j kind j = j := if_neg (by omega)
    by_cases hc : o_can s.1 K s.2.2 kind i j = true
    · by_cases hf : A.1 < 40
      · obtain ⟨M1, e1, hC1, hV1, hF1⟩ := X5_act_s hC hV hA hc hf
        have hR1 : AR M1 u tx n ea K S d0 s A kp A1 A2 Z := hR.out (fun c h1 h2 => hF1 c (by omega))
        obtain ⟨M2, e2, hR2, hF2⟩ := X6_act_s hR1 hV hA hc hf
        rw [ri, rj] at e2
        refine PS.of (v := nI ((o_do n K kind i j s).2.2 i j)) htu ?_ hC1 ?_ hR2 hF2 hV1
        · unfold X5_actOfTwo
          rw [X5_areTwo_s hC hn hn7, h, zz_call, if_pos (by decide), e1, zz_call, if_pos (by decide), X4_debt_s hC1.2.2.1 (by omega) (by omega), zz_call]
        · unfold X6_actOfTwo X6_actOfTwo_20
          rw [X6_areTwo_s hR1 hn hn7, h, zz_call, if_neg (by decide), e2, zz_call, if_pos (by decide), if_pos (by
            intro e
            have := (nI_eq (a := kind) (b := 3) (by omega) (by omega)).1 e
            omega), nl0, X6_debt_s hR2.2.2.2.2.1 (by omega) (by omega) (by omega), zz_call]
      · refine PS.ro (v := -3) hC hR hV htu ⟨M, ?_, Sc.rf⟩ (fun M1 hR1 => ⟨M1, ?_, ScR.rf⟩)
        · unfold X5_actOfTwo
          rw [X5_areTwo_s hC hn hn7, h, zz_call, if_pos (by decide), X5_act_full hC hV hA hc hf, zz_call, if_neg (by decide)]
        · have e2 := X6_act_full hR1 hV hA hc hf
          rw [ri, rj] at e2
          unfold X6_actOfTwo X6_actOfTwo_20
          rw [X6_areTwo_s hR1 hn hn7, h, zz_call, if_neg (by decide), e2, zz_call, if_neg (by decide)]
    · have hc : o_can s.1 K s.2.2 kind i j = false := by simpa using hc
      refine PS.ro (v := -2) hC hR hV htu ⟨M, ?_, Sc.rf⟩ (fun M1 hR1 => ⟨M1, ?_, ScR.rf⟩)
      · unfold X5_actOfTwo
        rw [X5_areTwo_s hC hn hn7, h, zz_call, if_pos (by decide), X5_act_no hC hV hA hc, zz_call, if_neg (by decide)]
      · have e2 := X6_act_no hR1 hV hA hc
        rw [ri, rj] at e2
        unfold X6_actOfTwo X6_actOfTwo_20
        rw [X6_areTwo_s hR1 hn hn7, h, zz_call, if_neg (by decide), e2, zz_call, if_neg (by decide)]
  · refine PS.ro (v := -1) hC hR hV htu ⟨M, ?_, Sc.rf⟩ (fun M1 hR1 => ⟨M1, ?_, ScR.rf⟩)
    · unfold X5_actOfTwo
      rw [X5_areTwo_s hC hn hn7, h, zz_call, if_neg (by decide)]
    · unfold X6_actOfTwo X6_actOfTwo_20
      rw [X6_areTwo_s hR1 hn hn7, h, zz_call, if_pos (by decide), if_neg (by decide)]
theorem P_wrong {x y : Int32} (hC : AC M t tx n ea K S d0 s A kp A1 A2 Z) (hR : AR M u tx n ea K S d0 s A kp A1 A2 Z) (hV : SV tx n ea K S d0 s A kp A1 A2 Z) (htu : t + 44 ≤ u) : PS t u M (X5_wrong t x y) (X6_wrong u x y) := by
  have e1 : X5_wrong t x y = X5_actOfTwo t (nI 0) x y := by funext M; unfold X5_wrong; exact s_call_id
  have e2 : X6_wrong u x y = X6_actOfTwo u (nI 0) x y := by funext M; unfold X6_wrong; exact s_call_id
  rw [e1, e2]
  exact P_two (by omega) hC hR hV htu
theorem P_bow {x y : Int32} (hC : AC M t tx n ea K S d0 s A kp A1 A2 Z) (hR : AR M u tx n ea K S d0 s A kp A1 A2 Z) (hV : SV tx n ea K S d0 s A kp A1 A2 Z) (htu : t + 44 ≤ u) : PS t u M (X5_bow t x y) (X6_bow u x y) := by
  have e1 : X5_bow t x y = X5_actOfTwo t (nI 1) x y := by funext M; unfold X5_bow; exact s_call_id
  have e2 : X6_bow u x y = X6_actOfTwo u (nI 1) x y := by funext M; unfold X6_bow; exact s_call_id
  rw [e1, e2]
  exact P_two (by omega) hC hR hV htu
theorem P_refuse {x y : Int32} (hC : AC M t tx n ea K S d0 s A kp A1 A2 Z) (hR : AR M u tx n ea K S d0 s A kp A1 A2 Z) (hV : SV tx n ea K S d0 s A kp A1 A2 Z) (htu : t + 44 ≤ u) : PS t u M (X5_refuse t x y) (X6_refuse u x y) := by
  have e1 : X5_refuse t x y = X5_actOfTwo t (nI 2) x y := by funext M; unfold X5_refuse; exact s_call_id
  have e2 : X6_refuse u x y = X6_actOfTwo u (nI 2) x y := by funext M; unfold X6_refuse; exact s_call_id
  rw [e1, e2]
  exact P_two (by omega) hC hR hV htu
theorem P_atOnce {x y : Int32} (hC : AC M t tx n ea K S d0 s A kp A1 A2 Z) (hR : AR M u tx n ea K S d0 s A kp A1 A2 Z) (hV : SV tx n ea K S d0 s A kp A1 A2 Z) (htu : t + 44 ≤ u) : PS t u M (X5_atOnce t x y) (X6_atOnce u x y) := by
  have hn := hV.2.1
  have hn7 := hV.2.2.2.2.1.1
  have e0 : X6_atOnce u x y = X6_actOfTwo u (nI 3) x y := by funext M; unfold X6_atOnce; exact s_call_id
  rw [e0]
  rcases two_c (x := x) (y := y) hn hn7 with ⟨h, i, j, hi, hj, hij, rfl, rfl⟩ | h
  · have hA : a_ok n 3 i j := ⟨by omega, fun _ => ⟨hi, hj, hij⟩, fun h => by omega, fun h => by omega⟩
    by_cases hc : o_can s.1 K s.2.2 3 i j = true
    · by_cases hf : A.1 < 40
      · obtain ⟨M1, e1, hC1, hV1, hF1⟩ := X5_act_s hC hV hA hc hf
        have hR1 : AR M1 u tx n ea K S d0 s A kp A1 A2 Z := hR.out (fun c h1 h2 => hF1 c (by omega))
        obtain ⟨M2, e2, hR2, hF2⟩ := X6_act_s hR1 hV hA hc hf
        have q := hV1.2.2.2.2.2.1.2.2.2.1 i j
        refine PS.of (v := nI ((o_do n K 3 i j s).2.2 i j + (o_do n K 3 i j s).2.2 j i)) htu ?_ hC1 ?_ hR2 hF2 hV1
        · unfold X5_atOnce X5_actOfTwo
          rw [X5_areTwo_s hC hn hn7, h, zz_call, if_pos (by decide), show X5_act t 3 (nI i) (nI j) M = _ from e1, zz_call, if_pos (by decide), X4_debt_s hC1.2.2.1 (by omega) (by omega), zz_call, zz_call, if_pos (nI_pos' (by omega)), X4_debt_s hC1.2.2.1 (by omega) (by omega), zz_call, X4_debt_s hC1.2.2.1 (by omega) (by omega), zz_call, nI_add]
        · unfold X6_actOfTwo X6_actOfTwo_20
          rw [X6_areTwo_s hR1 hn hn7, h, zz_call, if_neg (by decide), show X6_act u (nI 3) (nI i) (nI j) M1 = _ from e2, zz_call, if_pos (by decide), if_neg (by decide), nl0, X6_debt_s hR2.2.2.2.2.1 (by omega) (by omega) (by omega), zz_call, X6_debt_s hR2.2.2.2.2.1 (by omega) (by omega) (by omega), zz_call, nI_add]
      · refine PS.ro (v := -3) hC hR hV htu ⟨M, ?_, Sc.rf⟩ (fun M1 hR1 => ⟨M1, ?_, ScR.rf⟩)
        · unfold X5_atOnce X5_actOfTwo
          rw [X5_areTwo_s hC hn hn7, h, zz_call, if_pos (by decide), show X5_act t 3 (nI i) (nI j) M = _ from X5_act_full hC hV hA hc hf, zz_call, if_neg (by decide), zz_call, if_neg (by decide)]
        · unfold X6_actOfTwo X6_actOfTwo_20
          rw [X6_areTwo_s hR1 hn hn7, h, zz_call, if_neg (by decide), show X6_act u (nI 3) (nI i) (nI j) M1 = _ from X6_act_full hR1 hV hA hc hf, zz_call, if_neg (by decide)]
    · have hc : o_can s.1 K s.2.2 3 i j = false := by simpa using hc
      refine PS.ro (v := -2) hC hR hV htu ⟨M, ?_, Sc.rf⟩ (fun M1 hR1 => ⟨M1, ?_, ScR.rf⟩)
      · unfold X5_atOnce X5_actOfTwo
        rw [X5_areTwo_s hC hn hn7, h, zz_call, if_pos (by decide), show X5_act t 3 (nI i) (nI j) M = _ from X5_act_no hC hV hA hc, zz_call, if_neg (by decide), zz_call, if_neg (by decide)]
      · unfold X6_actOfTwo X6_actOfTwo_20
        rw [X6_areTwo_s hR1 hn hn7, h, zz_call, if_neg (by decide), show X6_act u (nI 3) (nI i) (nI j) M1 = _ from X6_act_no hR1 hV hA hc, zz_call, if_neg (by decide)]
  · refine PS.ro (v := -1) hC hR hV htu ⟨M, ?_, Sc.rf⟩ (fun M1 hR1 => ⟨M1, ?_, ScR.rf⟩)
    · unfold X5_atOnce X5_actOfTwo
      rw [X5_areTwo_s hC hn hn7, h, zz_call, if_neg (by decide), zz_call, if_neg (by decide)]
    · unfold X6_actOfTwo X6_actOfTwo_20
      rw [X6_areTwo_s hR1 hn hn7, h, zz_call, if_pos (by decide), if_neg (by decide)]
theorem P_die {x : Int32} (hC : AC M t tx n ea K S d0 s A kp A1 A2 Z) (hR : AR M u tx n ea K S d0 s A kp A1 A2 Z) (hV : SV tx n ea K S d0 s A kp A1 A2 Z) (htu : t + 44 ≤ u) : PS t u M (X5_die t x) (X6_die u x) := by
  have hn := hV.2.1
  have hn7 := hV.2.2.2.2.1.1
  rcases inR_c (lo := 0) (hi := n - 1) (x := x) (by omega) (by omega) with ⟨h, i, _, hi, rfl⟩ | ⟨h, _⟩
  · have hA : a_ok n 4 i i := ⟨by omega, fun h => by omega, fun h => by omega, fun h => by omega⟩
    by_cases hc : o_can s.1 K s.2.2 4 i i = true
    · by_cases hf : A.1 < 40
      · obtain ⟨M1, e1, hC1, hV1, hF1⟩ := X5_act_s hC hV hA hc hf
        have hR1 : AR M1 u tx n ea K S d0 s A kp A1 A2 Z := hR.out (fun c h1 h2 => hF1 c (by omega))
        obtain ⟨M2, e2, hR2, hF2⟩ := X6_act_s hR1 hV hA hc hf
        have qa := hV1.2.2.2.2.2.1.al
        refine PS.of (v := nI (pc (o_do n K 4 i i s).1)) htu ?_ hC1 ?_ hR2 hF2 hV1
        · unfold X5_die X4_aliveBits
          rw [X5_isPerson_s hC hn hn7, h, zz_call, if_pos (by decide), show X5_act t 4 (nI i) (nI i) M = _ from e1, zz_call, if_pos (by decide), zz_call, hC1.2.2.1.2.2.2.1, J6_bitCount_s qa, zz_call]
        · unfold X6_die
          rw [X6_isPerson_s hR1 hn hn7, h, zz_call, if_neg (by decide), show X6_act u 4 (nI i) 0 M1 = _ from e2, zz_call, if_pos (by decide), nl0, zz_ald (by omega) (by omega), hR2.2.2.2.2.1.2.2.1, X6_bits_s qa, zz_call]
      · refine PS.ro (v := -3) hC hR hV htu ⟨M, ?_, Sc.rf⟩ (fun M1 hR1 => ⟨M1, ?_, ScR.rf⟩)
        · unfold X5_die
          rw [X5_isPerson_s hC hn hn7, h, zz_call, if_pos (by decide), show X5_act t 4 (nI i) (nI i) M = _ from X5_act_full hC hV hA hc hf, zz_call, if_neg (by decide)]
        · unfold X6_die
          rw [X6_isPerson_s hR1 hn hn7, h, zz_call, if_neg (by decide), show X6_act u 4 (nI i) 0 M1 = _ from X6_act_full hR1 hV hA hc hf, zz_call, if_neg (by decide)]
    · have hc : o_can s.1 K s.2.2 4 i i = false := by simpa using hc
      refine PS.ro (v := -2) hC hR hV htu ⟨M, ?_, Sc.rf⟩ (fun M1 hR1 => ⟨M1, ?_, ScR.rf⟩)
      · unfold X5_die
        rw [X5_isPerson_s hC hn hn7, h, zz_call, if_pos (by decide), show X5_act t 4 (nI i) (nI i) M = _ from X5_act_no hC hV hA hc, zz_call, if_neg (by decide)]
      · unfold X6_die
        rw [X6_isPerson_s hR1 hn hn7, h, zz_call, if_neg (by decide), show X6_act u 4 (nI i) 0 M1 = _ from X6_act_no hR1 hV hA hc, zz_call, if_neg (by decide)]
  · refine PS.ro (v := -1) hC hR hV htu ⟨M, ?_, Sc.rf⟩ (fun M1 hR1 => ⟨M1, ?_, ScR.rf⟩)
    · unfold X5_die
      rw [X5_isPerson_s hC hn hn7, h, zz_call, if_neg (by decide)]
    · unfold X6_die
      rw [X6_isPerson_s hR1 hn hn7, h, zz_call, if_pos (by decide), if_neg (by decide)]
theorem P_days {x : Int32} (hC : AC M t tx n ea K S d0 s A kp A1 A2 Z) (hR : AR M u tx n ea K S d0 s A kp A1 A2 Z) (hV : SV tx n ea K S d0 s A kp A1 A2 Z) (htu : t + 44 ≤ u) : PS t u M (X5_days t x) (X6_days u x) := by
  rcases inR_c (lo := 1) (hi := 9) (x := x) (by omega) (by omega) with ⟨h, i, hi1, hi, rfl⟩ | ⟨h, h2⟩
  · have hA : a_ok n 5 i i := ⟨by omega, fun h => by omega, fun h => by omega, fun h => ⟨rfl, hi1, hi⟩⟩
    have l1 : ¬ nI i < (1 : Int32) := nI_nlt (b := 1) (by omega) (by omega)
    have l2 : nI i ≤ (9 : Int32) := nI_le (b := 9) (by omega) (by omega)
    have hc : o_can s.1 K s.2.2 5 i i = true := rfl
    by_cases hf : A.1 < 40
    · obtain ⟨M1, e1, hC1, hV1, hF1⟩ := X5_act_s hC hV hA hc hf
      have hR1 : AR M1 u tx n ea K S d0 s A kp A1 A2 Z := hR.out (fun c h1 h2 => hF1 c (by omega))
      obtain ⟨M2, e2, hR2, hF2⟩ := X6_act_s hR1 hV hA hc hf
      refine PS.of (v := nI (o_do n K 5 i i s).2.1) htu ?_ hC1 ?_ hR2 hF2 hV1
      · unfold X5_days X4_day
        rw [if_neg l1, if_pos l2, show X5_act t 5 (nI i) (nI i) M = _ from e1, zz_call, if_pos (by decide), zz_call, hC1.2.2.1.2.1]
      · unfold X6_days
        rw [show X6_in (nI i).toInt64 1 9 M1 = _ from X6_in_s (lo := 1) (hi := 9), h, zz_call, if_neg (by decide), show X6_act u 5 0 (nI i) M1 = _ from e2, zz_call, if_pos (by decide), nl0, zz_ald (by omega) (by omega), hR2.2.2.2.2.1.2.1]
    · refine PS.ro (v := -3) hC hR hV htu ⟨M, ?_, Sc.rf⟩ (fun M1 hR1 => ⟨M1, ?_, ScR.rf⟩)
      · unfold X5_days
        rw [if_neg l1, if_pos l2, show X5_act t 5 (nI i) (nI i) M = _ from X5_act_full hC hV hA hc hf, zz_call, if_neg (by decide)]
      · unfold X6_days
        rw [show X6_in (nI i).toInt64 1 9 M1 = _ from X6_in_s (lo := 1) (hi := 9), h, zz_call, if_neg (by decide), show X6_act u 5 0 (nI i) M1 = _ from X6_act_full hR1 hV hA hc hf, zz_call, if_neg (by decide)]
  · refine PS.ro (v := -1) hC hR hV htu ⟨M, ?_, Sc.rf⟩ (fun M1 hR1 => ⟨M1, ?_, ScR.rf⟩)
    · unfold X5_days
      rcases h2 with h2 | h2
      · rw [if_pos (show x < 1 from h2)]
      · by_cases h3 : x < 1
        · rw [if_pos h3]
        · rw [if_neg h3, if_neg (show ¬ x ≤ 9 from Int32.not_le.2 h2)]
    · unfold X6_days
      rw [show X6_in x.toInt64 1 9 M1 = _ from X6_in_s (lo := 1) (hi := 9), h, zz_call, if_pos (by decide), if_neg (by decide)]
end ACTS
