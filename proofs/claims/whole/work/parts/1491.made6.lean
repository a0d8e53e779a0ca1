/-! ===== the first town, in the reference ===== -/
def k_1 : Nat → Nat := fun i => if i = 2 then 1 else if i = 3 then 2 else if i = 4 then 3 else 0
def s_1 : Nat → Nat := fun i => if i = 1 then 1 else if i = 3 then 1 else 0
def d_1 : Dm := fun i j => if i = 0 ∧ j = 1 then 1 else if i = 1 ∧ j = 2 then 2 else if i = 2 ∧ j = 0 then 1 else if i = 3 ∧ j = 4 then 3 else if i = 4 ∧ j = 3 then 1 else 0
def no_T : Tx := (0, fun _ => 0)
def no_A : Al := (0, fun _ => (0, 0, 0))
theorem t_ok_1 : t_ok 5 (2 ^ 5 - 1) k_1 d_1 := by
  refine ⟨by omega, by decide, fun i _ => ?_, fun i j => ?_, fun i j h => ?_⟩
  · unfold k_1
    split
    · omega
    · split
      · omega
      · split <;> omega
  · unfold d_1
    split
    · omega
    · split
      · omega
      · split
        · omega
        · split
          · omega
          · split <;> omega
  · have hb : ∀ k, k < 5 → (2 ^ 5 - 1 : Nat).testBit k = true := by decide
    have key : i < 5 ∧ j < 5 ∧ i ≠ j := by
      unfold d_1 at h
      split at h
      · omega
      · split at h
        · omega
        · split at h
          · omega
          · split at h
            · omega
            · split at h
              · omega
              · exact absurd rfl h
    exact ⟨key.1, key.2.1, key.2.2, hb i key.1, hb j key.2.1⟩
section MADE6
variable {M M' : Mem} {t u n : Nat}
theorem noTown0_s : ∃ M', X6_noTown u (0 : Int32) M = some ((), M') ∧ M' (u + 2) 0 = nI 0 ∧ M' (u + 6) 0 = nI 40 ∧ (∀ q, q < 64 → M' (u + 5) q = nI 0) ∧ (∀ c, c ≠ u + 2 → c ≠ u + 5 → c ≠ u + 6 → M' c = M c) := by
  unfold X6_noTown
  rw [nl0, zz_ast (by omega) (by omega), zz_ast (by omega) (by omega)]
  refine lp (S := Int32 × Mem) (fun f z => X6_noTown_17 u (nI 0) f z.1 z.2) (fun k z => z.1 = nI k ∧ z.2 (u + 2) 0 = nI 0 ∧ z.2 (u + 6) 0 = nI 40 ∧ (∀ q, q < k → z.2 (u + 5) q = nI 0) ∧ (∀ c, c ≠ u + 2 → c ≠ u + 5 → c ≠ u + 6 → z.2 c = M c)) (fun r => ∃ M', r = some ((), M') ∧ M' (u + 2) 0 = nI 0 ∧ M' (u + 6) 0 = nI 40 ∧ (∀ q, q < 64 → M' (u + 5) q = nI 0) ∧ (∀ c, c ≠ u + 2 → c ≠ u + 5 → c ≠ u + 6 → M' c = M c)) 64 ?_ ?_ 0 FU (nI 0, me_upd (me_upd M (u + 2) 0 (nI 0)) (u + 6) 0 40) (by omega) (FU_lt (by omega)) ⟨rfl, by dsimp only; rw [up_c (by omega), up_s], by dsimp only; rw [up_s]; rfl, fun q hq => by omega, fun c h1 h2 h3 => by dsimp only; rw [up_c h3, up_c h1]⟩
  · intro k f z hk ⟨e1, h2, h6, h5, hF⟩
    obtain ⟨x, M2⟩ := z
    dsimp only at e1 h2 h6 h5 hF
    subst e1
    left
    refine ⟨(nI (k + 1), me_upd M2 (u + 5) k (nI 0)), ?_, rfl, by dsimp only; rw [up_c (by omega)]; exact h2, by dsimp only; rw [up_c (by omega)]; exact h6, fun q hq => ?_, fun c h1 h2 h3 => by dsimp only; rw [up_c h2]; exact hF c h1 h2 h3⟩
    · show X6_noTown_17 u (nI 0) (f + 1) (nI k) M2 = _
      rw [X6_noTown_17, if_neg (show ¬ (64 : Int32) ≤ nI k from nI_ge (b := 64) hk (by omega)), show (64 : Int32) * nI 0 = nI 0 from rfl, nI_add, Nat.zero_add, zz_ast (by omega) (by omega), nI_1]
      rfl
    · dsimp only
      by_cases hz : q = k
      · rw [hz, up_s]
      · rw [up_j (by omega)]; exact h5 q (by omega)
  · intro f z ⟨e1, h2, h6, h5, hF⟩
    obtain ⟨x, M2⟩ := z
    dsimp only at e1 h2 h6 h5 hF
    subst e1
    refine ⟨M2, ?_, h2, h6, h5, hF⟩
    show X6_noTown_17 u (nI 0) (f + 1) (nI 64) M2 = _
    rw [X6_noTown_17, if_pos (by decide)]
theorem addPerson0_s {a b : Int32} (hn : M (u + 2) 0 = nI n) (h7 : n < 7) : ∃ M', X6_addPerson u (0 : Int32) a b M = some ((), M') ∧ M' (u + 2) 0 = nI (n + 1) ∧ (M' (u + 3) n = a ∧ ∀ q, q ≠ n → M' (u + 3) q = M (u + 3) q) ∧ (M' (u + 4) n = b ∧ ∀ q, q ≠ n → M' (u + 4) q = M (u + 4) q) ∧ (∀ c, c ≠ u + 2 → c ≠ u + 3 → c ≠ u + 4 → M' c = M c) := by
  refine ⟨me_upd (me_upd (me_upd M (u + 3) n a) (u + 4) n b) (u + 2) 0 (nI (n + 1)), ?_, up_s, ⟨?_, fun q hq => ?_⟩, ⟨?_, fun q hq => ?_⟩, fun c h1 h2 h3 => by rw [up_c h1, up_c h3, up_c h2]⟩
  · unfold X6_addPerson
    rw [nl0, zz_ald (by omega) (by omega), hn, show (8 : Int32) * nI 0 = nI 0 from rfl, nI_add, Nat.zero_add, zz_ast (by omega) (by omega), zz_ald (by omega) (by omega), up_c (by omega), hn, nI_add, Nat.zero_add, zz_ast (by omega) (by omega), zz_ald (by omega) (by omega), up_c (by omega), up_c (by omega), hn, zz_ast (by omega) (by omega), nI_1]
  · rw [up_c (by omega), up_c (by omega), up_s]
  · rw [up_c (by omega), up_c (by omega), up_j hq]
  · rw [up_c (by omega), up_s]
  · rw [up_c (by omega), up_j hq, up_c (by omega)]
theorem X6_made_s (hz : ∀ c, u ≤ c → c < u + 19 → M c = fun _ => 0) : ∃ M', X6_made u M = some ((), M') ∧ AR M' u no_T 5 40 k_1 s_1 d_1 (2 ^ 5 - 1, 0, d_1) no_A 0 no_A no_A no_T ∧ Fr u (u + 19) M M' := by
  obtain ⟨M0, e0, a2, a6, a5, aF⟩ := noTown0_s (M := M) (u := u)
  obtain ⟨M1, e1, b2, ⟨b3, b3'⟩, ⟨b4, b4'⟩, bF⟩ := addPerson0_s (a := 0) (b := 0) a2 (by omega)
  obtain ⟨M2, e2, c2, ⟨c3, c3'⟩, ⟨c4, c4'⟩, cF⟩ := addPerson0_s (a := 0) (b := 1) b2 (by omega)
  obtain ⟨M3, e3, d2, ⟨d3, d3'⟩, ⟨d4, d4'⟩, dF⟩ := addPerson0_s (a := 1) (b := 0) c2 (by omega)
  obtain ⟨M4, e4, f2, ⟨f3, f3'⟩, ⟨f4, f4'⟩, fF⟩ := addPerson0_s (a := 2) (b := 1) d2 (by omega)
  obtain ⟨M5, e5, g2, ⟨g3, g3'⟩, ⟨g4, g4'⟩, gF⟩ := addPerson0_s (a := 3) (b := 0) f2 (by omega)
  obtain ⟨M6, hM6⟩ : ∃ M6, M6 = me_upd (me_upd (me_upd (me_upd (me_upd M5 (u + 5) 1 (nI 1)) (u + 5) 10 (nI 2)) (u + 5) 16 (nI 1)) (u + 5) 28 (nI 3)) (u + 5) 35 (nI 1) := ⟨_, rfl⟩
  have h6 : ∀ c, c ≠ u + 5 → M6 c = M5 c := fun c hc => by rw [hM6, up_c hc, up_c hc, up_c hc, up_c hc, up_c hc]
  have hA : ∀ c, c ≠ u + 2 → c ≠ u + 3 → c ≠ u + 4 → M5 c = M0 c := fun c h1 h2 h3 => by rw [gF c h1 h2 h3, fF c h1 h2 h3, dF c h1 h2 h3, cF c h1 h2 h3, bF c h1 h2 h3]
  have hB : ∀ c, c ≠ u + 2 → c ≠ u + 3 → c ≠ u + 4 → c ≠ u + 5 → c ≠ u + 6 → M6 c = M c := fun c h1 h2 h3 h4 h5 => by rw [h6 c h4, hA c h1 h2 h3, aF c h1 h4 h5]
  have z5 : ∀ q, q < 64 → M5 (u + 5) q = nI 0 := fun q hq => by rw [hA _ (by omega) (by omega) (by omega)]; exact a5 q hq
  have hx : ARx M6 u no_T 5 40 k_1 s_1 d_1 no_A 0 no_A no_A no_T := by
    refine ⟨⟨?_, fun k hk => absurd hk (Nat.not_lt_zero _)⟩, ?_, ?_, fun i j hi hj => ?_, fun i hi => ?_, fun i hi => ?_, ⟨?_, fun k hk => absurd hk (Nat.not_lt_zero _)⟩, fun h => by omega, fun h => by omega, ?_, ?_, fun k hk => absurd hk (Nat.not_lt_zero _)⟩
    · rw [hB _ (by omega) (by omega) (by omega) (by omega) (by omega), hz _ (by omega) (by omega)]; rfl
    · rw [h6 _ (by omega)]; exact g2
    · rw [h6 _ (by omega), hA _ (by omega) (by omega) (by omega)]; exact a6
    · rw [hM6]
      unfold d_1
      by_cases w1 : i = 4 ∧ j = 3
      · obtain ⟨rfl, rfl⟩ := w1
        rw [up_s]; rfl
      · rw [up_j (by omega)]
        by_cases w2 : i = 3 ∧ j = 4
        · obtain ⟨rfl, rfl⟩ := w2
          rw [up_s]; rfl
        · rw [up_j (by omega)]
          by_cases w3 : i = 2 ∧ j = 0
          · obtain ⟨rfl, rfl⟩ := w3
            rw [up_s]; rfl
          · rw [up_j (by omega)]
            by_cases w4 : i = 1 ∧ j = 2
            · obtain ⟨rfl, rfl⟩ := w4
              rw [up_s]; rfl
            · rw [up_j (by omega)]
              by_cases w5 : i = 0 ∧ j = 1
              · obtain ⟨rfl, rfl⟩ := w5
                rw [up_s]; rfl
              · rw [up_j (by omega), z5 _ (by omega), if_neg w5, if_neg w4, if_neg w3, if_neg w2, if_neg w1]
    · rw [h6 _ (by omega)]
      rcases (by omega : i = 0 ∨ i = 1 ∨ i = 2 ∨ i = 3 ∨ i = 4) with rfl | rfl | rfl | rfl | rfl
      · rw [g3' _ (by omega), f3' _ (by omega), d3' _ (by omega), c3' _ (by omega), b3]; rfl
      · rw [g3' _ (by omega), f3' _ (by omega), d3' _ (by omega), c3]; rfl
      · rw [g3' _ (by omega), f3' _ (by omega), d3]; rfl
      · rw [g3' _ (by omega), f3]; rfl
      · rw [g3]; rfl
    · rw [h6 _ (by omega)]
      rcases (by omega : i = 0 ∨ i = 1 ∨ i = 2 ∨ i = 3 ∨ i = 4) with rfl | rfl | rfl | rfl | rfl
      · rw [g4' _ (by omega), f4' _ (by omega), d4' _ (by omega), c4' _ (by omega), b4]; rfl
      · rw [g4' _ (by omega), f4' _ (by omega), d4' _ (by omega), c4]; rfl
      · rw [g4' _ (by omega), f4' _ (by omega), d4]; rfl
      · rw [g4' _ (by omega), f4]; rfl
      · rw [g4]; rfl
    · rw [hB _ (by omega) (by omega) (by omega) (by omega) (by omega), hz _ (by omega) (by omega)]; rfl
    · rw [hB _ (by omega) (by omega) (by omega) (by omega) (by omega), hz _ (by omega) (by omega)]; rfl
    · rw [hB _ (by omega) (by omega) (by omega) (by omega) (by omega), hz _ (by omega) (by omega)]; rfl
  have hA0 : a_all 5 no_A := ⟨by show 0 ≤ 40; omega, fun k hk => absurd hk (Nat.not_lt_zero _)⟩
  obtain ⟨MB, eB, hRB, hFB⟩ := hx.again t_ok_1 hA0
  refine ⟨MB, ?_, hRB, fun c hc => ?_⟩
  · unfold X6_made
    rw [e0, zz_call, e1, zz_call, e2, zz_call, e3, zz_call, e4, zz_call, e5, zz_call]
    rw [show (1 : Int32) = nI 1 from rfl, show (10 : Int32) = nI 10 from rfl, show (2 : Int32) = nI 2 from rfl, show (16 : Int32) = nI 16 from rfl, show (28 : Int32) = nI 28 from rfl, show (3 : Int32) = nI 3 from rfl, show (35 : Int32) = nI 35 from rfl]
    rw [zz_ast (by omega) (by omega), zz_ast (by omega) (by omega), zz_ast (by omega) (by omega), zz_ast (by omega) (by omega), zz_ast (by omega) (by omega), ← hM6, eB, zz_call]
  · rw [hFB.1 c (by omega), hB c (by omega) (by omega) (by omega) (by omega) (by omega)]
end MADE6
