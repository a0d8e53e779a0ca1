/-! ===== the first town's letters, one by one ===== -/
theorem letter_s {M : Mem} {c k : Nat} (hk : k < 60) (h1 : M c 1 = nI k) (h2 : ∀ q, q < k → M (c + 1) q = nI (f_T.2 q)) : ∃ M', X1_add c (nI (f_T.2 k)) M = some ((), M') ∧ M' c 1 = nI (k + 1) ∧ (∀ q, q < k + 1 → M' (c + 1) q = nI (f_T.2 q)) ∧ Fr c (c + 2) M M' := by
  refine ⟨me_upd (me_upd M (c + 1) k (nI (f_T.2 k))) c 1 (nI (k + 1)), ?_, up_s, fun q hq => ?_, fun e he => by rw [up_c (by omega), up_c (by omega)]⟩
  · unfold X1_add
    rw [h1, if_neg (show ¬ (200 : Int32) ≤ nI k from nI_ge (b := 200) (by omega) (by omega)), zz_ast (by omega) (by omega), zz_put, up_c (by omega), h1, nI_1]
  · rw [up_c (by omega)]
    by_cases hz : q = k
    · rw [hz, up_s]
    · rw [up_j hz]; exact h2 q (by omega)
