/-! ===== what the start gives ===== -/
theorem gv_N : ∀ i : Nat, i < 1 → ([60] : List Nat).getD i 0 < 2 ^ 31 := by decide
theorem gv_ex : (Cond.exactly (.string "LadderOfBows" 64) "java/lang/String") ∈ flatC (Jvm.Cond.and given_1 narrow_1) := by decide +kernel
theorem gv_co : (Cond.eq (.field (.string "LadderOfBows" 64) "java/lang/String" "coder" "B") (.int 0)) ∈ flatC (Jvm.Cond.and given_1 narrow_1) := by decide +kernel
theorem gv_ar : (Cond.arrayOf (.field (.string "LadderOfBows" 64) "java/lang/String" "value" "[B") .byte) ∈ flatC (Jvm.Cond.and given_1 narrow_1) := by decide +kernel
theorem gv_le : (Cond.eq (.length (.field (.string "LadderOfBows" 64) "java/lang/String" "value" "[B")) (.int (Int32.ofNat 60))) ∈ flatC (Jvm.Cond.and given_1 narrow_1) := by decide +kernel
theorem gv_el : ∀ j : Nat, j < 60 → (Cond.eq (.elem (.field (.string "LadderOfBows" 64) "java/lang/String" "value" "[B") (.int (Int32.ofNat j))) (.int (f_B.getD j 0))) ∈ flatC (Jvm.Cond.and given_1 narrow_1) := by decide +kernel
theorem gv_z1 : (Cond.eq (.static "java/lang/String" "COMPACT_STRINGS" "Z") (.int 1)) ∈ flatC (Jvm.Cond.and given_1 narrow_1) := by decide +kernel
theorem gv_z2 : (Cond.isRef (.static "jdk/internal/util/Preconditions" "SIOOBE_FORMATTER" "Ljava/util/function/BiFunction;")) ∈ flatC (Jvm.Cond.and given_1 narrow_1) := by decide +kernel
theorem tb_l1 : (Cond.laysStatic "java/lang/String" "COMPACT_STRINGS" "Z") ∈ lw_tbl := by decide +kernel
theorem tb_l2 : (Cond.laysStatic "jdk/internal/util/Preconditions" "SIOOBE_FORMATTER" "Ljava/util/function/BiFunction;") ∈ lw_tbl := by decide +kernel
theorem tb_i1 : (Cond.initialized "java/lang/String") ∈ lw_tbl := by decide +kernel
theorem tb_i2 : (Cond.initialized "jdk/internal/util/Preconditions") ∈ lw_tbl := by decide +kernel
theorem tb_st : (Cond.stringRef RX5 64 f_tx) ∈ lw_tbl := by decide +kernel
theorem tb_nw : ∀ q ∈ f_nw, Cond.methodLinkNest RX5 q.1 q.2 RX5 ∈ lw_tbl := by decide +kernel
theorem gv_E {s : State} {b : Nat} (hts : ∀ w ∈ lw_tbl, w.before #[Value.ref b] s = true) (hgv : (Jvm.Cond.and given_1 narrow_1).before #[Value.ref b] s = true) : ∃ aK aV : Nat → Nat, fs_E (bA s.heap.size) aK aV s := by
  have hs := flat_of_before _ hgv
  have hA : ∀ a : Nat, a < s.heap.size → ¬ bA s.heap.size a := fun a h => Nat.not_le.mpr h
  obtain ⟨aK, aV, h1, h2⟩ := vk_Sof (args := #[Value.ref b]) (s := s) (N := 1) (tm := fun _ => .string "LadderOfBows" 64) (len := [60]) (byt := [f_B]) (A := bA s.heap.size) gv_N (fun _ _ => hs _ gv_ex) (fun _ _ => hs _ gv_co) (fun _ _ => hs _ gv_ar)
    (fun i hi => by
      have h : i = 0 := by omega
      subst h
      exact hs _ gv_le)
    (fun i hi j hj => by
      have h : i = 0 := by omega
      subst h
      exact hs _ (gv_el j hj))
    (fun i j hi hj hij => absurd (show i = j by omega) hij) hA
  exact ⟨aK, aV, h1, vk_R.of (hts _ tb_st) (h2 0 (by decide)), va_Zof (hts _ tb_l1) (hts _ tb_i1) (va_eqi (hs _ gv_z1)) hA, va_Zqof (hts _ tb_l2) (hts _ tb_i2) (hs _ gv_z2) hA, fun q hq => va_Nw.of rfl (hts _ (tb_nw q hq))⟩
