/-! ===== the law's loop ===== -/
theorem L_four : ∀ L, L < 257 → (Int32.ofNat L - 4).toInt = (L : Int) - 4 := by decide +kernel
set_option maxRecDepth 100000 in
set_option maxHeartbeats 4000000 in
theorem L_loop {p : Program} {l : Launch} {e : Env} {s : State} {m : MethodId} {below : List Frame} {meth : Method} {c : Code} {D : va_G} {cI : ClassId} {ad : Nat → Nat} {Lc : List CDs} {b L t u : Nat} {xs : Nat → Int32} (C0 : L_X p s m meth c b L xs D cI ad Lc t u) : ∀ (n i : Nat), i ≤ L → L + 1 ≤ i + n → ∀ (M : Mem), L_St t u M → ∀ (H : Heap) (locs : List Loc), va_P D vwCl (me_ws cI ad Lc M) H → va_S (me_A ad Lc s.heap.size) s.heap H locs → ∀ (ls : Array Slot), lv_has ls 4 [(0, .ref b), (1, .ref (ad t)), (2, .ref (ad u)), (3, .int (nI i))] → W p l e room_1 s m #[Value.ref b] below meth c H locs 600000 7302249 (lw_Z below #[Value.ref b] s) (F0 m 18 ls []) := by
  have hbA := C0.no
  obtain ⟨⟨hx, hb, hr, hml, hown, hts, hX, hbl, hlocks, hgv⟩, hL, hK, hI, h5, h6, htu, hfr, hw⟩ := id C0
  intro n
  induction n with
  | zero =>
    intro i h1 h2
    exact absurd h2 (by omega)
  | succ n ih =>
    intro i hi hin M hM H locs hP hS ls hl
    refine lv_iload_n hx hb dL_law_18 rfl (lv_at hl 3 rfl) ?_
    refine lv_aload_n hx hb dL_law_19 rfl (lv_at hl 0 rfl) ?_
    refine va_slen hx hb hX hbl hbA hS dL_law_20 ?_
    refine lv_iconst (v := 4) hx hb dL_law_21 (by decide) ?_
    refine lv_isub hx hb dL_law_22 ?_
    refine lv_icmp_gt (tgt := 965) hx hb dL_law_23 (by decide) (fun q => ?_) (fun q => ?_)
    · refine lv_iconst (v := 1) hx hb dL_law_965 (by decide) ?_
      refine va_forget (fun q hq => ?_) ?_
      · rcases hS.2.2 q hq with ⟨k, hk, e⟩ | h
        · rw [e]; exact hfr k hk
        · exact h
      exact lw_ret hx hb hr hlocks dL_law_966
    have h4 : i + 4 ≤ L := by
      rw [Int32.lt_iff_toInt_lt, L_four L (by omega), nI_toInt (by omega)] at q
      omega
    refine lv_aload_n hx hb dL_law_26 rfl (lv_at hl 0 rfl) ?_
    refine lv_iload_n hx hb dL_law_27 rfl (lv_at hl 3 rfl) ?_
    refine va_sld hx hb hX hbl hbA hS (nI_in (show i < L by omega) (by omega)) dL_law_28 ?_
    refine lv_bipush (v := 63) hx hb dL_law_29 (by decide) ?_
    refine lv_iand hx hb dL_law_31 ?_
    refine lv_topi (fun w ew => ?_)
    have kk : ∀ (M2 : Mem), L_St t u M2 → ∀ (H2 : Heap) (locs2 : List Loc), va_P D vwCl (me_ws cI ad Lc M2) H2 → va_S (me_A ad Lc s.heap.size) s.heap H2 locs2 → W p l e room_1 s m #[Value.ref b] below meth c H2 locs2 600000 7302249 (lw_Z below #[Value.ref b] s) (F0 m 959 ls []) := by
      intro M2 hM2 H2 locs2 hP2 hS2
      refine lv_iinc (k := 3) (v := nI (i + 4)) (lv' := [(3, .int (nI (i + 4))), (0, .ref b), (1, .ref (ad t)), (2, .ref (ad u))]) hx hb dL_law_959 hl rfl (nI_add i 4) (by decide) rfl (fun ls hl => ?_)
      refine lv_goto (tgt := 18) hx hb dL_law_962 (by decide) ?_
      exact ih (i + 4) h4 (by omega) M2 hM2 H2 locs2 hP2 hS2 ls (lv_sub hl [1, 2, 3, 0] rfl)
    by_cases q0 : w = 0
    · refine lv_tableIn (tgt := 180) (off := 148) hx hb dL_law_32 (by rw [q0]; decide) (by rw [q0]; decide) (by rw [q0]; rfl) (by decide) ?_
      exact L_case0 C0 h4 hM hP hS hl kk
    by_cases q1 : w = 1
    · refine lv_tableIn (tgt := 203) (off := 171) hx hb dL_law_32 (by rw [q1]; decide) (by rw [q1]; decide) (by rw [q1]; rfl) (by decide) ?_
      exact L_case1 C0 h4 hM hP hS hl kk
    by_cases q2 : w = 2
    · refine lv_tableIn (tgt := 216) (off := 184) hx hb dL_law_32 (by rw [q2]; decide) (by rw [q2]; decide) (by rw [q2]; rfl) (by decide) ?_
      exact L_case2 C0 h4 hM hP hS hl kk
    by_cases q3 : w = 3
    · refine lv_tableIn (tgt := 229) (off := 197) hx hb dL_law_32 (by rw [q3]; decide) (by rw [q3]; decide) (by rw [q3]; rfl) (by decide) ?_
      exact L_case3 C0 h4 hM hP hS hl kk
    by_cases q4 : w = 4
    · refine lv_tableIn (tgt := 242) (off := 210) hx hb dL_law_32 (by rw [q4]; decide) (by rw [q4]; decide) (by rw [q4]; rfl) (by decide) ?_
      exact L_case4 C0 h4 hM hP hS hl kk
    by_cases q5 : w = 5
    · refine lv_tableIn (tgt := 275) (off := 243) hx hb dL_law_32 (by rw [q5]; decide) (by rw [q5]; decide) (by rw [q5]; rfl) (by decide) ?_
      exact L_case5 C0 h4 hM hP hS hl kk
    by_cases q6 : w = 6
    · refine lv_tableIn (tgt := 308) (off := 276) hx hb dL_law_32 (by rw [q6]; decide) (by rw [q6]; decide) (by rw [q6]; rfl) (by decide) ?_
      exact L_case6 C0 h4 hM hP hS hl kk
    by_cases q7 : w = 7
    · refine lv_tableIn (tgt := 341) (off := 309) hx hb dL_law_32 (by rw [q7]; decide) (by rw [q7]; decide) (by rw [q7]; rfl) (by decide) ?_
      exact L_case7 C0 h4 hM hP hS hl kk
    by_cases q8 : w = 8
    · refine lv_tableIn (tgt := 374) (off := 342) hx hb dL_law_32 (by rw [q8]; decide) (by rw [q8]; decide) (by rw [q8]; rfl) (by decide) ?_
      exact L_case8 C0 h4 hM hP hS hl kk
    by_cases q9 : w = 9
    · refine lv_tableIn (tgt := 407) (off := 375) hx hb dL_law_32 (by rw [q9]; decide) (by rw [q9]; decide) (by rw [q9]; rfl) (by decide) ?_
      exact L_case9 C0 h4 hM hP hS hl kk
    by_cases q10 : w = 10
    · refine lv_tableIn (tgt := 440) (off := 408) hx hb dL_law_32 (by rw [q10]; decide) (by rw [q10]; decide) (by rw [q10]; rfl) (by decide) ?_
      exact L_case10 C0 h4 hM hP hS hl kk
    by_cases q11 : w = 11
    · refine lv_tableIn (tgt := 473) (off := 441) hx hb dL_law_32 (by rw [q11]; decide) (by rw [q11]; decide) (by rw [q11]; rfl) (by decide) ?_
      exact L_case11 C0 h4 hM hP hS hl kk
    by_cases q12 : w = 12
    · refine lv_tableIn (tgt := 496) (off := 464) hx hb dL_law_32 (by rw [q12]; decide) (by rw [q12]; decide) (by rw [q12]; rfl) (by decide) ?_
      exact L_case12 C0 h4 hM hP hS hl kk
    by_cases q13 : w = 13
    · refine lv_tableIn (tgt := 519) (off := 487) hx hb dL_law_32 (by rw [q13]; decide) (by rw [q13]; decide) (by rw [q13]; rfl) (by decide) ?_
      exact L_case13 C0 h4 hM hP hS hl kk
    by_cases q14 : w = 14
    · refine lv_tableIn (tgt := 532) (off := 500) hx hb dL_law_32 (by rw [q14]; decide) (by rw [q14]; decide) (by rw [q14]; rfl) (by decide) ?_
      exact L_case14 C0 h4 hM hP hS hl kk
    by_cases q15 : w = 15
    · refine lv_tableIn (tgt := 555) (off := 523) hx hb dL_law_32 (by rw [q15]; decide) (by rw [q15]; decide) (by rw [q15]; rfl) (by decide) ?_
      exact L_case15 C0 h4 hM hP hS hl kk
    by_cases q16 : w = 16
    · refine lv_tableIn (tgt := 588) (off := 556) hx hb dL_law_32 (by rw [q16]; decide) (by rw [q16]; decide) (by rw [q16]; rfl) (by decide) ?_
      exact L_case16 C0 h4 hM hP hS hl kk
    by_cases q17 : w = 17
    · refine lv_tableIn (tgt := 611) (off := 579) hx hb dL_law_32 (by rw [q17]; decide) (by rw [q17]; decide) (by rw [q17]; rfl) (by decide) ?_
      exact L_case17 C0 h4 hM hP hS hl kk
    by_cases q18 : w = 18
    · refine lv_tableIn (tgt := 634) (off := 602) hx hb dL_law_32 (by rw [q18]; decide) (by rw [q18]; decide) (by rw [q18]; rfl) (by decide) ?_
      exact L_case18 C0 h4 hM hP hS hl kk
    by_cases q19 : w = 19
    · refine lv_tableIn (tgt := 647) (off := 615) hx hb dL_law_32 (by rw [q19]; decide) (by rw [q19]; decide) (by rw [q19]; rfl) (by decide) ?_
      exact L_case19 C0 h4 hM hP hS hl kk
    by_cases q20 : w = 20
    · refine lv_tableIn (tgt := 680) (off := 648) hx hb dL_law_32 (by rw [q20]; decide) (by rw [q20]; decide) (by rw [q20]; rfl) (by decide) ?_
      exact L_case20 C0 h4 hM hP hS hl kk
    by_cases q21 : w = 21
    · refine lv_tableIn (tgt := 693) (off := 661) hx hb dL_law_32 (by rw [q21]; decide) (by rw [q21]; decide) (by rw [q21]; rfl) (by decide) ?_
      exact L_case21 C0 h4 hM hP hS hl kk
    by_cases q22 : w = 22
    · refine lv_tableIn (tgt := 706) (off := 674) hx hb dL_law_32 (by rw [q22]; decide) (by rw [q22]; decide) (by rw [q22]; rfl) (by decide) ?_
      exact L_case22 C0 h4 hM hP hS hl kk
    by_cases q23 : w = 23
    · refine lv_tableIn (tgt := 739) (off := 707) hx hb dL_law_32 (by rw [q23]; decide) (by rw [q23]; decide) (by rw [q23]; rfl) (by decide) ?_
      exact L_case23 C0 h4 hM hP hS hl kk
    by_cases q24 : w = 24
    · refine lv_tableIn (tgt := 772) (off := 740) hx hb dL_law_32 (by rw [q24]; decide) (by rw [q24]; decide) (by rw [q24]; rfl) (by decide) ?_
      exact L_case24 C0 h4 hM hP hS hl kk
    by_cases q25 : w = 25
    · refine lv_tableIn (tgt := 795) (off := 763) hx hb dL_law_32 (by rw [q25]; decide) (by rw [q25]; decide) (by rw [q25]; rfl) (by decide) ?_
      exact L_case25 C0 h4 hM hP hS hl kk
    by_cases q26 : w = 26
    · refine lv_tableIn (tgt := 808) (off := 776) hx hb dL_law_32 (by rw [q26]; decide) (by rw [q26]; decide) (by rw [q26]; rfl) (by decide) ?_
      exact L_case26 C0 h4 hM hP hS hl kk
    by_cases q27 : w = 27
    · refine lv_tableIn (tgt := 831) (off := 799) hx hb dL_law_32 (by rw [q27]; decide) (by rw [q27]; decide) (by rw [q27]; rfl) (by decide) ?_
      exact L_case27 C0 h4 hM hP hS hl kk
    by_cases q28 : w = 28
    · refine lv_tableIn (tgt := 844) (off := 812) hx hb dL_law_32 (by rw [q28]; decide) (by rw [q28]; decide) (by rw [q28]; rfl) (by decide) ?_
      exact L_case28 C0 h4 hM hP hS hl kk
    by_cases q29 : w = 29
    · refine lv_tableIn (tgt := 867) (off := 835) hx hb dL_law_32 (by rw [q29]; decide) (by rw [q29]; decide) (by rw [q29]; rfl) (by decide) ?_
      exact L_case29 C0 h4 hM hP hS hl kk
    by_cases q30 : w = 30
    · refine lv_tableIn (tgt := 910) (off := 878) hx hb dL_law_32 (by rw [q30]; decide) (by rw [q30]; decide) (by rw [q30]; rfl) (by decide) ?_
      exact L_case30 C0 h4 hM hP hS hl kk
    by_cases q31 : w = 31
    · refine lv_tableIn (tgt := 923) (off := 891) hx hb dL_law_32 (by rw [q31]; decide) (by rw [q31]; decide) (by rw [q31]; rfl) (by decide) ?_
      exact L_case31 C0 h4 hM hP hS hl kk
    by_cases q32 : w = 32
    · refine lv_tableIn (tgt := 936) (off := 904) hx hb dL_law_32 (by rw [q32]; decide) (by rw [q32]; decide) (by rw [q32]; rfl) (by decide) ?_
      exact L_case32 C0 h4 hM hP hS hl kk
    have e0 := lv_neT (a := 0) q0 (by decide)
    have e1 := lv_neT (a := 1) q1 (by decide)
    have e2 := lv_neT (a := 2) q2 (by decide)
    have e3 := lv_neT (a := 3) q3 (by decide)
    have e4 := lv_neT (a := 4) q4 (by decide)
    have e5 := lv_neT (a := 5) q5 (by decide)
    have e6 := lv_neT (a := 6) q6 (by decide)
    have e7 := lv_neT (a := 7) q7 (by decide)
    have e8 := lv_neT (a := 8) q8 (by decide)
    have e9 := lv_neT (a := 9) q9 (by decide)
    have e10 := lv_neT (a := 10) q10 (by decide)
    have e11 := lv_neT (a := 11) q11 (by decide)
    have e12 := lv_neT (a := 12) q12 (by decide)
    have e13 := lv_neT (a := 13) q13 (by decide)
    have e14 := lv_neT (a := 14) q14 (by decide)
    have e15 := lv_neT (a := 15) q15 (by decide)
    have e16 := lv_neT (a := 16) q16 (by decide)
    have e17 := lv_neT (a := 17) q17 (by decide)
    have e18 := lv_neT (a := 18) q18 (by decide)
    have e19 := lv_neT (a := 19) q19 (by decide)
    have e20 := lv_neT (a := 20) q20 (by decide)
    have e21 := lv_neT (a := 21) q21 (by decide)
    have e22 := lv_neT (a := 22) q22 (by decide)
    have e23 := lv_neT (a := 23) q23 (by decide)
    have e24 := lv_neT (a := 24) q24 (by decide)
    have e25 := lv_neT (a := 25) q25 (by decide)
    have e26 := lv_neT (a := 26) q26 (by decide)
    have e27 := lv_neT (a := 27) q27 (by decide)
    have e28 := lv_neT (a := 28) q28 (by decide)
    have e29 := lv_neT (a := 29) q29 (by decide)
    have e30 := lv_neT (a := 30) q30 (by decide)
    have e31 := lv_neT (a := 31) q31 (by decide)
    have e32 := lv_neT (a := 32) q32 (by decide)
    refine lv_tableOut (tgt := 959) hx hb dL_law_32 (by omega) (by decide) ?_
    exact kk M hM H locs hP hS
