section FITS2
variable {M M' : Mem} {t u n ea kp i j c kind day al : Nat} {K S : Nat → Nat} {d0 d : Dm} {s : Ts} {A A1 A2 : Al} {tx Z : Tx}
def wfP (Z : Tx) (K S : Nat → Nat) (s : Ts) (q : Nat) : Bool := o_can s.1 K s.2.2 0 (q / 8) (q % 8) && !(ff (sP Z S s.1 (o_more s.2.2 (q / 8) (q % 8))) 64).isSome
theorem wf_out (hV : t_ok n s.1 K d) {q : Nat} (h : n ≤ q / 8 ∨ n ≤ q % 8) : wfP Z K S s q = false := by
  cases e : wfP Z K S s q with
  | false => rfl
  | true =>
    unfold wfP at e
    rw [Bool.and_eq_true] at e
    have := can0 e.1
    have h1 := t_bit hV this.2.1
    have h2 := t_bit hV this.2.2.1
    omega
theorem X5_wrongFits_s (hC : AC M t tx n ea K S d0 s A kp A1 A2 Z) (hV : SV tx n ea K S d0 s A kp A1 A2 Z) (hi : i < n) (hj : j < n) : ∃ M', X5_wrongFits t (nI i) (nI j) M = some (b2 (wfP Z K S s (8 * i + j)), M') ∧ Sc t M M' := by
  have hn7 := hV.2.2.2.2.1.1
  have hV1 := hV.2.2.2.2.2.1
  have e8 : (8 * i + j) / 8 = i := by omega
  have e9 : (8 * i + j) % 8 = j := by omega
  unfold X5_wrongFits wfP
  rw [e8, e9, nl0, X4_canBeDone_s hC.2.2.1 hV1 (by omega) (by omega) (by omega), zz_call]
  cases hc : o_can s.1 K s.2.2 0 i j with
  | false =>
    rw [if_neg (by decide)]
    exact ⟨M, zz_rz0, Sc.rf⟩
  | true =>
    obtain ⟨M1, M2, e1, e2, hT2, hV2, hS2⟩ := hC.wrongT hV hi hj hc
    have hC2 := hC.sc hS2
    refine ⟨M2, ?_, hS2⟩
    rw [if_pos (by decide), e1, zz_call, e2, zz_call, hC2.2.2.2.2.2.2.2.2, X4_any_s hT2 hV2 hV.2.2.2.1 (zb_lt hV.2.2.2.2.2.2.2.2.2.2.2.2), zz_call]
    cases (ff (sP Z S s.1 (o_more s.2.2 i j)) 64).isSome <;> rfl
theorem fF_step {P : Nat → Bool} {k : Nat} (h : P k = true) : ff P (k + 1) = (ff P k).elim (some k) some := by
  cases e : ff P k with
  | none => exact ff_is (by omega) h (ff_none e)
  | some a =>
    obtain ⟨h1, h2, h3⟩ := ff_some e
    exact ff_is (by omega) h2 h3
theorem fF_skip {P : Nat → Bool} {k : Nat} (h : P k = false) : ff P (k + 1) = ff P k := by
  cases e : ff P k with
  | none =>
    apply ff_no
    intro b hb
    by_cases hz : b = k
    · rw [hz]; exact h
    · exact ff_none e b (by omega)
  | some a =>
    obtain ⟨h1, h2, h3⟩ := ff_some e
    exact ff_is (by omega) h2 h3
theorem fF_same {P : Nat → Bool} {a : Nat} : ∀ b, (∀ q, a ≤ q → q < a + b → P q = false) → ff P (a + b) = ff P a := by
  intro b
  induction b with
  | zero => intro _; rfl
  | succ b ih =>
    intro h
    rw [show a + (b + 1) = a + b + 1 by omega, fF_skip (h _ (by omega) (by omega))]
    exact ih (fun q h1 h2 => h q h1 (by omega))
theorem X5_fits32_s {x1 : Int32} {k17 : Int32 → Int32 → Int32 → Mem → Option (Int32 × Mem)} (hC : AC M t tx n ea K S d0 s A kp A1 A2 Z) (hV : SV tx n ea K S d0 s A kp A1 A2 Z) (hi : i < n) :
    ∃ M', X5_fits_32 t x1 (nI i) k17 FU (nI (cn (wfP Z K S s) (8 * i))) (fI (ff (wfP Z K S s) (8 * i))) (nI 0) M = k17 (nI (cn (wfP Z K S s) (8 * (i + 1)))) (fI (ff (wfP Z K S s) (8 * (i + 1)))) (nI (i + 1)) M' ∧ Sc t M M' := by
  have w := hV.2.2.2.2.1.1
  have hV1 := hV.2.2.2.2.2.1
  have hend : cn (wfP Z K S s) (8 * (i + 1)) = cn (wfP Z K S s) (8 * i + n) := by
    rw [show 8 * (i + 1) = 8 * i + n + (8 - n) by omega]
    exact cn_same _ (fun q h1 h2 => wf_out hV1 (by omega))
  have hend2 : ff (wfP Z K S s) (8 * (i + 1)) = ff (wfP Z K S s) (8 * i + n) := by
    rw [show 8 * (i + 1) = 8 * i + n + (8 - n) by omega]
    exact fF_same _ (fun q h1 h2 => wf_out hV1 (by omega))
  refine lp (S := Int32 × Int32 × Int32 × Mem) (fun f z => X5_fits_32 t x1 (nI i) k17 f z.1 z.2.1 z.2.2.1 z.2.2.2) (fun k z => z.1 = nI (cn (wfP Z K S s) (8 * i + k)) ∧ z.2.1 = fI (ff (wfP Z K S s) (8 * i + k)) ∧ z.2.2.1 = nI k ∧ Sc t M z.2.2.2) (fun r => ∃ M', r = k17 (nI (cn (wfP Z K S s) (8 * (i + 1)))) (fI (ff (wfP Z K S s) (8 * (i + 1)))) (nI (i + 1)) M' ∧ Sc t M M') n ?_ ?_ 0 FU (nI (cn (wfP Z K S s) (8 * i)), fI (ff (wfP Z K S s) (8 * i)), nI 0, M) (by omega) (FU_lt (by omega)) ⟨rfl, rfl, rfl, Sc.rf⟩
  · intro k f z hk ⟨e1, e2, e3, hS1⟩
    obtain ⟨y1, y2, y3, M1⟩ := z
    dsimp only at e1 e2 e3 hS1
    subst e1 e2 e3
    left
    have hC1 := hC.sc hS1
    obtain ⟨M2, e4, hS2⟩ := X5_wrongFits_s hC1 hV hi hk
    have hle := cn_le (P := wfP Z K S s) (8 * i + k)
    refine ⟨(nI (cn (wfP Z K S s) (8 * i + (k + 1))), fI (ff (wfP Z K S s) (8 * i + (k + 1))), nI (k + 1), M2), ?_, rfl, rfl, rfl, hS1.tr hS2⟩
    show X5_fits_32 t x1 (nI i) k17 (f + 1) (nI (cn (wfP Z K S s) (8 * i + k))) (fI (ff (wfP Z K S s) (8 * i + k))) (nI k) M1 = X5_fits_32 t x1 (nI i) k17 f (nI (cn (wfP Z K S s) (8 * i + k + 1))) (fI (ff (wfP Z K S s) (8 * i + k + 1))) (nI (k + 1)) M2
    have ec : cn (wfP Z K S s) (8 * i + k + 1) = cn (wfP Z K S s) (8 * i + k) + (if wfP Z K S s (8 * i + k) = true then 1 else 0) := rfl
    rw [X5_fits_32]
    unfold X4_persons
    rw [zz_call, hC1.2.2.1.1, if_neg (nI_ge hk (by omega)), e4, zz_call, ec]
    cases hw : wfP Z K S s (8 * i + k) with
    | false => rw [if_pos (by decide), if_neg (by decide), fF_skip hw, nI_1]; rfl
    | true =>
      rw [if_neg (by decide), if_pos rfl, fF_step hw, nI_1, nI_1]
      by_cases h0 : cn (wfP Z K S s) (8 * i + k) = 0
      · rw [if_neg (not_not_intro (show nI (cn (wfP Z K S s) (8 * i + k)) = 0 by rw [h0]; rfl)), (cn_ff _).1 h0]
        unfold X5_twoAsNumber
        rw [zz_call, nl8, pk_mul, nI_add]
        rfl
      · rw [if_pos (show ¬ nI (cn (wfP Z K S s) (8 * i + k)) = 0 from nI_ne0 (by omega) (by omega))]
        cases e : ff (wfP Z K S s) (8 * i + k) with
        | none => exact absurd ((cn_ff _).2 e) h0
        | some a => rfl
  · intro f z ⟨e1, e2, e3, hS1⟩
    obtain ⟨y1, y2, y3, M1⟩ := z
    dsimp only at e1 e2 e3 hS1
    subst e1 e2 e3
    have hC1 := hC.sc hS1
    refine ⟨M1, ?_, hS1⟩
    show X5_fits_32 t x1 (nI i) k17 (f + 1) _ _ (nI n) M1 = _
    rw [X5_fits_32]
    unfold X4_persons
    rw [zz_call, hC1.2.2.1.1, if_pos (nI_le (Nat.le_refl _) (by omega)), nI_1, hend, hend2]
theorem P_fits {x : Int32} (hC : AC M t tx n ea K S d0 s A kp A1 A2 Z) (hR : AR M u tx n ea K S d0 s A kp A1 A2 Z) (hV : SV tx n ea K S d0 s A kp A1 A2 Z) (htu : t + 44 ≤ u) : PS t u M (X5_fits t x) (X6_fits u x) := by
  have hn := hV.2.1
  have w := hV.2.2.2.2.1.1
  have hV1 := hV.2.2.2.2.2.1
  cases h : inR 0 1 x with
  | false =>
    refine PS.ro (v := -1) hC hR hV htu ⟨M, ?_, Sc.rf⟩ (fun M1 hR1 => ⟨M1, ?_, ScR.rf⟩)
    · unfold X5_fits
      rw [X5_zo_s, h, zz_call, if_neg (by decide)]
    · unfold X6_fits
      rw [show X6_in x.toInt64 0 1 M1 = _ from X6_in_s (lo := 0) (hi := 1), h, zz_call, if_neg (by decide)]
  | true =>
    refine PS.ro (v := if x = 0 then nI (cn (wfP Z K S s) 64) else fI (ff (wfP Z K S s) 64)) hC hR hV htu ?_ (fun M1 hR1 => ?_)
    · have hend : cn (wfP Z K S s) 64 = cn (wfP Z K S s) (8 * n) := by
        rw [show 64 = 8 * n + (64 - 8 * n) by omega]
        exact cn_same _ (fun q h1 h2 => wf_out hV1 (by omega))
      have hend2 : ff (wfP Z K S s) 64 = ff (wfP Z K S s) (8 * n) := by
        rw [show 64 = 8 * n + (64 - 8 * n) by omega]
        exact fF_same _ (fun q h1 h2 => wf_out hV1 (by omega))
      rw [hend, hend2]
      unfold X5_fits
      rw [X5_zo_s, h, zz_call, if_pos (by decide)]
      refine lp (S := Int32 × Int32 × Int32 × Mem) (fun f z => X5_fits_17 t x f z.1 z.2.1 z.2.2.1 z.2.2.2) (fun k z => z.1 = nI (cn (wfP Z K S s) (8 * k)) ∧ z.2.1 = fI (ff (wfP Z K S s) (8 * k)) ∧ z.2.2.1 = nI k ∧ Sc t M z.2.2.2) (fun r => ∃ M1, r = some (if x = 0 then nI (cn (wfP Z K S s) (8 * n)) else fI (ff (wfP Z K S s) (8 * n)), M1) ∧ Sc t M M1) n ?_ ?_ 0 FU (nI 0, -4, nI 0, M) (by omega) (FU_lt (by omega)) ⟨rfl, rfl, rfl, Sc.rf⟩
      · intro k f z hk ⟨e1, e2, e3, hS1⟩
        obtain ⟨y1, y2, y3, M1⟩ := z
        dsimp only at e1 e2 e3 hS1
        subst e1 e2 e3
        left
        have hC1 := hC.sc hS1
        obtain ⟨M2, e4, hS2⟩ := X5_fits32_s (x1 := x) (k17 := X5_fits_17 t x f) hC1 hV hk
        refine ⟨(nI (cn (wfP Z K S s) (8 * (k + 1))), fI (ff (wfP Z K S s) (8 * (k + 1))), nI (k + 1), M2), ?_, rfl, rfl, rfl, hS1.tr hS2⟩
        show X5_fits_17 t x (f + 1) _ _ (nI k) M1 = _
        rw [X5_fits_17]
        unfold X4_persons
        rw [zz_call, hC1.2.2.1.1, if_neg (nI_ge hk (by omega)), nl0, e4]
      · intro f z ⟨e1, e2, e3, hS1⟩
        obtain ⟨y1, y2, y3, M1⟩ := z
        dsimp only at e1 e2 e3 hS1
        subst e1 e2 e3
        have hC1 := hC.sc hS1
        refine ⟨M1, ?_, hS1⟩
        show X5_fits_17 t x (f + 1) _ _ (nI n) M1 = _
        rw [X5_fits_17]
        unfold X4_persons
        rw [zz_call, hC1.2.2.1.1, if_pos (nI_le (Nat.le_refl _) (by omega))]
        by_cases hx : x = 0
        · rw [if_neg (not_not_intro hx), if_pos hx]
        · rw [if_pos hx, if_neg hx]
    · unfold X6_fits
      rw [show X6_in x.toInt64 0 1 M1 = _ from X6_in_s (lo := 0) (hi := 1), h, zz_call, if_pos (by decide)]
      refine lp (S := Int32 × Int32 × Int32 × Mem) (fun f z => X6_fits_20 u x f z.1 z.2.1 z.2.2.1 z.2.2.2) (fun k z => z.1 = nI (cn (wfP Z K S s) k) ∧ z.2.1 = fI (ff (wfP Z K S s) k) ∧ z.2.2.1 = nI k ∧ ScR u M1 z.2.2.2) (fun r => ∃ M2, r = some (if x = 0 then nI (cn (wfP Z K S s) 64) else fI (ff (wfP Z K S s) 64), M2) ∧ ScR u M1 M2) 64 ?_ ?_ 0 FU (nI 0, -4, nI 0, M1) (by omega) (FU_lt (by omega)) ⟨rfl, rfl, rfl, ScR.rf⟩
      · intro k f z hk ⟨e1, e2, e3, hS1⟩
        obtain ⟨y1, y2, y3, M2⟩ := z
        dsimp only at e1 e2 e3 hS1
        subst e1 e2 e3
        left
        have hR2 := hR1.sc w hS1
        have hle := cn_le (P := wfP Z K S s) k
        have ec : cn (wfP Z K S s) (k + 1) = cn (wfP Z K S s) k + (if wfP Z K S s k = true then 1 else 0) := rfl
        have no : wfP Z K S s k = false → ∀ M3, ScR u M2 M3 → ∃ s' : Int32 × Int32 × Int32 × Mem, X6_fits_20 u x f (nI (cn (wfP Z K S s) k)) (fI (ff (wfP Z K S s) k)) (nI (k + 1)) M3 = X6_fits_20 u x f s'.1 s'.2.1 s'.2.2.1 s'.2.2.2 ∧ (s'.1 = nI (cn (wfP Z K S s) (k + 1)) ∧ s'.2.1 = fI (ff (wfP Z K S s) (k + 1)) ∧ s'.2.2.1 = nI (k + 1) ∧ ScR u M1 s'.2.2.2) := by
          intro hw M3 hS3
          refine ⟨(nI (cn (wfP Z K S s) k), fI (ff (wfP Z K S s) k), nI (k + 1), M3), rfl, ?_, ?_, rfl, hS1.tr hS3⟩
          · dsimp only; rw [ec, hw, if_neg (by decide)]; rfl
          · dsimp only; rw [fF_skip hw]
        show ∃ s', X6_fits_20 u x (f + 1) (nI (cn (wfP Z K S s) k)) (fI (ff (wfP Z K S s) k)) (nI k) M2 = _ ∧ _
        rw [X6_fits_20, if_neg (show ¬ (64 : Int32) ≤ nI k from nI_ge (b := 64) hk (by omega)), nl8, zz_div (by omega) (by omega) (by omega), zz_rem (by omega) (by omega) (by omega), X6_areTwo_s hR2 hn w, zz_call, nI_1]
        rcases two_c (x := nI (k / 8)) (y := nI (k % 8)) hn w with ⟨h2, i, j, hi, hj, hij, ei, ej⟩ | h2
        · have hi' : k / 8 = i := (nI_eq (by omega) (by omega)).1 ei
          have hj' : k % 8 = j := (nI_eq (by omega) (by omega)).1 ej
          rw [h2, if_neg (by decide), zz_div (by omega) (by omega) (by omega), zz_rem (by omega) (by omega) (by omega), nl0, X6_canDo_s hR2.2.2.2.2.1 hV1 (by omega) (by omega) (by omega) (by omega) (fun _ => by omega), zz_call]
          cases hc : o_can s.1 K s.2.2 0 (k / 8) (k % 8) with
          | false =>
            rw [if_pos (by decide)]
            exact no (by unfold wfP; rw [hc]; rfl) M2 ScR.rf
          | true =>
            obtain ⟨M3, M4, e3, e4, hT4, hV4, hS4⟩ := hR2.wrongT hV (i := k / 8) (j := k % 8) (by omega) (by omega) hc
            have hR4 := hR2.sc w hS4
            rw [if_neg (by decide), nl1, e3, zz_call, zz_div (by omega) (by omega) (by omega), zz_rem (by omega) (by omega) (by omega), e4, zz_call, X6_silent_s hR4 hT4 hV4 hV.2.2.2.1 hV.2.2.2.2.2.2.2.2.2.2.2.1 hV.2.2.2.2.2.2.2.2.2.2.2.2, zz_call]
            have ew : wfP Z K S s k = !(ff (sP Z S s.1 (o_more s.2.2 (k / 8) (k % 8))) 64).isSome := by unfold wfP; rw [hc]; rfl
            rw [← ew]
            cases hw : wfP Z K S s k with
            | false =>
              rw [if_pos (by decide)]
              exact no hw M4 hS4
            | true =>
              rw [if_neg (by decide), nI_add]
              by_cases h0 : cn (wfP Z K S s) k = 0
              · rw [if_neg (not_not_intro (show nI (cn (wfP Z K S s) k) = nI 0 by rw [h0]))]
                refine ⟨(nI (cn (wfP Z K S s) (k + 1)), fI (ff (wfP Z K S s) (k + 1)), nI (k + 1), M4), ?_, rfl, rfl, rfl, hS1.tr hS4⟩
                rw [ec, hw, if_pos rfl, fF_step hw, (cn_ff _).1 h0]
                rfl
              · rw [if_pos (show ¬ nI (cn (wfP Z K S s) k) = nI 0 from nI_ne0 (by omega) (by omega))]
                refine ⟨(nI (cn (wfP Z K S s) (k + 1)), fI (ff (wfP Z K S s) (k + 1)), nI (k + 1), M4), ?_, rfl, rfl, rfl, hS1.tr hS4⟩
                rw [ec, hw, if_pos rfl, fF_step hw]
                cases e : ff (wfP Z K S s) k with
                | none => exact absurd ((cn_ff _).2 e) h0
                | some a => rfl
        · rw [h2, if_pos (by decide)]
          refine no ?_ M2 ScR.rf
          cases hw : wfP Z K S s k with
          | false => rfl
          | true =>
            exfalso
            unfold wfP at hw
            rw [Bool.and_eq_true] at hw
            have hc0 := can0 hw.1
            have b1 := t_bit hV1 hc0.2.1
            have b2 := t_bit hV1 hc0.2.2.1
            rw [inR_n (by omega) (by omega) (by omega), inR_n (by omega) (by omega) (by omega), decide_eq_true (by omega), decide_eq_true (by omega), decide_eq_true (by omega), decide_eq_true (by omega), decide_eq_false (fun e => hc0.1 ((nI_eq (by omega) (by omega)).1 e))] at h2
            cases h2
      · intro f z ⟨e1, e2, e3, hS1⟩
        obtain ⟨y1, y2, y3, M2⟩ := z
        dsimp only at e1 e2 e3 hS1
        subst e1 e2 e3
        refine ⟨M2, ?_, hS1⟩
        show X6_fits_20 u x (f + 1) _ _ (nI 64) M2 = _
        rw [X6_fits_20, if_pos (by decide)]
        by_cases hx : x = 0
        · rw [if_neg (not_not_intro hx), if_pos hx]
        · rw [if_pos hx, if_neg hx]
end FITS2
