section PEACEOPS2
variable {M M' : Mem} {t u n ea kp i j c kind : Nat} {K S : Nat → Nat} {d0 d : Dm} {s : Ts} {A A1 A2 : Al} {tx Z : Tx}
/-! whom one must not wrong -/
def mnB (K : Nat → Nat) (s : Ts) (i owed j : Nat) : Bool := o_can s.1 K s.2.2 0 i j && decide (owed < o_left K s.2.1 (o_more s.2.2 i j))
def mnF (K : Nat → Nat) (s : Ts) (i owed k : Nat) : Nat := fo (fun j x => if mnB K s i owed j = true then x ||| 2 ^ j else x) k 0
theorem can0 (h : o_can s.1 K d 0 i j = true) : i ≠ j ∧ s.1.testBit i = true ∧ s.1.testBit j = true ∧ d i j < 9 := by
  unfold o_can at h
  rw [if_pos rfl] at h
  simp only [Bool.and_eq_true, Bool.not_eq_true', decide_eq_false_iff_not, decide_eq_true_eq] at h
  exact ⟨h.1.1.1, h.1.1.2, h.1.2, h.2⟩
theorem AC.wrongT (hC : AC M t tx n ea K S d0 s A kp A1 A2 Z) (hV : SV tx n ea K S d0 s A kp A1 A2 Z) (hi : i < n) (hj : j < n) (hc : o_can s.1 K s.2.2 0 i j = true) : ∃ M1 M2, X4_copyFrom (t + 23) (t + 16) M = some ((), M1) ∧ X4_perform (t + 23) (nI 0) (nI i) (nI j) M1 = some ((), M2) ∧ TC M2 (t + 23) n s.2.1 ea s.1 K S (o_more s.2.2 i j) ∧ t_ok n s.1 K (o_more s.2.2 i j) ∧ Sc t M M2 := by
  have hd := hV.day
  have hne := can0 hc
  obtain ⟨M1, e1, hT1, hS1⟩ := hC.trial hV.2.2.2.2.1.1
  obtain ⟨M2, e2, hT2, hF2⟩ := X4_perform_s (kind := 0) (i := i) (j := j) hT1 hV.2.2.2.2.2.1 (by omega) ⟨by omega, fun _ => ⟨hi, hj, hne.1⟩, fun h => by omega, fun h => by omega⟩ hc
  obtain ⟨g1, g2, g3⟩ := hT2 (s.1, s.2.1, o_more s.2.2 i j) rfl
  exact ⟨M1, M2, e1, e2, g1, g2, hS1.tr (Sc.tri hF2)⟩
theorem AR.wrongT (hR : AR M u tx n ea K S d0 s A kp A1 A2 Z) (hV : SV tx n ea K S d0 s A kp A1 A2 Z) (hi : i < n) (hj : j < n) (hc : o_can s.1 K s.2.2 0 i j = true) : ∃ M1 M2, X6_copy u (nI 0) (nI 1) M = some ((), M1) ∧ X6_doAct u (nI 1) (nI 0) (nI i) (nI j) M1 = some ((), M2) ∧ TR M2 u 1 n s.2.1 s.1 K S (o_more s.2.2 i j) ∧ t_ok n s.1 K (o_more s.2.2 i j) ∧ ScR u M M2 := by
  have hd := hV.day
  have hne := can0 hc
  obtain ⟨M1, e1, hT1, hF1⟩ := X6_copy_s (b := 1) hR.2.2.2.2.1 (by omega) (by omega) (by omega)
  obtain ⟨M2, e2, hT2, hF2⟩ := X6_doAct_s (kind := 0) (i := i) (j := j) hT1 hV.2.2.2.2.2.1 (by omega) (by omega) ⟨by omega, fun _ => ⟨hi, hj, hne.1⟩, fun h => by omega, fun h => by omega⟩ hc
  obtain ⟨g1, g2, g3⟩ := hT2 (s.1, s.2.1, o_more s.2.2 i j) rfl
  exact ⟨M1, M2, e1, e2, g1, g2, (hF1.tr hF2).ScR (by omega)⟩
theorem P_mustNot {x : Int32} (hC : AC M t tx n ea K S d0 s A kp A1 A2 Z) (hR : AR M u tx n ea K S d0 s A kp A1 A2 Z) (hV : SV tx n ea K S d0 s A kp A1 A2 Z) (htu : t + 44 ≤ u) : PS t u M (X5_mustNot t x) (X6_mustNot u x) := by
  have hd := hV.day
  have hn := hV.2.1
  have hn7 := hV.2.2.2.2.1.1
  have hV1 := hV.2.2.2.2.2.1
  have qa := hV1.al
  rcases inR_c (lo := 0) (hi := n - 1) (x := x) (by omega) (by omega) with ⟨h, i, _, hi, rfl⟩ | ⟨h, _⟩
  · have hi' : i < n := by omega
    cases hal : s.1.testBit i with
    | false =>
      refine PS.ro (v := -2) hC hR hV htu ⟨M, ?_, Sc.rf⟩ (fun M1 hR1 => ⟨M1, ?_, ScR.rf⟩)
      · unfold X5_mustNot
        rw [X5_isPerson_s hC hn hn7, h, zz_call, if_pos (by decide), X4_isAlive_s hC.2.2.1 qa (by omega), hal, zz_call, if_neg (by decide)]
      · unfold X6_mustNot
        rw [X6_isPerson_s hR1 hn hn7, h, zz_call, if_pos (by decide), nl0, X6_isAlive_s hR1.2.2.2.2.1 (by omega) qa (by omega), hal, zz_call, if_neg (by decide)]
    | true =>
      obtain ⟨ow, how⟩ : ∃ ow, ow = o_left K s.2.1 s.2.2 := ⟨_, rfl⟩
      have hbd : ow ≤ 441 := by rw [how]; exact o_left_le hV1 (by omega) hC.2.2.1
      refine PS.ro (v := nI (mnF K s i ow n)) hC hR hV htu ?_ (fun M1 hR1 => ?_)
      · obtain ⟨M1, e1, hS1⟩ := hC.left hV
        unfold X5_mustNot
        rw [X5_isPerson_s hC hn hn7, h, zz_call, if_pos (by decide), X4_isAlive_s hC.2.2.1 qa (by omega), hal, zz_call, if_pos (by decide), e1, zz_call, ← how]
        refine lp (S := Int32 × Int32 × Mem) (fun f z => X5_mustNot_36 t (nI i) (nI ow) f z.1 z.2.1 z.2.2) (fun k z => z.1 = nI (mnF K s i ow k) ∧ z.2.1 = nI k ∧ Sc t M z.2.2) (fun r => ∃ M1, r = some (nI (mnF K s i ow n), M1) ∧ Sc t M M1) n ?_ ?_ 0 FU (nI 0, nI 0, M1) (by omega) (FU_lt (by omega)) ⟨rfl, rfl, hS1⟩
        · intro k f z hk ⟨e1, e2, hS1⟩
          obtain ⟨x, y, M1⟩ := z
          dsimp only at e1 e2 hS1
          subst e1 e2
          left
          have hC1 := hC.sc hS1
          have em : mnF K s i ow (k + 1) = if mnB K s i ow k = true then mnF K s i ow k ||| 2 ^ k else mnF K s i ow k := rfl
          show ∃ s', X5_mustNot_36 t (nI i) (nI ow) (f + 1) (nI (mnF K s i ow k)) (nI k) M1 = _ ∧ _
          rw [X5_mustNot_36]
          unfold X4_persons
          rw [zz_call, hC1.2.2.1.1, if_neg (nI_ge hk (by omega)), nl0, X4_canBeDone_s hC1.2.2.1 hV1 (by omega) (by omega) (by omega), zz_call, nI_1]
          cases hc : o_can s.1 K s.2.2 0 i k with
          | false =>
            rw [if_pos (by decide)]
            refine ⟨(nI (mnF K s i ow (k + 1)), nI (k + 1), M1), ?_, rfl, rfl, hS1⟩
            rw [em, if_neg (by unfold mnB; rw [hc, Bool.false_and]; decide)]
          | true =>
            obtain ⟨M2, M3, e2, e3, hT3, hV3, hS3⟩ := hC1.wrongT hV hi' hk hc
            obtain ⟨M4, e4, hT4, hF4, hV4, _⟩ := X4_makePeace_s hT3 hV3 (by omega)
            have hb4 := hV4.all7
            rw [if_neg (by decide)]
            unfold X5_owedBehindWrong
            rw [e2, zz_call, nl0, e3, zz_call, e4, zz_call, X4_allOwed_s hT4 hV4, zz_call, zz_call]
            by_cases hb : ow < o_left K s.2.1 (o_more s.2.2 i k)
            · refine ⟨(nI (mnF K s i ow (k + 1)), nI (k + 1), M4), ?_, rfl, rfl, (hS1.tr hS3).tr (Sc.tri hF4)⟩
              rw [if_neg (nI_ge (show ow < d_all (mpF K s.2.1 (o_more s.2.2 i k)).2 from hb) (by omega)), zz_let, zz_shl (by omega), fa_or, em, if_pos (by unfold mnB; rw [hc, decide_eq_true hb]; rfl)]
            · refine ⟨(nI (mnF K s i ow (k + 1)), nI (k + 1), M4), ?_, rfl, rfl, (hS1.tr hS3).tr (Sc.tri hF4)⟩
              rw [if_pos (nI_le (by unfold o_left at hb; omega) (by omega)), em, if_neg (by unfold mnB; rw [hc, decide_eq_false hb]; decide)]
        · intro f z ⟨e1, e2, hS1⟩
          obtain ⟨x, y, M1⟩ := z
          dsimp only at e1 e2 hS1
          subst e1 e2
          have hC1 := hC.sc hS1
          refine ⟨M1, ?_, hS1⟩
          show X5_mustNot_36 t (nI i) (nI ow) (f + 1) (nI (mnF K s i ow n)) (nI n) M1 = _
          rw [X5_mustNot_36]
          unfold X4_persons
          rw [zz_call, hC1.2.2.1.1, if_pos (nI_le (Nat.le_refl _) (by omega))]
      · obtain ⟨M2, e2, hS2⟩ := hR1.left hV
        unfold X6_mustNot
        rw [X6_isPerson_s hR1 hn hn7, h, zz_call, if_pos (by decide), nl0, X6_isAlive_s hR1.2.2.2.2.1 (by omega) qa (by omega), hal, zz_call, if_pos (by decide), e2, zz_call, ← how]
        refine lp (S := Int32 × Int32 × Mem) (fun f z => X6_mustNot_33 u (nI i) (nI ow) f z.1 z.2.1 z.2.2) (fun k z => z.1 = nI (mnF K s i ow k) ∧ z.2.1 = nI k ∧ ScR u M1 z.2.2) (fun r => ∃ M2, r = some (nI (mnF K s i ow n), M2) ∧ ScR u M1 M2) n ?_ ?_ 0 FU (nI 0, nI 0, M2) (by omega) (FU_lt (by omega)) ⟨rfl, rfl, hS2⟩
        · intro k f z hk ⟨e1, e2, hS1⟩
          obtain ⟨x, y, M3⟩ := z
          dsimp only at e1 e2 hS1
          subst e1 e2
          left
          have hR3 := hR1.sc hn7 hS1
          have em : mnF K s i ow (k + 1) = if mnB K s i ow k = true then mnF K s i ow k ||| 2 ^ k else mnF K s i ow k := rfl
          show ∃ s', X6_mustNot_33 u (nI i) (nI ow) (f + 1) (nI (mnF K s i ow k)) (nI k) M3 = _ ∧ _
          rw [X6_mustNot_33, nl0, zz_ald (by omega) (by omega), hR3.2.1, if_neg (nI_ge hk (by omega)), zz_shl (by omega), nI_1]
          by_cases hik : i = k
          · rw [if_pos (by rw [hik])]
            refine ⟨(nI (mnF K s i ow (k + 1)), nI (k + 1), M3), ?_, rfl, rfl, hS1⟩
            rw [em, if_neg]
            intro hb
            unfold mnB at hb
            rw [Bool.and_eq_true] at hb
            exact (can0 hb.1).1 hik
          · rw [if_neg (fun e => hik ((nI_eq (by omega) (by omega)).1 e)), X6_canDo_s hR3.2.2.2.2.1 hV1 (by omega) (by omega) (by omega) (by omega) (fun _ => hik), zz_call]
            cases hc : o_can s.1 K s.2.2 0 i k with
            | false =>
              rw [if_pos (by decide)]
              refine ⟨(nI (mnF K s i ow (k + 1)), nI (k + 1), M3), ?_, rfl, rfl, hS1⟩
              rw [em, if_neg (by unfold mnB; rw [hc, Bool.false_and]; decide)]
            | true =>
              obtain ⟨M4, M5, e4, e5, hT5, hV5, hS5⟩ := hR3.wrongT hV hi' hk hc
              obtain ⟨M6, e6, hF6⟩ := X6_owedBehind_s hT5 hV5 (by omega) (by omega)
              obtain ⟨_, _, _, _, hV7⟩ := X6_makePeace_s hT5 hV5 (by omega) (by omega)
              have hb4 := hV7.all7
              rw [if_neg (by decide), nl1, e4, zz_call, e5, zz_call, e6, zz_call]
              have hS6 : ScR u M1 M6 := (hS1.tr hS5).tr (hF6.ScR (by omega))
              by_cases hb : ow < o_left K s.2.1 (o_more s.2.2 i k)
              · refine ⟨(nI (mnF K s i ow (k + 1)), nI (k + 1), M6), ?_, rfl, rfl, hS6⟩
                rw [if_neg (nI_ge (show ow < d_all (mpF K s.2.1 (o_more s.2.2 i k)).2 from hb) (by omega)), zz_let, fa_or, em, if_pos (by unfold mnB; rw [hc, decide_eq_true hb]; rfl)]
              · refine ⟨(nI (mnF K s i ow (k + 1)), nI (k + 1), M6), ?_, rfl, rfl, hS6⟩
                rw [if_pos (nI_le (by unfold o_left at hb; omega) (by omega)), zz_let, fa_or, Nat.or_zero, em, if_neg (by unfold mnB; rw [hc, decide_eq_false hb]; decide)]
        · intro f z ⟨e1, e2, hS1⟩
          obtain ⟨x, y, M3⟩ := z
          dsimp only at e1 e2 hS1
          subst e1 e2
          have hR3 := hR1.sc hn7 hS1
          refine ⟨M3, ?_, hS1⟩
          show X6_mustNot_33 u (nI i) (nI ow) (f + 1) (nI (mnF K s i ow n)) (nI n) M3 = _
          rw [X6_mustNot_33, nl0, zz_ald (by omega) (by omega), hR3.2.1, if_pos (nI_le (Nat.le_refl _) (by omega))]
  · refine PS.ro (v := -1) hC hR hV htu ⟨M, ?_, Sc.rf⟩ (fun M1 hR1 => ⟨M1, ?_, ScR.rf⟩)
    · unfold X5_mustNot
      rw [X5_isPerson_s hC hn hn7, h, zz_call, if_neg (by decide)]
    · unfold X6_mustNot
      rw [X6_isPerson_s hR1 hn hn7, h, zz_call, if_neg (by decide)]
/-! the day by which all is at PEACE -/
def e_it (n al : Nat) (K : Nat → Nat) (day : Nat) (d : Dm) : Nat → Dm
  | 0 => d
  | k + 1 => if (day + k + 1) % 7 = 0 then o_wk n al K (mpF K (day + k) (e_it n al K day d k)).2 else (mpF K (day + k) (e_it n al K day d k)).2
def e_P (n al : Nat) (K : Nat → Nat) (day : Nat) (d : Dm) (k : Nat) : Bool := decide (d_all (mpF K (day + k) (e_it n al K day d k)).2 = 0)
theorem P_easter (hC : AC M t tx n ea K S d0 s A kp A1 A2 Z) (hR : AR M u tx n ea K S d0 s A kp A1 A2 Z) (hV : SV tx n ea K S d0 s A kp A1 A2 Z) (htu : t + 44 ≤ u) : PS t u M (X5_easter t) (X6_easter u) := by
  have hd := hV.day
  have hn7 := hV.2.2.2.2.1.1
  have hV1 := hV.2.2.2.2.2.1
  have hea := hV.2.2.1
  obtain ⟨N, hN⟩ : ∃ N, N = ea + 1 - s.2.1 := ⟨_, rfl⟩
  refine PS.ro (v := (ff (e_P n s.1 K s.2.1 s.2.2) N).elim (-4) (fun k => nI (s.2.1 + k))) hC hR hV htu ?_ (fun M1 hR1 => ?_)
  · obtain ⟨M1, e1, hT1, hS1⟩ := hC.trial hn7
    unfold X5_easter X4_day
    rw [e1, zz_call, zz_call, (hC.sc hS1).2.2.1.2.1]
    refine lp (S := Int32 × Mem) (fun f z => X5_easter_19 t f z.1 z.2) (fun k z => z.1 = nI (s.2.1 + k) ∧ Sc t M z.2 ∧ TC z.2 (t + 23) n (s.2.1 + k) ea s.1 K S (e_it n s.1 K s.2.1 s.2.2 k) ∧ t_ok n s.1 K (e_it n s.1 K s.2.1 s.2.2 k) ∧ ∀ q, q < k → e_P n s.1 K s.2.1 s.2.2 q = false) (fun r => ∃ M1, r = some ((ff (e_P n s.1 K s.2.1 s.2.2) N).elim (-4) (fun k => nI (s.2.1 + k)), M1) ∧ Sc t M M1) N ?_ ?_ 0 FU (nI s.2.1, M1) (by omega) (FU_lt (by omega)) ⟨rfl, hS1, hT1, hV1, fun q hq => by omega⟩
    · intro k f z hk ⟨e1, hS1, hT1, hVk, hq⟩
      obtain ⟨x, M1⟩ := z
      dsimp only at e1 hS1 hT1
      subst e1
      have hC1 := hC.sc hS1
      obtain ⟨M2, e2, hT2, hF2, hV2, _⟩ := X4_makePeace_s hT1 hVk (by omega)
      have hb := hV2.all7
      have hC2 := hC1.sc (Sc.tri hF2)
      show (∃ s', X5_easter_19 t (f + 1) (nI (s.2.1 + k)) M1 = _ ∧ _) ∨ (∃ M', X5_easter_19 t (f + 1) (nI (s.2.1 + k)) M1 = _ ∧ _)
      rw [X5_easter_19]
      unfold X4_easterDay
      rw [zz_call, hC1.2.2.1.2.2.1, if_neg (nI_nlt (by omega) (by omega)), e2, zz_call, X4_allOwed_s hT2 hV2, zz_call]
      by_cases hz : d_all (mpF K (s.2.1 + k) (e_it n s.1 K s.2.1 s.2.2 k)).2 = 0
      · right
        refine ⟨M2, ?_, hS1.tr (Sc.tri hF2)⟩
        rw [if_neg (not_not_intro (by rw [hz]; rfl)), ff_is hk (decide_eq_true hz) hq]
        rfl
      · left
        obtain ⟨M3, e3, hT3, hF3⟩ := X4_passDay_s hT2 hV2 (by omega)
        refine ⟨(nI (s.2.1 + (k + 1)), M3), ?_, rfl, (hS1.tr (Sc.tri hF2)).tr (Sc.tri hF3), hT3, ?_, fun q hq' => ?_⟩
        · rw [if_pos (nI_ne0 (by omega) (by omega)), e3, zz_call, nI_1]
          rfl
        · show t_ok n s.1 K (if (s.2.1 + k + 1) % 7 = 0 then _ else _)
          split
          · exact o_wk_ok hV2
          · exact hV2
        · by_cases hzz : q = k
          · rw [hzz]; exact decide_eq_false hz
          · exact hq q (by omega)
    · intro f z ⟨e1, hS1, hT1, hVk, hq⟩
      obtain ⟨x, M1⟩ := z
      dsimp only at e1 hS1 hT1
      subst e1
      have hC1 := hC.sc hS1
      refine ⟨M1, ?_, hS1⟩
      show X5_easter_19 t (f + 1) (nI (s.2.1 + N)) M1 = _
      rw [X5_easter_19, ff_no hq]
      unfold X4_easterDay
      rw [zz_call, hC1.2.2.1.2.2.1, if_pos (nI_lt (by omega) (by omega))]
      rfl
  · obtain ⟨M2, e2, hT2, hF2⟩ := X6_copy_s (b := 1) hR1.2.2.2.2.1 (by omega) (by omega) (by omega)
    unfold X6_easter
    rw [nl0, nl1, e2, zz_call]
    refine lp (S := Mem) (fun f z => X6_easter_6 u f z) (fun k z => ScR u M1 z ∧ TR z u 1 n (s.2.1 + k) s.1 K S (e_it n s.1 K s.2.1 s.2.2 k) ∧ t_ok n s.1 K (e_it n s.1 K s.2.1 s.2.2 k) ∧ ∀ q, q < k → e_P n s.1 K s.2.1 s.2.2 q = false) (fun r => ∃ M2, r = some ((ff (e_P n s.1 K s.2.1 s.2.2) N).elim (-4) (fun k => nI (s.2.1 + k)), M2) ∧ ScR u M1 M2) N ?_ ?_ 0 FU M2 (by omega) (FU_lt (by omega)) ⟨hF2.ScR (by omega), hT2, hV1, fun q hq => by omega⟩
    · intro k f z hk ⟨hS1, hT1, hVk, hq⟩
      have hR3 := hR1.sc hn7 hS1
      obtain ⟨M4, e4, hT4, hF4, hV4⟩ := X6_makePeace_s hT1 hVk (by omega) (by omega)
      have hb := hV4.all7
      show (∃ s', X6_easter_6 u (f + 1) z = _ ∧ _) ∨ (∃ M', X6_easter_6 u (f + 1) z = _ ∧ _)
      rw [X6_easter_6, nl1, zz_ald (by omega) (by omega), hT1.2.1, nl0, zz_ald (by omega) (by omega), hR3.2.2.1, if_neg (nI_nlt (by omega) (by omega)), e4, zz_call, X6_allOf_s hT4 (by omega), zz_call]
      by_cases hz : d_all (mpF K (s.2.1 + k) (e_it n s.1 K s.2.1 s.2.2 k)).2 = 0
      · right
        refine ⟨M4, ?_, hS1.tr (hF4.ScR (by omega))⟩
        rw [if_neg (not_not_intro (by rw [hz])), zz_ald (by omega) (by omega), hT4.2.1, ff_is hk (decide_eq_true hz) hq]
        rfl
      · left
        obtain ⟨M5, e5, hT5, hF5⟩ := X6_goDay_s hT4 hV4 (by omega) (by omega)
        refine ⟨M5, ?_, (hS1.tr (hF4.ScR (by omega))).tr (hF5.ScR (by omega)), hT5, ?_, fun q hq' => ?_⟩
        · rw [if_pos (fun e => hz ((nI_eq (by omega) (by omega)).1 e)), e5, zz_call]
        · show t_ok n s.1 K (if (s.2.1 + k + 1) % 7 = 0 then _ else _)
          split
          · exact o_wk_ok hV4
          · exact hV4
        · by_cases hzz : q = k
          · rw [hzz]; exact decide_eq_false hz
          · exact hq q (by omega)
    · intro f z ⟨hS1, hT1, hVk, hq⟩
      have hR3 := hR1.sc hn7 hS1
      refine ⟨z, ?_, hS1⟩
      show X6_easter_6 u (f + 1) z = _
      rw [X6_easter_6, ff_no hq, nl1, zz_ald (by omega) (by omega), hT1.2.1, nl0, zz_ald (by omega) (by omega), hR3.2.2.1, if_pos (nI_lt (by omega) (by omega))]
      rfl
end PEACEOPS2
