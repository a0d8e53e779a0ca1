/-! ===== the whole state, in the abstract, and how each side holds it ===== -/
abbrev Tx : Type := Nat × (Nat → Nat)
abbrev Al : Type := Nat × (Nat → Nat × Nat × Nat)
def a_all (n : Nat) (A : Al) : Prop := A.1 ≤ 40 ∧ ∀ k, k < A.1 → a_ok n (A.2 k).1 (A.2 k).2.1 (A.2 k).2.2
def SV (tx : Tx) (n ea : Nat) (K S : Nat → Nat) (d0 : Dm) (s : Ts) (A : Al) (kp : Nat) (A1 A2 : Al) (Z : Tx) : Prop :=
  (tx.1 ≤ 200 ∧ ∀ k, k < tx.1 → 32 ≤ tx.2 k ∧ tx.2 k ≤ 126) ∧ 1 ≤ n ∧ ea ≤ 60 ∧ (∀ i, i < n → S i ≤ 3) ∧ t_ok n (2 ^ n - 1) K d0 ∧ t_ok n s.1 K s.2.2 ∧ s.2.1 ≤ 9 * A.1 ∧ a_all n A ∧ kp ≤ 2 ∧ (1 ≤ kp → a_all n A1) ∧ (2 ≤ kp → a_all n A2) ∧ Z.1 ≤ 6 ∧ (∀ k, k < Z.1 → Z.2 k ≤ 3)
/-- ACTS as the class holds them -/
def LA (M : Mem) (t : Nat) (A : Al) : Prop := M t 3 = nI A.1 ∧ ∀ k, k < A.1 → M (t + 1) k = nI (A.2 k).1 ∧ M (t + 2) k = nI (A.2 k).2.1 ∧ M (t + 3) k = nI (A.2 k).2.2
/-- ACTS as the reference holds them, in its bank q -/
def RA (M : Mem) (t q : Nat) (A : Al) : Prop := M (t + 7) q = nI A.1 ∧ ∀ k, k < A.1 → M (t + 8) (40 * q + k) = nI (A.2 k).1 ∧ M (t + 9) (40 * q + k) = nI (r_i (A.2 k).1 (A.2 k).2.1) ∧ M (t + 10) (40 * q + k) = nI (r_j (A.2 k).1 (A.2 k).2.2)
def zb (Z : Tx) : Nat := fo (fun k x => x ||| 2 ^ Z.2 k) Z.1 0
def AC (M : Mem) (t : Nat) (tx : Tx) (n ea : Nat) (K S : Nat → Nat) (d0 : Dm) (s : Ts) (A : Al) (kp : Nat) (A1 A2 : Al) (Z : Tx) : Prop :=
  (M (t + 1) 1 = nI tx.1 ∧ ∀ k, k < tx.1 → M (t + 2) k = nI (tx.2 k)) ∧ TC M (t + 7) n 0 ea (2 ^ n - 1) K S d0 ∧ TC M (t + 16) n s.2.1 ea s.1 K S s.2.2 ∧ LA M (t + 28) A ∧ (1 ≤ kp → LA M (t + 32) A1) ∧ (2 ≤ kp → LA M (t + 36) A2) ∧ M t 8 = nI kp ∧ M t 9 = nI Z.1 ∧ M t 10 = nI (zb Z)
def AR (M : Mem) (t : Nat) (tx : Tx) (n ea : Nat) (K S : Nat → Nat) (d0 : Dm) (s : Ts) (A : Al) (kp : Nat) (A1 A2 : Al) (Z : Tx) : Prop :=
  (M t 0 = nI tx.1 ∧ ∀ k, k < tx.1 → M (t + 1) k = nI (tx.2 k)) ∧ M (t + 2) 0 = nI n ∧ M (t + 6) 0 = nI ea ∧ (∀ i j, i < 8 → j < 8 → M (t + 5) (8 * i + j) = nI (d0 i j)) ∧ TR M t 0 n s.2.1 s.1 K S s.2.2 ∧ RA M t 0 A ∧ (1 ≤ kp → RA M t 1 A1) ∧ (2 ≤ kp → RA M t 2 A2) ∧ M t 11 = nI kp ∧ M t 12 = nI Z.1 ∧ (∀ k, k < Z.1 → M (t + 11) k = nI (Z.2 k))
/-- nothing but the class's scratch has changed: its reader, its trial, its links, its places -/
def Sc (t : Nat) (M M' : Mem) : Prop := ∀ c, (c < t + 3 ∨ (t + 7 ≤ c ∧ c < t + 12) ∨ (t + 16 ≤ c ∧ c < t + 21) ∨ (t + 28 ≤ c ∧ c < t + 40) ∨ t + 44 ≤ c) → M' c = M c
/-- nothing but the reference's scratch has changed -/
def ScR (t : Nat) (M M' : Mem) : Prop := (∀ c, (c < t ∨ t + 19 ≤ c ∨ c = t + 1 ∨ (t + 7 ≤ c ∧ c < t + 12)) → M' c = M c) ∧ (∀ k, k ≠ 14 → M' t k = M t k) ∧ M' (t + 2) 0 = M (t + 2) 0 ∧ M' (t + 6) 0 = M (t + 6) 0 ∧ (∀ k, k < 8 → M' (t + 3) k = M (t + 3) k ∧ M' (t + 4) k = M (t + 4) k) ∧ (∀ k, k < 64 → M' (t + 5) k = M (t + 5) k ∧ M' (t + 13) k = M (t + 13) k) ∧ M' (t + 14) 0 = M (t + 14) 0 ∧ M' (t + 15) 0 = M (t + 15) 0 ∧ M' (t + 16) 0 = M (t + 16) 0
section STATE
variable {M M' : Mem} {t n ea kp i j : Nat} {K S : Nat → Nat} {d0 d : Dm} {s : Ts} {A A1 A2 : Al} {tx Z : Tx}
theorem LA.fr (h : LA M t A) (hf : ∀ c, t ≤ c → c < t + 4 → M' c = M c) : LA M' t A := by
  unfold LA
  rw [hf t (by omega) (by omega), hf (t + 1) (by omega) (by omega), hf (t + 2) (by omega) (by omega), hf (t + 3) (by omega) (by omega)]
  exact h
theorem Sc.rf : Sc t M M := fun _ _ => rfl
theorem Sc.tr {M2 : Mem} (h : Sc t M M') (h2 : Sc t M' M2) : Sc t M M2 := fun c hc => (h2 c hc).trans (h c hc)
theorem Sc.tri (h : Fr (t + 23) (t + 23 + 5) M M') : Sc t M M' := fun c hc => h c (by omega)
theorem Sc.hi (h : Fr (t + 40) (t + 44) M M') : Sc t M M' := fun c hc => h c (by omega)
theorem Sc.rd (h : Fr (t + 3) (t + 5) M M') : Sc t M M' := fun c hc => h c (by omega)
theorem Sc.Fr (h : Sc t M M') : Fr t (t + 44) M M' := fun c hc => h c (by omega)
theorem AC.sc (h : AC M t tx n ea K S d0 s A kp A1 A2 Z) (hs : Sc t M M') : AC M' t tx n ea K S d0 s A kp A1 A2 Z := by
  obtain ⟨a1, a2, a3, a4, a5, a6, a7, a8, a9⟩ := h
  refine ⟨?_, a2.fr (fun c h1 h2 => hs c (by omega)), a3.fr (fun c h1 h2 => hs c (by omega)), a4.fr (fun c h1 h2 => hs c (by omega)), fun hk => (a5 hk).fr (fun c h1 h2 => hs c (by omega)), fun hk => (a6 hk).fr (fun c h1 h2 => hs c (by omega)), ?_, ?_, ?_⟩
  · rw [hs (t + 1) (by omega), hs (t + 2) (by omega)]; exact a1
  · rw [hs t (by omega)]; exact a7
  · rw [hs t (by omega)]; exact a8
  · rw [hs t (by omega)]; exact a9
theorem AC.out (h : AC M t tx n ea K S d0 s A kp A1 A2 Z) (hs : ∀ c, t ≤ c → c < t + 44 → M' c = M c) : AC M' t tx n ea K S d0 s A kp A1 A2 Z := by
  obtain ⟨a1, a2, a3, a4, a5, a6, a7, a8, a9⟩ := h
  refine ⟨?_, a2.fr (fun c h1 h2 => hs c (by omega) (by omega)), a3.fr (fun c h1 h2 => hs c (by omega) (by omega)), a4.fr (fun c h1 h2 => hs c (by omega) (by omega)), fun hk => (a5 hk).fr (fun c h1 h2 => hs c (by omega) (by omega)), fun hk => (a6 hk).fr (fun c h1 h2 => hs c (by omega) (by omega)), ?_, ?_, ?_⟩
  · rw [hs (t + 1) (by omega) (by omega), hs (t + 2) (by omega) (by omega)]; exact a1
  · rw [hs t (by omega) (by omega)]; exact a7
  · rw [hs t (by omega) (by omega)]; exact a8
  · rw [hs t (by omega) (by omega)]; exact a9
theorem ScR.rf : ScR t M M := ⟨fun _ _ => rfl, fun _ _ => rfl, rfl, rfl, fun _ _ => ⟨rfl, rfl⟩, fun _ _ => ⟨rfl, rfl⟩, rfl, rfl, rfl⟩
theorem ScR.tr {M2 : Mem} (h : ScR t M M') (h2 : ScR t M' M2) : ScR t M M2 := by
  obtain ⟨a1, a2, a3, a4, a5, a6, a7, a8, a9⟩ := h
  obtain ⟨b1, b2, b3, b4, b5, b6, b7, b8, b9⟩ := h2
  exact ⟨fun c hc => (b1 c hc).trans (a1 c hc), fun k hk => (b2 k hk).trans (a2 k hk), b3.trans a3, b4.trans a4, fun k hk => ⟨(b5 k hk).1.trans (a5 k hk).1, (b5 k hk).2.trans (a5 k hk).2⟩, fun k hk => ⟨(b6 k hk).1.trans (a6 k hk).1, (b6 k hk).2.trans (a6 k hk).2⟩, b7.trans a7, b8.trans a8, b9.trans a9⟩
theorem FrR.ScR {b : Nat} (h : FrR t b M M') (hb : 1 ≤ b) : ScR t M M' := by
  obtain ⟨g1, g2, g3⟩ := h
  obtain ⟨k1, k2, k3⟩ := g3 0 (by omega)
  refine ⟨fun c hc => g1 c (by omega), fun k hk => by rw [g1 t (by omega)], by rw [g1 _ (by omega)], by rw [g1 _ (by omega)], fun k hk => ⟨by rw [g1 _ (by omega)], by rw [g1 _ (by omega)]⟩, fun k hk => ⟨by rw [g1 _ (by omega)], g2 k (by omega)⟩, k1, k2, k3⟩
theorem ScR.Fr (h : ScR t M M') : Fr t (t + 19) M M' := fun c hc => h.1 c (by omega)
theorem RA.fr {q : Nat} (h : RA M t q A) (hf : ∀ c, t + 7 ≤ c → c < t + 11 → M' c = M c) : RA M' t q A := by
  unfold RA
  rw [hf (t + 7) (by omega) (by omega), hf (t + 8) (by omega) (by omega), hf (t + 9) (by omega) (by omega), hf (t + 10) (by omega) (by omega)]
  exact h
theorem AR.sc (h : AR M t tx n ea K S d0 s A kp A1 A2 Z) (hn : n ≤ 7) (hs : ScR t M M') : AR M' t tx n ea K S d0 s A kp A1 A2 Z := by
  obtain ⟨a1, a2, a3, a4, ⟨c0, c1, c2, ck, cs, cd⟩, a6, a7, a8, a9, a10, a11⟩ := h
  obtain ⟨b1, b2, b3, b4, b5, b6, b7, b8, b9⟩ := hs
  refine ⟨?_, b3.trans a2, b4.trans a3, fun i j hi hj => ((b6 _ (by omega)).1).trans (a4 i j hi hj), ⟨b9.trans c0, b8.trans c1, b7.trans c2, fun i hi => ((b5 i (by omega)).1).trans (ck i hi), fun i hi => ((b5 i (by omega)).2).trans (cs i hi), fun i j hi hj => ((b6 _ (by omega)).2).trans (cd i j hi hj)⟩, a6.fr (fun c h1 h2 => b1 c (by omega)), fun hk => (a7 hk).fr (fun c h1 h2 => b1 c (by omega)), fun hk => (a8 hk).fr (fun c h1 h2 => b1 c (by omega)), (b2 _ (by omega)).trans a9, (b2 _ (by omega)).trans a10, ?_⟩
  · rw [b2 0 (by omega), b1 (t + 1) (by omega)]; exact a1
  · rw [b1 (t + 11) (by omega)]; exact a11
theorem TR.out {b day al : Nat} (h : TR M t b n day al K S d) (hs : ∀ c, t ≤ c → c < t + 19 → M' c = M c) : TR M' t b n day al K S d := by
  unfold TR
  rw [hs (t + 16) (by omega) (by omega), hs (t + 15) (by omega) (by omega), hs (t + 14) (by omega) (by omega), hs (t + 13) (by omega) (by omega), hs (t + 3) (by omega) (by omega), hs (t + 4) (by omega) (by omega)]
  exact h
theorem AR.out (h : AR M t tx n ea K S d0 s A kp A1 A2 Z) (hs : ∀ c, t ≤ c → c < t + 19 → M' c = M c) : AR M' t tx n ea K S d0 s A kp A1 A2 Z := by
  obtain ⟨a1, a2, a3, a4, a5, a6, a7, a8, a9, a10, a11⟩ := h
  refine ⟨?_, ?_, ?_, ?_, a5.out hs, a6.fr (fun c h1 h2 => hs c (by omega) (by omega)), fun hk => (a7 hk).fr (fun c h1 h2 => hs c (by omega) (by omega)), fun hk => (a8 hk).fr (fun c h1 h2 => hs c (by omega) (by omega)), ?_, ?_, ?_⟩
  · rw [hs t (by omega) (by omega), hs (t + 1) (by omega) (by omega)]; exact a1
  · rw [hs (t + 2) (by omega) (by omega)]; exact a2
  · rw [hs (t + 6) (by omega) (by omega)]; exact a3
  · rw [hs (t + 5) (by omega) (by omega)]; exact a4
  · rw [hs t (by omega) (by omega)]; exact a9
  · rw [hs t (by omega) (by omega)]; exact a10
  · rw [hs (t + 11) (by omega) (by omega)]; exact a11
/-- what an ACT can be, of the class's own numbers -/
theorem X4_canBeDoneA_s {kind day al : Nat} (hT : TC M t n day ea al K S d) (hV : t_ok n al K d) (hA : a_ok n kind i j) : X4_canBeDone t (nI kind) (nI i) (nI j) M = some (b2 (o_can al K d kind i j), M) := by
  have w := hV.1
  obtain ⟨hk5, ha, hb, hg⟩ := hA
  by_cases h : kind < 4
  · have := ha h
    exact X4_canBeDone_s hT hV hk5 (by omega) (by omega)
  · by_cases h4 : kind = 4
    · have := hb h4
      exact X4_canBeDone_s hT hV hk5 (by omega) (by omega)
    · have h5 : kind = 5 := by omega
      subst h5
      rfl
def o_rep (n : Nat) (K : Nat → Nat) (A : Al) (but : Nat) (k : Nat) (s0 : Ts) : Ts := fo (fun k s => if k ≠ but ∧ o_can s.1 K s.2.2 (A.2 k).1 (A.2 k).2.1 (A.2 k).2.2 = true then o_do n K (A.2 k).1 (A.2 k).2.1 (A.2 k).2.2 s else s) k s0
theorem X5_doAgain_s {x2 : Int32} {but t1 : Nat} (h0 : TC M (t + 7) n 0 ea (2 ^ n - 1) K S d0) (hA : LA M (t + 28) A) (hV : t_ok n (2 ^ n - 1) K d0) (hAll : a_all n A) (ht : t + 16 ≤ t1) (ht2 : t1 ≤ t + 23) (hx : ∀ k, k < 40 → (nI k = x2 ↔ k = but)) :
    ∃ M', X5_doAgain t t1 x2 M = some ((), M') ∧ (∀ s', s' = o_rep n K A but A.1 (2 ^ n - 1, 0, d0) → TC M' t1 n s'.2.1 ea s'.1 K S s'.2.2 ∧ t_ok n s'.1 K s'.2.2 ∧ s'.2.1 ≤ 9 * A.1) ∧ Fr t1 (t1 + 5) M M' := by
  have w := hV.1
  have hc := hAll.1
  obtain ⟨M1, e1, hT1, hF1⟩ := X4_copyFrom_s (t := t1) h0 (by omega) (by omega)
  unfold X5_doAgain
  rw [e1, zz_call]
  refine lp (S := Int32 × Mem) (fun f z => X5_doAgain_10 t t1 x2 f z.1 z.2) (fun k z => z.1 = nI k ∧ (∀ s', s' = o_rep n K A but k (2 ^ n - 1, 0, d0) → TC z.2 t1 n s'.2.1 ea s'.1 K S s'.2.2 ∧ t_ok n s'.1 K s'.2.2 ∧ s'.2.1 ≤ 9 * k) ∧ Fr t1 (t1 + 5) M z.2)
    (fun r => ∃ M', r = some ((), M') ∧ (∀ s', s' = o_rep n K A but A.1 (2 ^ n - 1, 0, d0) → TC M' t1 n s'.2.1 ea s'.1 K S s'.2.2 ∧ t_ok n s'.1 K s'.2.2 ∧ s'.2.1 ≤ 9 * A.1) ∧ Fr t1 (t1 + 5) M M') A.1 ?_ ?_ 0 FU (nI 0, M1) (by omega) (FU_lt (by omega)) ⟨rfl, fun s' e => by rw [e]; exact ⟨hT1, hV, Nat.le_refl _⟩, hF1⟩
  · intro k f z hk ⟨e1, hT1, hF1⟩
    obtain ⟨x, M1⟩ := z
    dsimp only at e1 hT1 hF1
    subst e1
    left
    have hA1 : LA M1 (t + 28) A := hA.fr (fun c h1 h2 => hF1 c (by omega))
    obtain ⟨g0, g1⟩ := hA1
    obtain ⟨g2, g3, g4⟩ := g1 k hk
    have ha := hAll.2 k hk
    have er : ∀ b, o_rep n K A but (b + 1) (2 ^ n - 1, 0, d0) = if b ≠ but ∧ o_can (o_rep n K A but b (2 ^ n - 1, 0, d0)).1 K (o_rep n K A but b (2 ^ n - 1, 0, d0)).2.2 (A.2 b).1 (A.2 b).2.1 (A.2 b).2.2 = true then o_do n K (A.2 b).1 (A.2 b).2.1 (A.2 b).2.2 (o_rep n K A but b (2 ^ n - 1, 0, d0)) else o_rep n K A but b (2 ^ n - 1, 0, d0) := fun _ => rfl
    rw [er k]
    generalize o_rep n K A but k (2 ^ n - 1, 0, d0) = s1 at hT1 ⊢
    obtain ⟨hT1, hV1, hd1⟩ := hT1 _ rfl
    have pre : ∀ F, X5_doAgain_10 t t1 x2 (f + 1) (nI k) M1 = F ↔ (if nI k = x2 then X5_doAgain_10 t t1 x2 f (nI (k + 1)) M1 else if o_can s1.1 K s1.2.2 (A.2 k).1 (A.2 k).2.1 (A.2 k).2.2 = false then X5_doAgain_10 t t1 x2 f (nI (k + 1)) M1 else s_call (X4_perform t1 (nI (A.2 k).1) (nI (A.2 k).2.1) (nI (A.2 k).2.2) M1) fun _ M76 => X5_doAgain_10 t t1 x2 f (nI (k + 1)) M76) = F := by
      intro F
      rw [X5_doAgain_10]
      unfold X0_size X0_kindAt X0_firstAt X0_secondAt
      simp (disch := omega) only [nl0, nl1, nl2, nl3, nl4, nl5, nl6, nl7, nl8, nl9, nl10, nl32, nl40, nl44, nl48, nl57, nl59, nl60, nl63, nl64, nl99, nl100, nl101, nl111, nl112, nl126, nl128, nl200, nl504, nl9999, nl65521, zz_ald, zz_ast, zz_let, zz_call, zz_put, zz_rem, zz_div, zz_rz, zz_rz0, zz_rz1, pk_mul, nI_add, pk_sub, b2_0, b2_1, nI_leI, nI_ltI, nI_eq, g0, g2, g3, g4, X4_canBeDoneA_s hT1 hV1 ha]
      rw [if_neg (by omega)]
    by_cases hb : k = but
    · refine ⟨(nI (k + 1), M1), ?_, rfl, fun s' e => ?_, hF1⟩
      · show X5_doAgain_10 t t1 x2 (f + 1) (nI k) M1 = _
        rw [pre, if_pos ((hx k (by omega)).2 hb)]
      · rw [if_neg (fun h => h.1 hb)] at e
        rw [e]
        exact ⟨hT1, hV1, by omega⟩
    · by_cases hcan : o_can s1.1 K s1.2.2 (A.2 k).1 (A.2 k).2.1 (A.2 k).2.2 = true
      · obtain ⟨M2, e2, hT2, hF2⟩ := X4_perform_s hT1 hV1 (by omega) ha hcan
        refine ⟨(nI (k + 1), M2), ?_, rfl, fun s' e => ?_, hF1.tr hF2⟩
        · show X5_doAgain_10 t t1 x2 (f + 1) (nI k) M1 = _
          rw [pre, if_neg (fun h => hb ((hx k (by omega)).1 h)), if_neg (by simp [hcan]), e2]
          rfl
        · rw [if_pos ⟨hb, hcan⟩] at e
          obtain ⟨z1, z2, z3⟩ := hT2 s' e
          exact ⟨z1, z2, by omega⟩
      · refine ⟨(nI (k + 1), M1), ?_, rfl, fun s' e => ?_, hF1⟩
        · show X5_doAgain_10 t t1 x2 (f + 1) (nI k) M1 = _
          rw [pre, if_neg (fun h => hb ((hx k (by omega)).1 h)), if_pos (by simpa using hcan)]
        · rw [if_neg (fun h => hcan h.2)] at e
          rw [e]
          exact ⟨hT1, hV1, by omega⟩
  · intro f z ⟨e1, hT1, hF1⟩
    obtain ⟨x, M1⟩ := z
    dsimp only at e1 hT1 hF1
    subst e1
    have hA1 : LA M1 (t + 28) A := hA.fr (fun c h1 h2 => hF1 c (by omega))
    refine ⟨M1, ?_, hT1, hF1⟩
    show X5_doAgain_10 t t1 x2 (f + 1) (nI A.1) M1 = _
    rw [X5_doAgain_10]
    unfold X0_size
    rw [zz_call, hA1.1, if_pos (nI_le (Nat.le_refl _) (by omega))]
end STATE
