/-! ===== the class, made ===== -/
def o5_0 : List (Option (Option Nat)) := [some none, some none, some none, some none, some none, some none, some none, some none, none, none, none, some none, some none]
def R5_0 : List CDs := []
def o5_1 : List (Option (Option Nat)) := o5_0.set 0 (some (some 1))
def R5_1 : List CDs := R5_0 ++ C_X1 1
def o5_2 : List (Option (Option Nat)) := o5_1.set 1 (some (some 3))
def R5_2 : List CDs := R5_1 ++ C_X3 3
def o5_3 : List (Option (Option Nat)) := o5_2.set 2 (some (some 7))
def R5_3 : List CDs := R5_2 ++ L_fT 5
def o5_4 : List (Option (Option Nat)) := o5_3.set 3 (some (some 16))
def R5_4 : List CDs := R5_3 ++ L_fT 14
def o5_5 : List (Option (Option Nat)) := o5_4.set 4 (some (some 23))
def R5_5 : List CDs := R5_4 ++ C_X4 23
def o5_6 : List (Option (Option Nat)) := o5_5.set 5 (some (some 28))
def R5_6 : List CDs := R5_5 ++ C_X0 28
def o5_7 : List (Option (Option Nat)) := o5_6.set 6 (some (some 32))
def R5_7 : List CDs := R5_6 ++ C_X0 32
def o5_8 : List (Option (Option Nat)) := o5_7.set 7 (some (some 36))
def R5_8 : List CDs := R5_7 ++ C_X0 36
def o5_9 : List (Option (Option Nat)) := o5_8.set 11 (some (some 40))
def R5_9 : List CDs := R5_8 ++ C_X2 40
def o5_10 : List (Option (Option Nat)) := o5_9.set 12 (some (some 43))
def R5_10 : List CDs := R5_9 ++ [.inl 64]
theorem o5_len0 : 0 < o5_0.length := by decide
theorem R5_len0 : R5_0.length + 1 = 1 := by decide
theorem o5_len1 : 1 < o5_1.length := by decide
theorem R5_len1 : R5_1.length + 1 = 3 := by decide
theorem o5_len2 : 2 < o5_2.length := by decide
theorem R5_len2 : R5_2.length + 1 = 5 := by decide
theorem o5_len3 : 3 < o5_3.length := by decide
theorem R5_len3 : R5_3.length + 1 = 14 := by decide
theorem o5_len4 : 4 < o5_4.length := by decide
theorem R5_len4 : R5_4.length + 1 = 23 := by decide
theorem o5_len5 : 5 < o5_5.length := by decide
theorem R5_len5 : R5_5.length + 1 = 28 := by decide
theorem o5_len6 : 6 < o5_6.length := by decide
theorem R5_len6 : R5_6.length + 1 = 32 := by decide
theorem o5_len7 : 7 < o5_7.length := by decide
theorem R5_len7 : R5_7.length + 1 = 36 := by decide
theorem o5_len8 : 11 < o5_8.length := by decide
theorem R5_len8 : R5_8.length + 1 = 40 := by decide
theorem o5_len9 : 12 < o5_9.length := by decide
theorem R5_len9 : R5_9.length + 1 = 43 := by decide
def L_X5 : List CDs := .inr (5, o5_10) :: R5_10
theorem L_X5_len : L_X5.length = 44 := by decide
theorem L_X5_is : is_X5 L_X5 0 := ⟨rfl, ⟨rfl, rfl⟩, ⟨rfl, rfl⟩, ⟨rfl, rfl, rfl, rfl, rfl⟩, ⟨rfl, rfl, rfl, rfl, rfl⟩, ⟨rfl, rfl, rfl, rfl, rfl⟩, ⟨rfl, rfl, rfl, rfl⟩, ⟨rfl, rfl, rfl, rfl⟩, ⟨rfl, rfl, rfl, rfl⟩, ⟨rfl, rfl, rfl⟩, rfl⟩
theorem k5_0 : Cond.fieldLink RX5 12 (TX5 0).1 (TX5 0).2.1 (TX5 0).2.2.1 ∈ wsX5_init := List.mem_of_getElem? (i := 7) rfl
theorem k5_1 : Cond.fieldLink RX5 19 (TX5 1).1 (TX5 1).2.1 (TX5 1).2.2.1 ∈ wsX5_init := List.mem_of_getElem? (i := 11) rfl
theorem k5_2 : Cond.fieldLink RX5 27 (TX5 2).1 (TX5 2).2.1 (TX5 2).2.2.1 ∈ wsX5_init := List.mem_of_getElem? (i := 12) rfl
theorem k5_3 : Cond.fieldLink RX5 31 (TX5 3).1 (TX5 3).2.1 (TX5 3).2.2.1 ∈ wsX5_init := List.mem_of_getElem? (i := 13) rfl
theorem k5_4 : Cond.fieldLink RX5 37 (TX5 4).1 (TX5 4).2.1 (TX5 4).2.2.1 ∈ wsX5_init := List.mem_of_getElem? (i := 17) rfl
theorem k5_5 : Cond.fieldLink RX5 43 (TX5 5).1 (TX5 5).2.1 (TX5 5).2.2.1 ∈ wsX5_init := List.mem_of_getElem? (i := 21) rfl
theorem k5_6 : Cond.fieldLink RX5 47 (TX5 6).1 (TX5 6).2.1 (TX5 6).2.2.1 ∈ wsX5_init := List.mem_of_getElem? (i := 22) rfl
theorem k5_7 : Cond.fieldLink RX5 50 (TX5 7).1 (TX5 7).2.1 (TX5 7).2.2.1 ∈ wsX5_init := List.mem_of_getElem? (i := 23) rfl
theorem k5_8 : Cond.fieldLink RX5 56 (TX5 11).1 (TX5 11).2.1 (TX5 11).2.2.1 ∈ wsX5_init := List.mem_of_getElem? (i := 27) rfl
theorem k5_9 : Cond.fieldLink RX5 60 (TX5 12).1 (TX5 12).2.1 (TX5 12).2.2.1 ∈ wsX5_init := List.mem_of_getElem? (i := 29) rfl
set_option maxRecDepth 100000 in
set_option maxHeartbeats 8000000 in
theorem c_X5_init {l : Launch} {D : va_G} {cI : ClassId} {b : Nat} {M : Mem} {aK aV : Nat → Nat} (hz : ∀ c, c < 44 → M c = fun _ => 0) :
    ∃ M' : Mem, mkE_Met l yX5_init wsX5_init rmX5_init (fs_E (bA b) aK aV) D cI b [.ref (bd b 0)] none [.inr (5, o5_0)] L_X5 M M' 43 1480 ∧ TC M' 7 5 0 40 (2 ^ 5 - 1) k_1 s_1 d_1 ∧ TC M' 16 5 0 40 (2 ^ 5 - 1) k_1 s_1 d_1 ∧ ∀ e, (e < 5 ∨ 23 ≤ e) → M' e = M e := by
  obtain ⟨M1, hm1, hTC1, hF1⟩ := c_X5_firstTown (l := l) (D := D) (cI := cI) (b := b) (N := 5) (L0 := .inr (5, o5_2) :: R5_2) (M := M) (aK := aK) (aV := aV) R5_len2 (fun c h1 h2 => hz c (by omega))
  have hz1 : ∀ c, 14 ≤ c → c < 44 → M1 c = fun _ => 0 := fun c h1 h2 => by rw [hF1 c (by omega)]; exact hz c h2
  obtain ⟨M2, hm2, hTC2, hF2⟩ := c_X5_firstTown (l := l) (D := D) (cI := cI) (b := b) (N := 14) (L0 := .inr (5, o5_3) :: R5_3) (M := M1) (aK := aK) (aV := aV) R5_len3 (fun c h1 h2 => hz1 c h1 (by omega))
  have hz2 : ∀ c, 23 ≤ c → c < 44 → M2 c = fun _ => 0 := fun c h1 h2 => by rw [hF2 c (by omega)]; exact hz1 c (by omega) h2
  refine ⟨M2, ?_, hTC1.fr (fun c h1 h2 => hF2 c (by omega)), hTC2, fun e he => by rw [hF2 e (by omega), hF1 e (by omega)]⟩
  refine Met.ofW (cc := cX5_init) (maxL := 1) (ret := none) (by decide) rfl ?_
  intro p e s m args below meth c s₁ B hml hv
  obtain ⟨rfl, ⟨hsz0, hP, hK⟩, hE⟩ := hv
  have hx := B.exec
  have hb := B.bytes
  have hr := B.returns
  have hts := atoms_spec (ws := wsX5_init) B.pre
  have hown : s.vm.findClass RX5 = some m.cls := findClass_of_methodNamed B.named
  have hlocks := B.notSynchronized
  have hin : meth.name = "<init>" := (name_of_methodNamed B.named B.method).1
  have hsz0 : s.heap.size = b + 1 := hsz0
  have C0 : i5_X p s m [Value.ref (bd b 0)].toArray meth c D cI b aK aV := ⟨⟨hx, hb, hml, hown, hts⟩, hK, hE, hsz0, hin⟩
  have hS : va_S (bA b) s.heap s.heap [] := va_S.rf
  have hl := lv_entry ([.ref (bd b 0)]) (n := 1) (Nat.le_of_ble_eq_true rfl)
  rw [lg_entry_eq]
  generalize (lg_sl ([.ref (bd b 0)]) ++ List.replicate (1 - (lg_sl ([.ref (bd b 0)])).length) Slot.unset).toArray = ls at hl ⊢
  have hl : lv_has ls 1 [(0, .ref (bd b 0))] := hl
  refine lv_aload_n hx hb dX5_init_0 rfl (lv_at hl 0 rfl) ?_
  refine W.objInit hx hb hown (hts (.methodLink RX5 3 objectInit) (List.mem_of_getElem? (i := 1) rfl)) (hts (.instanceMethod objectInit) (List.mem_of_getElem? (i := 2) rfl)) (hts _ (List.mem_of_getElem? (i := 3) rfl)) rfl (by rw [hml]; exact hl.1) rfl dX5_init_1 (Nat.le_of_ble_eq_true rfl) (Nat.le_of_ble_eq_true rfl) ?_
  refine W.eq (g2 := F0 m 4 ls []) rfl ?_
  refine i5_X1 (fl := o5_0) (R := R5_0) (n := 1) (j := 0) (ix := 12) (pc := 4) (cells := 0) (slots := 0) C0 R5_len0 rfl (fun c h1 h2 => hz c (by omega)) (by decide) (by decide) o5_len0 (by decide) k5_0 rfl rfl rfl dX5_init_4 dX5_init_5 dX5_init_8 dX5_init_9 dX5_init_12 hP hS hl (fun H locs hP hS => ?_)
  refine i5_X3 (fl := o5_1) (R := R5_1) (n := 3) (j := 1) (ix := 19) (pc := 15) (cells := 2) (slots := 202) C0 R5_len1 rfl (fun c h1 h2 => hz c (by omega)) (by decide) (by decide) o5_len1 (by decide) k5_1 rfl rfl rfl dX5_init_15 dX5_init_16 dX5_init_19 dX5_init_20 dX5_init_23 hP hS hl (fun H locs hP hS => ?_)
  refine i5_f (fl := o5_2) (R := R5_2) (n := 5) (j := 2) (ix := 27) (pc := 26) (cells := 4) (slots := 206) C0 R5_len2 rfl hm1 (by decide) (by decide) o5_len2 (by decide) k5_2 rfl rfl rfl dX5_init_26 dX5_init_27 dX5_init_30 hP hS hl (fun H locs hP hS => ?_)
  refine i5_f (fl := o5_3) (R := R5_3) (n := 14) (j := 3) (ix := 31) (pc := 33) (cells := 13) (slots := 508) C0 R5_len3 rfl hm2 (by decide) (by decide) o5_len3 (by decide) k5_3 rfl rfl rfl dX5_init_33 dX5_init_34 dX5_init_37 hP hS hl (fun H locs hP hS => ?_)
  refine i5_X4 (fl := o5_4) (R := R5_4) (n := 23) (j := 4) (ix := 37) (pc := 40) (cells := 22) (slots := 810) C0 R5_len4 rfl (fun c h1 h2 => hz2 c (by omega) (by omega)) (by decide) (by decide) o5_len4 (by decide) k5_4 rfl rfl rfl dX5_init_40 dX5_init_41 dX5_init_44 dX5_init_45 dX5_init_48 hP hS hl (fun H locs hP hS => ?_)
  refine i5_X0 (fl := o5_5) (R := R5_5) (n := 28) (j := 5) (ix := 43) (pc := 51) (cells := 27) (slots := 906) C0 R5_len5 rfl (fun c h1 h2 => hz2 c (by omega) (by omega)) (by decide) (by decide) o5_len5 (by decide) k5_5 rfl rfl rfl dX5_init_51 dX5_init_52 dX5_init_55 dX5_init_56 dX5_init_59 hP hS hl (fun H locs hP hS => ?_)
  refine i5_X0 (fl := o5_6) (R := R5_6) (n := 32) (j := 6) (ix := 47) (pc := 62) (cells := 31) (slots := 1030) C0 R5_len6 rfl (fun c h1 h2 => hz2 c (by omega) (by omega)) (by decide) (by decide) o5_len6 (by decide) k5_6 rfl rfl rfl dX5_init_62 dX5_init_63 dX5_init_66 dX5_init_67 dX5_init_70 hP hS hl (fun H locs hP hS => ?_)
  refine i5_X0 (fl := o5_7) (R := R5_7) (n := 36) (j := 7) (ix := 50) (pc := 73) (cells := 35) (slots := 1154) C0 R5_len7 rfl (fun c h1 h2 => hz2 c (by omega) (by omega)) (by decide) (by decide) o5_len7 (by decide) k5_7 rfl rfl rfl dX5_init_73 dX5_init_74 dX5_init_77 dX5_init_78 dX5_init_81 hP hS hl (fun H locs hP hS => ?_)
  refine i5_X2 (fl := o5_8) (R := R5_8) (n := 40) (j := 11) (ix := 56) (pc := 84) (cells := 39) (slots := 1278) C0 R5_len8 rfl (fun c h1 h2 => hz2 c (by omega) (by omega)) (by decide) (by decide) o5_len8 (by decide) k5_8 rfl rfl rfl dX5_init_84 dX5_init_85 dX5_init_88 dX5_init_89 dX5_init_92 hP hS hl (fun H locs hP hS => ?_)
  refine i5_a (fl := o5_9) (R := R5_9) (n := 43) (j := 12) (ix := 60) (pc := 95) (cells := 42) (slots := 1416) C0 R5_len9 rfl (hz2 43 (by decide) (by decide)) (by decide) (by decide) o5_len9 (by decide) k5_9 rfl rfl rfl dX5_init_95 dX5_init_96 dX5_init_98 dX5_init_100 hP hS hl (fun H locs hP hS => ?_)
  exact W.vret hx hb hr (fun t ht hW => ⟨⟨rfl, by rw [ht]; exact hP⟩, hS.F ht⟩) hS.2.2 dX5_init_103
