/-! ===== the pure programs, by program out of the decode rows (wip/gen/gen.py) ===== -/
def FU : Nat := 100000
def is_X0 (L : List CDs) (t : Nat) : Prop := L[t]? = some (.inr (0, [some (some (t + 1)), some (some (t + 2)), some (some (t + 3)), none])) ∧ L[t + 1]? = some (.inl 40) ∧ L[t + 2]? = some (.inl 40) ∧ L[t + 3]? = some (.inl 40)
def is_X1 (L : List CDs) (t : Nat) : Prop := L[t]? = some (.inr (1, [some (some (t + 1)), none])) ∧ L[t + 1]? = some (.inl 200)
def is_X2 (L : List CDs) (t : Nat) : Prop := L[t]? = some (.inr (2, [some (some (t + 1)), some (some (t + 2)), none])) ∧ L[t + 1]? = some (.inl 7) ∧ L[t + 2]? = some (.inl 128)
def is_X3 (L : List CDs) (t : Nat) : Prop := L[t]? = some (.inr (3, [some (some (t + 1))])) ∧ L[t + 1]? = some (.inl 3)
def is_X4 (L : List CDs) (t : Nat) : Prop := L[t]? = some (.inr (4, [none, none, none, none, some (some (t + 1)), some (some (t + 2)), some (some (t + 3)), some (some (t + 4))])) ∧ L[t + 1]? = some (.inl 8) ∧ L[t + 2]? = some (.inl 8) ∧ L[t + 3]? = some (.inl 64) ∧ L[t + 4]? = some (.inl 8)
def is_X5 (L : List CDs) (t : Nat) : Prop := L[t]? = some (.inr (5, [some (some (t + 1)), some (some (t + 3)), some (some (t + 7)), some (some (t + 16)), some (some (t + 23)), some (some (t + 28)), some (some (t + 32)), some (some (t + 36)), none, none, none, some (some (t + 40)), some (some (t + 43))])) ∧ is_X1 L (t + 1) ∧ is_X3 L (t + 3) ∧ is_X4 L (t + 7) ∧ is_X4 L (t + 16) ∧ is_X4 L (t + 23) ∧ is_X0 L (t + 28) ∧ is_X0 L (t + 32) ∧ is_X0 L (t + 36) ∧ is_X2 L (t + 40) ∧ L[t + 43]? = some (.inl 64)
def is_X6 (L : List CDs) (t : Nat) : Prop := L[t]? = some (.inr (6, [none, some (some (t + 1)), some (some (t + 2)), some (some (t + 3)), some (some (t + 4)), some (some (t + 5)), some (some (t + 6)), some (some (t + 7)), some (some (t + 8)), some (some (t + 9)), some (some (t + 10)), none, none, some (some (t + 11)), none, some (some (t + 12)), some (some (t + 13)), some (some (t + 14)), some (some (t + 15)), some (some (t + 16)), some (some (t + 17)), some (some (t + 18))])) ∧ L[t + 1]? = some (.inl 200) ∧ L[t + 2]? = some (.inl 2) ∧ L[t + 3]? = some (.inl 16) ∧ L[t + 4]? = some (.inl 16) ∧ L[t + 5]? = some (.inl 128) ∧ L[t + 6]? = some (.inl 2) ∧ L[t + 7]? = some (.inl 3) ∧ L[t + 8]? = some (.inl 120) ∧ L[t + 9]? = some (.inl 120) ∧ L[t + 10]? = some (.inl 120) ∧ L[t + 11]? = some (.inl 6) ∧ L[t + 12]? = some (.inl 3) ∧ L[t + 13]? = some (.inl 192) ∧ L[t + 14]? = some (.inl 3) ∧ L[t + 15]? = some (.inl 3) ∧ L[t + 16]? = some (.inl 3) ∧ L[t + 17]? = some (.inl 8) ∧ L[t + 18]? = some (.inl 128)
def J6_bitCount_0f7a4 (x0 : Int32) : Mem → Option (Int32 × Mem) := fun M =>
  s_let (x0 - ((((x0).toUInt32 >>> (((1 : Int32)).toUInt32 &&& Int32.toUInt32 31)).toInt32) &&& (1431655765 : Int32))) fun x0_9 =>
  s_let ((x0_9 &&& (858993459 : Int32)) + ((((x0_9).toUInt32 >>> (((2 : Int32)).toUInt32 &&& Int32.toUInt32 31)).toInt32) &&& (858993459 : Int32))) fun x0_23 =>
  s_let ((x0_23 + (((x0_23).toUInt32 >>> (((4 : Int32)).toUInt32 &&& Int32.toUInt32 31)).toInt32)) &&& (252645135 : Int32)) fun x0_33 =>
  s_let (x0_33 + (((x0_33).toUInt32 >>> (((8 : Int32)).toUInt32 &&& Int32.toUInt32 31)).toInt32)) fun x0_40 =>
  s_let (x0_40 + (((x0_40).toUInt32 >>> (((16 : Int32)).toUInt32 &&& Int32.toUInt32 31)).toInt32)) fun x0_47 =>
  some ((x0_47 &&& (63 : Int32)), M)
def J7_fill_53178_5 (t0 : Nat) (n0 : Nat) (x1 : Int32) (x3 : Int32) : Nat → Int32 → Mem → Option (Unit × Mem)
  | 0, _, _ => none
  | n + 1, x2, M =>
    if x3 ≤ x2 then (
      some ((), M))
    else (
      s_ast M t0 n0 x2 x1 fun M13 =>
      J7_fill_53178_5 t0 n0 x1 x3 n (x2 + (1 : Int32)) M13)
def J7_fill_53178 (t0 : Nat) (n0 : Nat) (x1 : Int32) : Mem → Option (Unit × Mem) := fun M =>
  s_let (Nat.toInt32 n0) fun x3_4 =>
  J7_fill_53178_5 t0 n0 x1 x3_4 FU (0 : Int32) M
def X0_clear (t : Nat) : Mem → Option (Unit × Mem) := fun M =>
  s_put M t 3 (0 : Int32) fun M2 =>
  some ((), M2)
def X0_copyFrom (t : Nat) (t1 : Nat) : Mem → Option (Unit × Mem) := fun M =>
  s_cpy M (t1 + 1) 40 (0 : Int32) (t + 1) 40 (0 : Int32) (40 : Int32) fun M12 =>
  s_cpy M12 (t1 + 2) 40 (0 : Int32) (t + 2) 40 (0 : Int32) (40 : Int32) fun M27 =>
  s_cpy M27 (t1 + 3) 40 (0 : Int32) (t + 3) 40 (0 : Int32) (40 : Int32) fun M42 =>
  s_put M42 t 3 (M42 t1 3) fun M50 =>
  some ((), M50)
def X0_add (t : Nat) (x1 : Int32) (x2 : Int32) (x3 : Int32) : Mem → Option (Unit × Mem) := fun M =>
  if (40 : Int32) ≤ (M t 3) then (
    some ((), M))
  else (
    s_ast M (t + 1) 40 (M t 3) x1 fun M18 =>
    s_ast M18 (t + 2) 40 (M18 t 3) x2 fun M28 =>
    s_ast M28 (t + 3) 40 (M28 t 3) x3 fun M38 =>
    s_put M38 t 3 ((M38 t 3) + (1 : Int32)) fun M46 =>
    some ((), M46))
def X0_dropLatest (t : Nat) : Mem → Option (Unit × Mem) := fun M =>
  if (M t 3) ≤ 0 then (
    some ((), M))
  else (
    s_put M t 3 ((M t 3) - (1 : Int32)) fun M14 =>
    some ((), M14))
def X0_size (t : Nat) : Mem → Option (Int32 × Mem) := fun M =>
  some ((M t 3), M)
def X0_kindAt (t : Nat) (x1 : Int32) : Mem → Option (Int32 × Mem) := fun M =>
  s_ald M (t + 1) 40 x1 fun v5 =>
  some (v5, M)
def X0_firstAt (t : Nat) (x1 : Int32) : Mem → Option (Int32 × Mem) := fun M =>
  s_ald M (t + 2) 40 x1 fun v5 =>
  some (v5, M)
def X0_secondAt (t : Nat) (x1 : Int32) : Mem → Option (Int32 × Mem) := fun M =>
  s_ald M (t + 3) 40 x1 fun v5 =>
  some (v5, M)
def X1_clear (t : Nat) : Mem → Option (Unit × Mem) := fun M =>
  s_put M t 1 (0 : Int32) fun M2 =>
  some ((), M2)
def X1_add (t : Nat) (x1 : Int32) : Mem → Option (Unit × Mem) := fun M =>
  if (200 : Int32) ≤ (M t 1) then (
    some ((), M))
  else (
    s_ast M (t + 1) 200 (M t 1) x1 fun M19 =>
    s_put M19 t 1 ((M19 t 1) + (1 : Int32)) fun M27 =>
    some ((), M27))
def X1_length (t : Nat) : Mem → Option (Int32 × Mem) := fun M =>
  some ((M t 1), M)
def X1_at (t : Nat) (x1 : Int32) : Mem → Option (Int32 × Mem) := fun M =>
  if x1 < 0 then (
    some ((0 : Int32), M))
  else (
    if (M t 1) ≤ x1 then (
      some ((0 : Int32), M))
    else (
      s_ald M (t + 1) 200 x1 fun v17 =>
      some (v17, M)))
def X1_figureAt (t : Nat) (x1 : Int32) : Mem → Option (Int32 × Mem) := fun M =>
  s_call (X1_at t x1 M) fun v2 M2 =>
  if v2 < (48 : Int32) then (
    some ((-1 : Int32), M2))
  else (
    if (57 : Int32) < v2 then (
      some ((-1 : Int32), M2))
    else (
      some ((v2 - (48 : Int32)), M2)))
def X2_clear (t : Nat) (x1 : Int32) : Mem → Option (Unit × Mem) := fun M =>
  s_put M t 2 (if (7 : Int32) < x1 then (7 : Int32) else x1) fun M7 =>
  s_call (J7_fill_53178 (t + 1) 7 (0 : Int32) M7) fun _ M15 =>
  some ((), M15)
def X2_link (t : Nat) (x1 : Int32) (x2 : Int32) : Mem → Option (Unit × Mem) := fun M =>
  if (M t 2) ≤ x1 then (
    some ((), M))
  else (
    if (M t 2) ≤ x2 then (
      some ((), M))
    else (
      s_ald M (t + 1) 7 x1 fun v22 =>
      s_ast M (t + 1) 7 x1 (v22 ||| ((1 : Int32) <<< (x2 &&& 31))) fun M27 =>
      some ((), M27)))
def X2_areLinked (t : Nat) (x1 : Int32) (x2 : Int32) : Mem → Option (Int32 × Mem) := fun M =>
  s_ald M (t + 1) 7 x1 fun v5 =>
  if ¬ ((v5 >>> (x2 &&& 31)) &&& (1 : Int32)) = (1 : Int32) then (
    s_retz (0 : Int32) M)
  else (
    s_retz (1 : Int32) M)
def X2_linkedTo (t : Nat) (x1 : Int32) : Mem → Option (Int32 × Mem) := fun M =>
  s_ald M (t + 1) 7 x1 fun v5 =>
  some (v5, M)
def X2_linkedToAny_4 (t : Nat) (x1 : Int32) : Nat → Int32 → Int32 → Mem → Option (Int32 × Mem)
  | 0, _, _, _ => none
  | n + 1, x2, x3, M =>
    if (M t 2) ≤ x3 then (
      some (x2, M))
    else (
      if ¬ ((x1 >>> (x3 &&& 31)) &&& (1 : Int32)) = (1 : Int32) then (
        X2_linkedToAny_4 t x1 n x2 (x3 + (1 : Int32)) M)
      else (
        s_ald M (t + 1) 7 x3 fun v27 =>
        s_let (x2 ||| v27) fun x2_29 =>
        X2_linkedToAny_4 t x1 n x2_29 (x3 + (1 : Int32)) M))
def X2_linkedToAny (t : Nat) (x1 : Int32) : Mem → Option (Int32 × Mem) := fun M =>
  X2_linkedToAny_4 t x1 FU (0 : Int32) (0 : Int32) M
def X2_steps_7 (t : Nat) (x2 : Int32) : Nat → Int32 → Int32 → Mem → Option (Int32 × Mem)
  | 0, _, _, _ => none
  | n + 1, x3, x4, M =>
    if (M t 2) ≤ x4 then (
      some ((-4 : Int32), M))
    else (
      if ¬ ((x3 >>> (x2 &&& 31)) &&& (1 : Int32)) = (1 : Int32) then (
        s_call (X2_linkedToAny t x3 M) fun v31 M31 =>
        s_let (x3 ||| v31) fun x3_35 =>
        X2_steps_7 t x2 n x3_35 (x4 + (1 : Int32)) M31)
      else (
        some (x4, M)))
def X2_steps (t : Nat) (x1 : Int32) (x2 : Int32) : Mem → Option (Int32 × Mem) := fun M =>
  s_let ((1 : Int32) <<< (x1 &&& 31)) fun x3_3 =>
  X2_steps_7 t x2 FU x3_3 (0 : Int32) M
def X2_areAllLinked_2 (t : Nat) (x1 : Int32) : Nat → Int32 → Mem → Option (Int32 × Mem)
  | 0, _, _ => none
  | n + 1, x2, M =>
    if (M t 2) ≤ x2 then (
      s_retz (1 : Int32) M)
    else (
      s_let (x1 &&& (((1 : Int32) <<< (x2 &&& 31)) ^^^ (-1 : Int32))) fun x3_17 =>
      if x3_17 = x1 then (
        X2_areAllLinked_2 t x1 n (x2 + (1 : Int32)) M)
      else (
        s_ald M (t + 1) 7 x2 fun v29 =>
        if (x3_17 &&& (v29 ^^^ (-1 : Int32))) = 0 then (
          X2_areAllLinked_2 t x1 n (x2 + (1 : Int32)) M)
        else (
          s_retz (0 : Int32) M)))
def X2_areAllLinked (t : Nat) (x1 : Int32) : Mem → Option (Int32 × Mem) := fun M =>
  X2_areAllLinked_2 t x1 FU (0 : Int32) M
def X2_largestSet_27 (t : Nat) (x1 : Int32) (x2 : Int32) (x3 : Int32) (k4 : Int32 → Int32 → Mem → Option (Int32 × Mem)) : Int32 → Mem → Option (Int32 × Mem) := fun y0 M =>
  if y0 = 0 then (
    k4 x2 (x3 + (1 : Int32)) M)
  else (
    s_call (J6_bitCount_0f7a4 x3 M) fun v35 M35 =>
    s_call (J6_bitCount_0f7a4 x2 M35) fun v39 M39 =>
    if v35 ≤ v39 then (
      k4 x2 (x3 + (1 : Int32)) M39)
    else (
      s_call (X2_areAllLinked t x3 M39) fun v47 M47 =>
      if v47 = 0 then (
        k4 x2 (x3 + (1 : Int32)) M47)
      else (
        k4 x3 (x3 + (1 : Int32)) M47)))
def X2_largestSet_4 (t : Nat) (x1 : Int32) : Nat → Int32 → Int32 → Mem → Option (Int32 × Mem)
  | 0, _, _, _ => none
  | n + 1, x2, x3, M =>
    if ((1 : Int32) <<< ((M t 2) &&& 31)) ≤ x3 then (
      some (x2, M))
    else (
      if ¬ (x3 &&& (x1 ^^^ (-1 : Int32))) = 0 then (
        X2_largestSet_27 t x1 x2 x3 (X2_largestSet_4 t x1 n) (0 : Int32) M)
      else (
        X2_largestSet_27 t x1 x2 x3 (X2_largestSet_4 t x1 n) (1 : Int32) M))
def X2_largestSet (t : Nat) (x1 : Int32) : Mem → Option (Int32 × Mem) := fun M =>
  X2_largestSet_4 t x1 FU (0 : Int32) (1 : Int32) M
def X2_mostTwosWithin_31 (t : Nat) (x2 : Int32) (x3 : Int32) : Nat → Int32 → Int32 → Mem → Option (Int32 × Mem)
  | 0, _, _, _ => none
  | n + 1, x4, x5, M =>
    if (M t 2) ≤ x5 then (
      some (x4, M))
    else (
      s_ald M (t + 1) 7 x2 fun v46 =>
      if ((x3 &&& v46) &&& ((1 : Int32) <<< (x5 &&& 31))) = 0 then (
        X2_mostTwosWithin_31 t x2 x3 n x4 (x5 + (1 : Int32)) M)
      else (
        s_ald M (t + 2) 128 (x3 &&& (((1 : Int32) <<< (x5 &&& 31)) ^^^ (-1 : Int32))) fun v71 =>
        s_let (if x4 < ((1 : Int32) + v71) then ((1 : Int32) + v71) else x4) fun x4_76 =>
        X2_mostTwosWithin_31 t x2 x3 n x4_76 (x5 + (1 : Int32)) M))
def X2_mostTwosWithin (t : Nat) (x1 : Int32) : Mem → Option (Int32 × Mem) := fun M =>
  s_call (J6_bitCount_0f7a4 ((x1 &&& (-x1)) - (1 : Int32)) M) fun v6 M6 =>
  s_let (x1 &&& (((1 : Int32) <<< (v6 &&& 31)) ^^^ (-1 : Int32))) fun x3_17 =>
  s_ald M6 (t + 2) 128 x3_17 fun v23 =>
  s_let (v6 + (1 : Int32)) fun x5_29 =>
  X2_mostTwosWithin_31 t v6 x3_17 FU v23 x5_29 M6
def X2_mostTwos_16 (t : Nat) (x1 : Int32) : Nat → Int32 → Mem → Option (Int32 × Mem)
  | 0, _, _ => none
  | n + 1, x2, M =>
    if x1 ≤ x2 then (
      s_ald M (t + 2) 128 (x1 - (1 : Int32)) fun v45 =>
      some (v45, M))
    else (
      s_call (X2_mostTwosWithin t x2 M) fun v28 M28 =>
      s_ast M28 (t + 2) 128 x2 v28 fun M31 =>
      X2_mostTwos_16 t x1 n (x2 + (1 : Int32)) M31)
def X2_mostTwos (t : Nat) : Mem → Option (Int32 × Mem) := fun M =>
  s_ast M (t + 2) 128 (0 : Int32) (0 : Int32) fun M6 =>
  s_let ((1 : Int32) <<< ((M6 t 2) &&& 31)) fun x1_13 =>
  X2_mostTwos_16 t x1_13 FU (1 : Int32) M6
def X4_clear (t : Nat) : Mem → Option (Unit × Mem) := fun M =>
  s_put M t 0 (0 : Int32) fun M2 =>
  s_put M2 t 1 (0 : Int32) fun M7 =>
  s_put M7 t 2 (40 : Int32) fun M13 =>
  s_put M13 t 3 (0 : Int32) fun M18 =>
  s_call (J7_fill_53178 (t + 3) 64 (0 : Int32) M18) fun _ M26 =>
  s_call (J7_fill_53178 (t + 4) 8 (0 : Int32) M26) fun _ M34 =>
  some ((), M34)
def X3_numbersBehind (x0 : Int32) : Mem → Option (Int32 × Mem) := fun M =>
  if x0 = (101 : Int32) then (
    some ((1 : Int32), M))
  else if x0 = (111 : Int32) then (
    some ((3 : Int32), M))
  else if x0 = (112 : Int32) then (
    some ((2 : Int32), M))
  else (
    some ((0 : Int32), M))
def X3_readNumbers_67 (t : Nat) (t1 : Nat) (x3 : Int32) (x5 : Int32) (x6 : Int32) (x7 : Int32) (x8 : Int32) (k6 : Int32 → Int32 → Mem → Option (Int32 × Mem)) : Int32 → Mem → Option (Int32 × Mem) := fun y0 M =>
  if x6 = (-1 : Int32) then (
    some ((-1 : Int32), M))
  else (
    s_call (X1_at t1 x8 M) fun v78 M78 =>
    if v78 = y0 then (
      if ¬ x7 = (-1 : Int32) then (
        s_ast M78 (t + 1) 3 x5 (((10 : Int32) * x6) + x7) fun M113 =>
        s_let (x8 + (1 : Int32)) fun x4_118 =>
        k6 x4_118 (x5 + (1 : Int32)) M113)
      else (
        s_ast M78 (t + 1) 3 x5 x6 fun M113 =>
        s_let (x8 + (1 : Int32)) fun x4_118 =>
        k6 x4_118 (x5 + (1 : Int32)) M113))
    else (
      some ((-1 : Int32), M78)))
def X3_readNumbers_6 (t : Nat) (t1 : Nat) (x3 : Int32) : Nat → Int32 → Int32 → Mem → Option (Int32 × Mem)
  | 0, _, _, _ => none
  | n + 1, x4, x5, M =>
    if x3 ≤ x5 then (
      if x3 ≤ 0 then (
        some ((-1 : Int32), M))
      else (
        some (x4, M)))
    else (
      if (3 : Int32) ≤ x5 then (
        if x3 ≤ 0 then (
          some ((-1 : Int32), M))
        else (
          some (x4, M)))
      else (
        s_call (X1_figureAt t1 x4 M) fun v21 M21 =>
        s_call (X1_figureAt t1 (x4 + (1 : Int32)) M21) fun v31 M31 =>
        if ¬ v31 = (-1 : Int32) then (
          s_let (x4 + (2 : Int32)) fun x8_50 =>
          if x3 ≤ (x5 + (1 : Int32)) then (
            X3_readNumbers_67 t t1 x3 x5 v21 v31 x8_50 (X3_readNumbers_6 t t1 x3 n) (59 : Int32) M31)
          else (
            X3_readNumbers_67 t t1 x3 x5 v21 v31 x8_50 (X3_readNumbers_6 t t1 x3 n) (44 : Int32) M31))
        else (
          s_let (x4 + (1 : Int32)) fun x8_50 =>
          if x3 ≤ (x5 + (1 : Int32)) then (
            X3_readNumbers_67 t t1 x3 x5 v21 v31 x8_50 (X3_readNumbers_6 t t1 x3 n) (59 : Int32) M31)
          else (
            X3_readNumbers_67 t t1 x3 x5 v21 v31 x8_50 (X3_readNumbers_6 t t1 x3 n) (44 : Int32) M31))))
def X3_readNumbers (t : Nat) (t1 : Nat) (x2 : Int32) (x3 : Int32) : Mem → Option (Int32 × Mem) := fun M =>
  X3_readNumbers_6 t t1 x3 FU x2 (0 : Int32) M
def X4_persons (t : Nat) : Mem → Option (Int32 × Mem) := fun M =>
  some ((M t 0), M)
def X4_addPerson (t : Nat) (x1 : Int32) (x2 : Int32) : Mem → Option (Unit × Mem) := fun M =>
  if (8 : Int32) ≤ (M t 0) then (
    some ((), M))
  else (
    s_ast M (t + 1) 8 (M t 0) x1 fun M18 =>
    s_ast M18 (t + 2) 8 (M18 t 0) x2 fun M28 =>
    s_put M28 t 3 ((M28 t 3) ||| ((1 : Int32) <<< ((M28 t 0) &&& 31))) fun M41 =>
    s_put M41 t 0 ((M41 t 0) + (1 : Int32)) fun M51 =>
    some ((), M51))
def X3_takePerson_34 (t : Nat) (t1 : Nat) : Int32 → Mem → Option (Int32 × Mem) := fun y0 M =>
  if y0 = 0 then (
    s_retz y0 M)
  else (
    s_ald M (t + 1) 3 (0 : Int32) fun v45 =>
    s_ald M (t + 1) 3 (1 : Int32) fun v51 =>
    s_call (X4_addPerson t1 v45 v51 M) fun _ M52 =>
    s_retz y0 M52)
def X3_takePerson (t : Nat) (t1 : Nat) : Mem → Option (Int32 × Mem) := fun M =>
  s_ald M (t + 1) 3 (0 : Int32) fun v5 =>
  if (4 : Int32) ≤ v5 then (
    X3_takePerson_34 t t1 (0 : Int32) M)
  else (
    s_ald M (t + 1) 3 (1 : Int32) fun v15 =>
    if (4 : Int32) ≤ v15 then (
      X3_takePerson_34 t t1 (0 : Int32) M)
    else (
      s_call (X4_persons t1 M) fun v21 M21 =>
      if (7 : Int32) ≤ v21 then (
        X3_takePerson_34 t t1 (0 : Int32) M21)
      else (
        X3_takePerson_34 t t1 (1 : Int32) M21)))
def X4_setDebt (t : Nat) (x1 : Int32) (x2 : Int32) (x3 : Int32) : Mem → Option (Unit × Mem) := fun M =>
  s_let (((8 : Int32) * x1) + x2) fun x4_6 =>
  s_ald M (t + 4) 8 x1 fun v14 =>
  s_ald M (t + 3) 64 x4_6 fun v22 =>
  s_ast M (t + 4) 8 x1 (v14 + (x3 - v22)) fun M25 =>
  s_ast M25 (t + 3) 64 x4_6 x3 fun M33 =>
  some ((), M33)
def X3_takeDebt_51 (t : Nat) (t1 : Nat) (x2 : Int32) (x3 : Int32) : Int32 → Mem → Option (Int32 × Mem) := fun y0 M =>
  if y0 = 0 then (
    s_retz y0 M)
  else (
    s_ald M (t + 1) 3 (2 : Int32) fun v66 =>
    s_call (X4_setDebt t1 x2 x3 v66 M) fun _ M67 =>
    s_retz y0 M67)
def X3_takeDebt (t : Nat) (t1 : Nat) : Mem → Option (Int32 × Mem) := fun M =>
  s_ald M (t + 1) 3 (0 : Int32) fun v5 =>
  s_ald M (t + 1) 3 (1 : Int32) fun v12 =>
  s_call (X4_persons t1 M) fun v16 M16 =>
  if v16 ≤ v5 then (
    X3_takeDebt_51 t t1 v5 v12 (0 : Int32) M16)
  else (
    s_call (X4_persons t1 M16) fun v24 M24 =>
    if v24 ≤ v12 then (
      X3_takeDebt_51 t t1 v5 v12 (0 : Int32) M24)
    else (
      if v5 = v12 then (
        X3_takeDebt_51 t t1 v5 v12 (0 : Int32) M24)
      else (
        s_ald M24 (t + 1) 3 (2 : Int32) fun v40 =>
        if (9 : Int32) < v40 then (
          X3_takeDebt_51 t t1 v5 v12 (0 : Int32) M24)
        else (
          X3_takeDebt_51 t t1 v5 v12 (1 : Int32) M24))))
def X4_setEasterDay (t : Nat) (x1 : Int32) : Mem → Option (Unit × Mem) := fun M =>
  s_put M t 2 x1 fun M2 =>
  some ((), M2)
def X3_takeEaster_26 (t : Nat) (t1 : Nat) : Int32 → Mem → Option (Int32 × Mem) := fun y0 M =>
  if y0 = 0 then (
    s_retz y0 M)
  else (
    s_ald M (t + 1) 3 (0 : Int32) fun v37 =>
    s_call (X4_setEasterDay t1 v37 M) fun _ M38 =>
    s_retz y0 M38)
def X3_takeEaster (t : Nat) (t1 : Nat) : Mem → Option (Int32 × Mem) := fun M =>
  s_ald M (t + 1) 3 (0 : Int32) fun v5 =>
  if v5 < (1 : Int32) then (
    X3_takeEaster_26 t t1 (0 : Int32) M)
  else (
    s_ald M (t + 1) 3 (0 : Int32) fun v15 =>
    if (60 : Int32) < v15 then (
      X3_takeEaster_26 t t1 (0 : Int32) M)
    else (
      X3_takeEaster_26 t t1 (1 : Int32) M))
def X3_readItem (t : Nat) (t1 : Nat) (t3 : Nat) (x2 : Int32) : Mem → Option (Int32 × Mem) := fun M =>
  s_call (X1_at t1 x2 M) fun v2 M2 =>
  s_call (X3_numbersBehind v2 M2) fun v14 M14 =>
  s_call (X3_readNumbers t t1 (x2 + (1 : Int32)) v14 M14) fun v17 M17 =>
  if ¬ v17 = (-1 : Int32) then (
    if v2 = (101 : Int32) then (
      s_call (X3_takeEaster t t3 M17) fun v100 M100 =>
      if v100 = 0 then (
        some ((-1 : Int32), M100))
      else (
        some (v17, M100)))
    else if v2 = (111 : Int32) then (
      s_call (X3_takeDebt t t3 M17) fun v85 M85 =>
      if v85 = 0 then (
        some ((-1 : Int32), M85))
      else (
        some (v17, M85)))
    else if v2 = (112 : Int32) then (
      s_call (X3_takePerson t t3 M17) fun v70 M70 =>
      if v70 = 0 then (
        some ((-1 : Int32), M70))
      else (
        some (v17, M70)))
    else (
      some ((-1 : Int32), M17)))
  else (
    some ((-1 : Int32), M17))
def X3_readTown_9 (t : Nat) (t1 : Nat) (t2 : Nat) : Nat → Int32 → Int32 → Mem → Option (Int32 × Mem)
  | 0, _, _, _ => none
  | n + 1, x3, x4, M =>
    if (200 : Int32) ≤ x4 then (
      some ((-4 : Int32), M))
    else (
      s_call (X1_length t1 M) fun v19 M19 =>
      if v19 ≤ x3 then (
        some ((-4 : Int32), M19))
      else (
        s_call (X3_readItem t t1 t2 x3 M19) fun v29 M29 =>
        if ¬ v29 = (-1 : Int32) then (
          X3_readTown_9 t t1 t2 n v29 (x4 + (1 : Int32)) M29)
        else (
          some (x3, M29))))
def X3_readTown (t : Nat) (t1 : Nat) (t2 : Nat) : Mem → Option (Int32 × Mem) := fun M =>
  s_call (X4_clear t2 M) fun _ M1 =>
  X3_readTown_9 t t1 t2 FU (0 : Int32) (0 : Int32) M1
def X4_copyFrom (t : Nat) (t1 : Nat) : Mem → Option (Unit × Mem) := fun M =>
  s_put M t 0 (M t1 0) fun M5 =>
  s_put M5 t 1 (M5 t1 1) fun M13 =>
  s_put M13 t 2 (M13 t1 2) fun M21 =>
  s_put M21 t 3 (M21 t1 3) fun M29 =>
  s_cpy M29 (t1 + 1) 8 (0 : Int32) (t + 1) 8 (0 : Int32) (8 : Int32) fun M44 =>
  s_cpy M44 (t1 + 2) 8 (0 : Int32) (t + 2) 8 (0 : Int32) (8 : Int32) fun M59 =>
  s_cpy M59 (t1 + 3) 64 (0 : Int32) (t + 3) 64 (0 : Int32) (64 : Int32) fun M74 =>
  s_cpy M74 (t1 + 4) 8 (0 : Int32) (t + 4) 8 (0 : Int32) (8 : Int32) fun M89 =>
  some ((), M89)
def X4_isAlive (t : Nat) (x1 : Int32) : Mem → Option (Int32 × Mem) := fun M =>
  if ¬ (((M t 3) >>> (x1 &&& 31)) &&& (1 : Int32)) = (1 : Int32) then (
    s_retz (0 : Int32) M)
  else (
    s_retz (1 : Int32) M)
def X4_addStranger_13 (t : Nat) (x1 : Int32) : Nat → Int32 → Mem → Option (Unit × Mem)
  | 0, _, _ => none
  | n + 1, x2, M =>
    if x1 ≤ x2 then (
      some ((), M))
    else (
      s_call (X4_isAlive t x2 M) fun v20 M20 =>
      if v20 = 0 then (
        X4_addStranger_13 t x1 n (x2 + (1 : Int32)) M20)
      else (
        s_call (X4_setDebt t x1 x2 (1 : Int32) M20) fun _ M30 =>
        X4_addStranger_13 t x1 n (x2 + (1 : Int32)) M30))
def X4_addStranger (t : Nat) : Mem → Option (Unit × Mem) := fun M =>
  s_let (M t 0) fun x1_4 =>
  s_call (X4_addPerson t (0 : Int32) (0 : Int32) M) fun _ M8 =>
  X4_addStranger_13 t x1_4 FU (0 : Int32) M8
def X4_day (t : Nat) : Mem → Option (Int32 × Mem) := fun M =>
  some ((M t 1), M)
def X4_easterDay (t : Nat) : Mem → Option (Int32 × Mem) := fun M =>
  some ((M t 2), M)
def X4_kindOf (t : Nat) (x1 : Int32) : Mem → Option (Int32 × Mem) := fun M =>
  s_ald M (t + 1) 8 x1 fun v5 =>
  some (v5, M)
def X4_streetOf (t : Nat) (x1 : Int32) : Mem → Option (Int32 × Mem) := fun M =>
  s_ald M (t + 2) 8 x1 fun v5 =>
  some (v5, M)
def X4_debt (t : Nat) (x1 : Int32) (x2 : Int32) : Mem → Option (Int32 × Mem) := fun M =>
  s_ald M (t + 3) 64 (((8 : Int32) * x1) + x2) fun v10 =>
  some (v10, M)
def X4_owing (t : Nat) (x1 : Int32) : Mem → Option (Int32 × Mem) := fun M =>
  s_ald M (t + 4) 8 x1 fun v5 =>
  some (v5, M)
def X4_owedTo_4 (t : Nat) (x1 : Int32) : Nat → Int32 → Int32 → Mem → Option (Int32 × Mem)
  | 0, _, _, _ => none
  | n + 1, x2, x3, M =>
    if (M t 0) ≤ x3 then (
      some (x2, M))
    else (
      s_call (X4_debt t x3 x1 M) fun v16 M16 =>
      s_let (x2 + v16) fun x2_20 =>
      X4_owedTo_4 t x1 n x2_20 (x3 + (1 : Int32)) M16)
def X4_owedTo (t : Nat) (x1 : Int32) : Mem → Option (Int32 × Mem) := fun M =>
  X4_owedTo_4 t x1 FU (0 : Int32) (0 : Int32) M
def X4_allOwed_4 (t : Nat) : Nat → Int32 → Int32 → Mem → Option (Int32 × Mem)
  | 0, _, _, _ => none
  | n + 1, x1, x2, M =>
    if (M t 0) ≤ x2 then (
      some (x1, M))
    else (
      s_ald M (t + 4) 8 x2 fun v18 =>
      s_let (x1 + v18) fun x1_20 =>
      X4_allOwed_4 t n x1_20 (x2 + (1 : Int32)) M)
def X4_allOwed (t : Nat) : Mem → Option (Int32 × Mem) := fun M =>
  X4_allOwed_4 t FU (0 : Int32) (0 : Int32) M
def X4_aliveBits (t : Nat) : Mem → Option (Int32 × Mem) := fun M =>
  some ((M t 3), M)
def X4_stuckBits_4 (t : Nat) : Nat → Int32 → Int32 → Mem → Option (Int32 × Mem)
  | 0, _, _, _ => none
  | n + 1, x1, x2, M =>
    if (M t 0) ≤ x2 then (
      some (x1, M))
    else (
      s_ald M (t + 4) 8 x2 fun v17 =>
      if 0 < v17 then (
        s_let (x1 ||| ((1 : Int32) <<< (x2 &&& 31))) fun x1_34 =>
        X4_stuckBits_4 t n x1_34 (x2 + (1 : Int32)) M)
      else (
        s_call (X4_owedTo t x2 M) fun v23 M23 =>
        if v23 ≤ 0 then (
          X4_stuckBits_4 t n x1 (x2 + (1 : Int32)) M23)
        else (
          s_let (x1 ||| ((1 : Int32) <<< (x2 &&& 31))) fun x1_34 =>
          X4_stuckBits_4 t n x1_34 (x2 + (1 : Int32)) M23)))
def X4_stuckBits (t : Nat) : Mem → Option (Int32 × Mem) := fun M =>
  X4_stuckBits_4 t FU (0 : Int32) (0 : Int32) M
def X4_takesApology (t : Nat) (x1 : Int32) : Mem → Option (Int32 × Mem) := fun M =>
  s_ald M (t + 1) 8 x1 fun v5 =>
  if v5 = (1 : Int32) then (
    s_retz (1 : Int32) M)
  else (
    s_ald M (t + 4) 8 x1 fun v15 =>
    if ¬ v15 = 0 then (
      s_retz (0 : Int32) M)
    else (
      s_retz (1 : Int32) M))
def X4_maySpeak (t : Nat) (x1 : Int32) (x2 : Int32) : Mem → Option (Int32 × Mem) := fun M =>
  if x1 = x2 then (
    s_retz (0 : Int32) M)
  else (
    s_call (X4_isAlive t x1 M) fun v7 M7 =>
    if v7 = 0 then (
      s_retz (0 : Int32) M7)
    else (
      s_call (X4_isAlive t x2 M7) fun v15 M15 =>
      if v15 = 0 then (
        s_retz (0 : Int32) M15)
      else (
        s_call (X4_debt t x1 x2 M15) fun v24 M24 =>
        if ¬ v24 = 0 then (
          s_retz (0 : Int32) M24)
        else (
          s_call (X4_debt t x2 x1 M24) fun v33 M33 =>
          if ¬ v33 = 0 then (
            s_retz (0 : Int32) M33)
          else (
            s_retz (1 : Int32) M33)))))
def X4_anySpeakIn_41 (t : Nat) (x1 : Int32) (x2 : Int32) (x3 : Int32) (k2 : Int32 → Mem → Option (Int32 × Mem)) (k14 : Int32 → Mem → Option (Int32 × Mem)) : Int32 → Mem → Option (Int32 × Mem) := fun y0 M =>
  if y0 = 0 then (
    k14 (x3 + (1 : Int32)) M)
  else (
    s_ald M (t + 2) 8 x2 fun v53 =>
    s_ald M (t + 2) 8 x3 fun v59 =>
    if ¬ v53 = v59 then (
      k14 (x3 + (1 : Int32)) M)
    else (
      s_call (X4_maySpeak t x2 x3 M) fun v66 M66 =>
      if v66 = 0 then (
        k14 (x3 + (1 : Int32)) M66)
      else (
        s_retz (1 : Int32) M66)))
def X4_anySpeakIn_14 (t : Nat) (x1 : Int32) (x2 : Int32) (k2 : Int32 → Mem → Option (Int32 × Mem)) : Nat → Int32 → Mem → Option (Int32 × Mem)
  | 0, _, _ => none
  | n + 1, x3, M =>
    if (M t 0) ≤ x3 then (
      k2 (x2 + (1 : Int32)) M)
    else (
      s_ald M (t + 2) 8 x2 fun v28 =>
      if ¬ ((x1 >>> (v28 &&& 31)) &&& (1 : Int32)) = (1 : Int32) then (
        X4_anySpeakIn_41 t x1 x2 x3 k2 (X4_anySpeakIn_14 t x1 x2 k2 n) (0 : Int32) M)
      else (
        X4_anySpeakIn_41 t x1 x2 x3 k2 (X4_anySpeakIn_14 t x1 x2 k2 n) (1 : Int32) M))
def X4_anySpeakIn_2 (t : Nat) (x1 : Int32) : Nat → Int32 → Mem → Option (Int32 × Mem)
  | 0, _, _ => none
  | n + 1, x2, M =>
    if (M t 0) ≤ x2 then (
      s_retz (0 : Int32) M)
    else (
      s_let (x2 + (1 : Int32)) fun x3_13 =>
      X4_anySpeakIn_14 t x1 x2 (X4_anySpeakIn_2 t x1 n) FU x3_13 M)
def X4_anySpeakIn (t : Nat) (x1 : Int32) : Mem → Option (Int32 × Mem) := fun M =>
  X4_anySpeakIn_2 t x1 FU (0 : Int32) M
def X4_linkSpeakers_20 (t : Nat) (t1 : Nat) (x2 : Int32) (k10 : Int32 → Mem → Option (Unit × Mem)) : Nat → Int32 → Mem → Option (Unit × Mem)
  | 0, _, _ => none
  | n + 1, x3, M =>
    if (M t 0) ≤ x3 then (
      k10 (x2 + (1 : Int32)) M)
    else (
      s_call (X4_maySpeak t x2 x3 M) fun v31 M31 =>
      if v31 = 0 then (
        X4_linkSpeakers_20 t t1 x2 k10 n (x3 + (1 : Int32)) M31)
      else (
        s_call (X2_link t1 x2 x3 M31) fun _ M40 =>
        X4_linkSpeakers_20 t t1 x2 k10 n (x3 + (1 : Int32)) M40))
def X4_linkSpeakers_10 (t : Nat) (t1 : Nat) : Nat → Int32 → Mem → Option (Unit × Mem)
  | 0, _, _ => none
  | n + 1, x2, M =>
    if (M t 0) ≤ x2 then (
      some ((), M))
    else (
      X4_linkSpeakers_20 t t1 x2 (X4_linkSpeakers_10 t t1 n) FU (0 : Int32) M)
def X4_linkSpeakers (t : Nat) (t1 : Nat) : Mem → Option (Unit × Mem) := fun M =>
  s_call (X2_clear t1 (M t 0) M) fun _ M5 =>
  X4_linkSpeakers_10 t t1 FU (0 : Int32) M5
def X4_linkDebts_20 (t : Nat) (t1 : Nat) (x2 : Int32) (k10 : Int32 → Mem → Option (Unit × Mem)) : Nat → Int32 → Mem → Option (Unit × Mem)
  | 0, _, _ => none
  | n + 1, x3, M =>
    if (M t 0) ≤ x3 then (
      k10 (x2 + (1 : Int32)) M)
    else (
      s_call (X4_debt t x2 x3 M) fun v31 M31 =>
      if v31 ≤ 0 then (
        X4_linkDebts_20 t t1 x2 k10 n (x3 + (1 : Int32)) M31)
      else (
        s_call (X2_link t1 x2 x3 M31) fun _ M40 =>
        X4_linkDebts_20 t t1 x2 k10 n (x3 + (1 : Int32)) M40))
def X4_linkDebts_10 (t : Nat) (t1 : Nat) : Nat → Int32 → Mem → Option (Unit × Mem)
  | 0, _, _ => none
  | n + 1, x2, M =>
    if (M t 0) ≤ x2 then (
      some ((), M))
    else (
      X4_linkDebts_20 t t1 x2 (X4_linkDebts_10 t t1 n) FU (0 : Int32) M)
def X4_linkDebts (t : Nat) (t1 : Nat) : Mem → Option (Unit × Mem) := fun M =>
  s_call (X2_clear t1 (M t 0) M) fun _ M5 =>
  X4_linkDebts_10 t t1 FU (0 : Int32) M5
def X4_canBow (t : Nat) (x1 : Int32) (x2 : Int32) : Mem → Option (Int32 × Mem) := fun M =>
  s_call (X4_debt t x1 x2 M) fun v3 M3 =>
  if v3 ≤ 0 then (
    s_retz (0 : Int32) M3)
  else (
    s_call (X4_takesApology t x2 M3) fun v11 M11 =>
    if v11 = 0 then (
      s_retz (0 : Int32) M11)
    else (
      s_retz (1 : Int32) M11))
def X4_canBowAtOnce (t : Nat) (x1 : Int32) (x2 : Int32) : Mem → Option (Int32 × Mem) := fun M =>
  s_call (X4_debt t x1 x2 M) fun v3 M3 =>
  if v3 ≤ 0 then (
    s_retz (0 : Int32) M3)
  else (
    s_call (X4_debt t x2 x1 M3) fun v12 M12 =>
    if v12 ≤ 0 then (
      s_retz (0 : Int32) M12)
    else (
      s_ald M12 (t + 4) 8 x1 fun v23 =>
      s_call (X4_debt t x1 x2 M12) fun v27 M27 =>
      if ¬ v23 = v27 then (
        s_retz (0 : Int32) M27)
      else (
        s_ald M27 (t + 4) 8 x2 fun v38 =>
        s_call (X4_debt t x2 x1 M27) fun v42 M42 =>
        if ¬ v38 = v42 then (
          s_retz (0 : Int32) M42)
        else (
          s_retz (1 : Int32) M42))))
def X4_canBeDone (t : Nat) (x1 : Int32) (x2 : Int32) (x3 : Int32) : Mem → Option (Int32 × Mem) := fun M =>
  if x1 = (0 : Int32) then (
    if x2 = x3 then (
      s_retz (0 : Int32) M)
    else (
      s_call (X4_isAlive t x2 M) fun v43 M43 =>
      if v43 = 0 then (
        s_retz (0 : Int32) M43)
      else (
        s_call (X4_isAlive t x3 M43) fun v51 M51 =>
        if v51 = 0 then (
          s_retz (0 : Int32) M51)
        else (
          s_call (X4_debt t x2 x3 M51) fun v60 M60 =>
          if (9 : Int32) ≤ v60 then (
            s_retz (0 : Int32) M60)
          else (
            s_retz (1 : Int32) M60)))))
  else if x1 = (1 : Int32) then (
    s_call (X4_canBow t x2 x3 M) fun v77 M77 =>
    s_retz v77 M77)
  else if x1 = (2 : Int32) then (
    s_call (X4_canBow t x2 x3 M) fun v84 M84 =>
    if v84 = 0 then (
      s_retz (0 : Int32) M84)
    else (
      s_call (X4_debt t x2 x3 M84) fun v93 M93 =>
      if (9 : Int32) ≤ v93 then (
        s_retz (0 : Int32) M93)
      else (
        s_retz (1 : Int32) M93)))
  else if x1 = (3 : Int32) then (
    s_call (X4_canBowAtOnce t x2 x3 M) fun v110 M110 =>
    s_retz v110 M110)
  else if x1 = (4 : Int32) then (
    s_call (X4_isAlive t x2 M) fun v116 M116 =>
    s_retz v116 M116)
  else (
    if ¬ x1 = (5 : Int32) then (
      s_retz (0 : Int32) M)
    else (
      s_retz (1 : Int32) M))
def X4_oweOneMore (t : Nat) (x1 : Int32) (x2 : Int32) : Mem → Option (Unit × Mem) := fun M =>
  s_call (X4_debt t x1 x2 M) fun v8 M8 =>
  s_call (X4_setDebt t x1 x2 (if (v8 + (1 : Int32)) < (9 : Int32) then (v8 + (1 : Int32)) else (9 : Int32)) M8) fun _ M16 =>
  some ((), M16)
def X4_paysToday (t : Nat) (x1 : Int32) : Mem → Option (Int32 × Mem) := fun M =>
  s_ald M (t + 1) 8 x1 fun v5 =>
  if ¬ v5 = (3 : Int32) then (
    s_retz (1 : Int32) M)
  else (
    s_rem (M t 1) (2 : Int32) fun v15 =>
    if ¬ v15 = 0 then (
      s_retz (0 : Int32) M)
    else (
      s_retz (1 : Int32) M))
def X4_pay (t : Nat) (x1 : Int32) (x2 : Int32) : Mem → Option (Unit × Mem) := fun M =>
  s_call (X4_paysToday t x1 M) fun v2 M2 =>
  if v2 = 0 then (
    some ((), M2))
  else (
    s_call (X4_debt t x1 x2 M2) fun v11 M11 =>
    if v11 ≤ 0 then (
      some ((), M11))
    else (
      s_ald M11 (t + 1) 8 x1 fun v25 =>
      if ¬ v25 = (2 : Int32) then (
        s_call (X4_debt t x1 x2 M11) fun v37 M37 =>
        s_call (X4_setDebt t x1 x2 (v37 - (1 : Int32)) M37) fun _ M42 =>
        some ((), M42))
      else (
        s_call (X4_setDebt t x1 x2 (0 : Int32) M11) fun _ M42 =>
        some ((), M42))))
def X4_bury_16 (t : Nat) (x1 : Int32) : Nat → Int32 → Mem → Option (Unit × Mem)
  | 0, _, _ => none
  | n + 1, x2, M =>
    if (M t 0) ≤ x2 then (
      some ((), M))
    else (
      s_call (X4_setDebt t x1 x2 (0 : Int32) M) fun _ M28 =>
      s_call (X4_setDebt t x2 x1 (0 : Int32) M28) fun _ M35 =>
      X4_bury_16 t x1 n (x2 + (1 : Int32)) M35)
def X4_bury (t : Nat) (x1 : Int32) : Mem → Option (Unit × Mem) := fun M =>
  s_put M t 3 ((M t 3) &&& (((1 : Int32) <<< (x1 &&& 31)) ^^^ (-1 : Int32))) fun M11 =>
  X4_bury_16 t x1 FU (0 : Int32) M11
def X4_passDay_33 (t : Nat) (x1 : Int32) (k23 : Int32 → Mem → Option (Unit × Mem)) : Nat → Int32 → Mem → Option (Unit × Mem)
  | 0, _, _ => none
  | n + 1, x2, M =>
    if (M t 0) ≤ x2 then (
      k23 (x1 + (1 : Int32)) M)
    else (
      if x1 = x2 then (
        X4_passDay_33 t x1 k23 n (x2 + (1 : Int32)) M)
      else (
        s_ald M (t + 1) 8 x1 fun v51 =>
        if ¬ v51 = (1 : Int32) then (
          X4_passDay_33 t x1 k23 n (x2 + (1 : Int32)) M)
        else (
          s_call (X4_isAlive t x1 M) fun v58 M58 =>
          if v58 = 0 then (
            X4_passDay_33 t x1 k23 n (x2 + (1 : Int32)) M58)
          else (
            s_call (X4_isAlive t x2 M58) fun v66 M66 =>
            if v66 = 0 then (
              X4_passDay_33 t x1 k23 n (x2 + (1 : Int32)) M66)
            else (
              s_call (X4_oweOneMore t x1 x2 M66) fun _ M75 =>
              X4_passDay_33 t x1 k23 n (x2 + (1 : Int32)) M75)))))
def X4_passDay_23 (t : Nat) : Nat → Int32 → Mem → Option (Unit × Mem)
  | 0, _, _ => none
  | n + 1, x1, M =>
    if (M t 0) ≤ x1 then (
      some ((), M))
    else (
      X4_passDay_33 t x1 (X4_passDay_23 t n) FU (0 : Int32) M)
def X4_passDay (t : Nat) : Mem → Option (Unit × Mem) := fun M =>
  s_put M t 1 ((M t 1) + (1 : Int32)) fun M7 =>
  s_rem (M7 t 1) (7 : Int32) fun v16 =>
  if v16 = 0 then (
    X4_passDay_23 t FU (0 : Int32) M7)
  else (
    some ((), M7))
def X4_passDays_2 (t : Nat) (x1 : Int32) : Nat → Int32 → Mem → Option (Unit × Mem)
  | 0, _, _ => none
  | n + 1, x2, M =>
    if x1 ≤ x2 then (
      some ((), M))
    else (
      s_call (X4_passDay t M) fun _ M8 =>
      X4_passDays_2 t x1 n (x2 + (1 : Int32)) M8)
def X4_passDays (t : Nat) (x1 : Int32) : Mem → Option (Unit × Mem) := fun M =>
  X4_passDays_2 t x1 FU (0 : Int32) M
def X4_perform (t : Nat) (x1 : Int32) (x2 : Int32) (x3 : Int32) : Mem → Option (Unit × Mem) := fun M =>
  if x1 = (0 : Int32) then (
    s_call (X4_oweOneMore t x2 x3 M) fun _ M39 =>
    some ((), M39))
  else if x1 = (1 : Int32) then (
    s_call (X4_pay t x2 x3 M) fun _ M48 =>
    some ((), M48))
  else if x1 = (2 : Int32) then (
    s_call (X4_oweOneMore t x2 x3 M) fun _ M39 =>
    some ((), M39))
  else if x1 = (3 : Int32) then (
    s_call (X4_pay t x2 x3 M) fun _ M57 =>
    s_call (X4_pay t x3 x2 M57) fun _ M63 =>
    some ((), M63))
  else if x1 = (4 : Int32) then (
    s_call (X4_bury t x2 M) fun _ M71 =>
    some ((), M71))
  else (
    s_call (X4_passDays t x2 M) fun _ M79 =>
    some ((), M79))
def X4_bowAllThatCanBe_35 (t : Nat) (x2 : Int32) (x3 : Int32) (x4 : Int32) (k6 : Int32 → Int32 → Int32 → Mem → Option (Int32 × Mem)) (k23 : Int32 → Int32 → Mem → Option (Int32 × Mem)) : Nat → Int32 → Int32 → Mem → Option (Int32 × Mem)
  | 0, _, _, _ => none
  | n + 1, x1, x5, M =>
    if (M t 0) ≤ x5 then (
      k23 x1 (x4 + (1 : Int32)) M)
    else (
      s_ald M (t + 4) 8 x4 fun v50 =>
      if v50 ≤ 0 then (
        k23 x1 (x4 + (1 : Int32)) M)
      else (
        s_call (X4_canBow t x4 x5 M) fun v59 M59 =>
        if v59 = 0 then (
          X4_bowAllThatCanBe_35 t x2 x3 x4 k6 k23 n x1 (x5 + (1 : Int32)) M59)
        else (
          s_call (X4_paysToday t x4 M59) fun v68 M68 =>
          if v68 = 0 then (
            X4_bowAllThatCanBe_35 t x2 x3 x4 k6 k23 n x1 (x5 + (1 : Int32)) M68)
          else (
            s_ald M68 (t + 1) 8 x4 fun v81 =>
            if ¬ v81 = (2 : Int32) then (
              s_call (X4_debt t x4 x5 M68) fun v95 M95 =>
              s_let (x1 + v95) fun x1_99 =>
              s_call (X4_setDebt t x4 x5 (0 : Int32) M95) fun _ M106 =>
              X4_bowAllThatCanBe_35 t x2 x3 x4 k6 k23 n x1_99 (x5 + (1 : Int32)) M106)
            else (
              s_let (x1 + (1 : Int32)) fun x1_99 =>
              s_call (X4_setDebt t x4 x5 (0 : Int32) M68) fun _ M106 =>
              X4_bowAllThatCanBe_35 t x2 x3 x4 k6 k23 n x1_99 (x5 + (1 : Int32)) M106)))))
def X4_bowAllThatCanBe_23 (t : Nat) (x2 : Int32) (x3 : Int32) (k6 : Int32 → Int32 → Int32 → Mem → Option (Int32 × Mem)) : Nat → Int32 → Int32 → Mem → Option (Int32 × Mem)
  | 0, _, _, _ => none
  | n + 1, x1, x4, M =>
    if (M t 0) ≤ x4 then (
      k6 x1 x2 (x3 + (1 : Int32)) M)
    else (
      X4_bowAllThatCanBe_35 t x2 x3 x4 k6 (X4_bowAllThatCanBe_23 t x2 x3 k6 n) FU x1 (0 : Int32) M)
def X4_bowAllThatCanBe_6 (t : Nat) : Nat → Int32 → Int32 → Int32 → Mem → Option (Int32 × Mem)
  | 0, _, _, _, _ => none
  | n + 1, x1, x2, x3, M =>
    if (504 : Int32) ≤ x3 then (
      some (x1, M))
    else (
      if x1 = x2 then (
        some (x1, M))
      else (
        X4_bowAllThatCanBe_23 t x1 x3 (X4_bowAllThatCanBe_6 t n) FU x1 (0 : Int32) M))
def X4_bowAllThatCanBe (t : Nat) : Mem → Option (Int32 × Mem) := fun M =>
  X4_bowAllThatCanBe_6 t FU (0 : Int32) (-1 : Int32) (0 : Int32) M
def X4_firstTwoBowAtOnce_14 (t : Nat) (x1 : Int32) (k2 : Int32 → Mem → Option (Int32 × Mem)) : Nat → Int32 → Mem → Option (Int32 × Mem)
  | 0, _, _ => none
  | n + 1, x2, M =>
    if (M t 0) ≤ x2 then (
      k2 (x1 + (1 : Int32)) M)
    else (
      s_call (X4_canBowAtOnce t x1 x2 M) fun v25 M25 =>
      if v25 = 0 then (
        X4_firstTwoBowAtOnce_14 t x1 k2 n (x2 + (1 : Int32)) M25)
      else (
        s_call (X4_paysToday t x1 M25) fun v33 M33 =>
        if ¬ v33 = 0 then (
          s_call (X4_pay t x1 x2 M33) fun _ M50 =>
          s_call (X4_pay t x2 x1 M50) fun _ M56 =>
          s_retz (1 : Int32) M56)
        else (
          s_call (X4_paysToday t x2 M33) fun v41 M41 =>
          if v41 = 0 then (
            X4_firstTwoBowAtOnce_14 t x1 k2 n (x2 + (1 : Int32)) M41)
          else (
            s_call (X4_pay t x1 x2 M41) fun _ M50 =>
            s_call (X4_pay t x2 x1 M50) fun _ M56 =>
            s_retz (1 : Int32) M56))))
def X4_firstTwoBowAtOnce_2 (t : Nat) : Nat → Int32 → Mem → Option (Int32 × Mem)
  | 0, _, _ => none
  | n + 1, x1, M =>
    if (M t 0) ≤ x1 then (
      s_retz (0 : Int32) M)
    else (
      s_let (x1 + (1 : Int32)) fun x2_13 =>
      X4_firstTwoBowAtOnce_14 t x1 (X4_firstTwoBowAtOnce_2 t n) FU x2_13 M)
def X4_firstTwoBowAtOnce (t : Nat) : Mem → Option (Int32 × Mem) := fun M =>
  X4_firstTwoBowAtOnce_2 t FU (0 : Int32) M
def X4_makePeace_7 (t : Nat) : Nat → Int32 → Int32 → Mem → Option (Int32 × Mem)
  | 0, _, _, _ => none
  | n + 1, x1, x2, M =>
    if (504 : Int32) ≤ x2 then (
      some (x1, M))
    else (
      s_call (X4_firstTwoBowAtOnce t M) fun v15 M15 =>
      if ¬ v15 = 0 then (
        s_call (X4_bowAllThatCanBe t M15) fun v27 M27 =>
        s_let (x1 + ((1 : Int32) + v27)) fun x1_32 =>
        X4_makePeace_7 t n x1_32 (x2 + (1 : Int32)) M27)
      else (
        some (x1, M15)))
def X4_makePeace (t : Nat) : Mem → Option (Int32 × Mem) := fun M =>
  s_call (X4_bowAllThatCanBe t M) fun v1 M1 =>
  X4_makePeace_7 t FU v1 (0 : Int32) M1
def X5_write (t : Nat) (x1 : Int32) : Mem → Option (Int32 × Mem) := fun M =>
  if x1 < (32 : Int32) then (
    some ((-1 : Int32), M))
  else (
    if x1 ≤ (126 : Int32) then (
      s_call (X1_length (t + 1) M) fun v18 M18 =>
      if v18 < (200 : Int32) then (
        s_call (X1_add (t + 1) x1 M18) fun _ M35 =>
        s_call (X1_length (t + 1) M35) fun v42 M42 =>
        some (v42, M42))
      else (
        some ((-3 : Int32), M18)))
    else (
      some ((-1 : Int32), M)))
def X5_wipe (t : Nat) : Mem → Option (Int32 × Mem) := fun M =>
  s_call (X1_length (t + 1) M) fun v4 M4 =>
  s_call (X1_clear (t + 1) M4) fun _ M12 =>
  some (v4, M12)
def X5_fault (t : Nat) : Mem → Option (Int32 × Mem) := fun M =>
  s_call (X3_readTown (t + 3) (t + 1) (t + 23) M) fun v12 M12 =>
  some (v12, M12)
def X5_forgetSilence (t : Nat) : Mem → Option (Unit × Mem) := fun M =>
  s_put M t 9 (0 : Int32) fun M2 =>
  s_put M2 t 10 (0 : Int32) fun M7 =>
  some ((), M7)
def X5_lay (t : Nat) : Mem → Option (Int32 × Mem) := fun M =>
  s_call (X3_readTown (t + 3) (t + 1) (t + 23) M) fun v12 M12 =>
  if ¬ v12 = (-4 : Int32) then (
    some ((-2 : Int32), M12))
  else (
    s_call (X4_persons (t + 23) M12) fun v24 M24 =>
    if (1 : Int32) ≤ v24 then (
      s_call (X4_copyFrom (t + 7) (t + 23) M24) fun _ M42 =>
      s_call (X4_copyFrom (t + 16) (t + 23) M42) fun _ M53 =>
      s_call (X0_clear (t + 28) M53) fun _ M60 =>
      s_call (X5_forgetSilence t M60) fun _ M64 =>
      s_put M64 t 8 (0 : Int32) fun M69 =>
      s_call (X4_persons (t + 16) M69) fun v76 M76 =>
      some (v76, M76))
    else (
      some ((-2 : Int32), M24)))
def X5_isPerson (t : Nat) (x1 : Int32) : Mem → Option (Int32 × Mem) := fun M =>
  if x1 < 0 then (
    s_retz (0 : Int32) M)
  else (
    s_call (X4_persons (t + 16) M) fun v9 M9 =>
    if v9 ≤ x1 then (
      s_retz (0 : Int32) M9)
    else (
      s_retz (1 : Int32) M9))
def X5_asNumber (x0 : Int32) : Mem → Option (Int32 × Mem) := fun M =>
  if x0 = 0 then (
    some ((0 : Int32), M))
  else (
    some ((1 : Int32), M))
def X5_person (t : Nat) (x1 : Int32) (x2 : Int32) : Mem → Option (Int32 × Mem) := fun M =>
  s_call (X5_isPerson t x1 M) fun v2 M2 =>
  if ¬ v2 = 0 then (
    if x2 = (0 : Int32) then (
      s_call (X4_kindOf (t + 16) x1 M2) fun v53 M53 =>
      some (v53, M53))
    else if x2 = (1 : Int32) then (
      s_call (X4_streetOf (t + 16) x1 M2) fun v62 M62 =>
      some (v62, M62))
    else if x2 = (2 : Int32) then (
      s_call (X4_isAlive (t + 16) x1 M2) fun v71 M71 =>
      s_call (X5_asNumber v71 M71) fun v74 M74 =>
      some (v74, M74))
    else if x2 = (3 : Int32) then (
      s_call (X4_owing (t + 16) x1 M2) fun v83 M83 =>
      some (v83, M83))
    else if x2 = (4 : Int32) then (
      s_call (X4_owedTo (t + 16) x1 M2) fun v92 M92 =>
      some (v92, M92))
    else if x2 = (5 : Int32) then (
      s_call (X4_isAlive (t + 16) x1 M2) fun v101 M101 =>
      if v101 = 0 then (
        s_call (X5_asNumber (0 : Int32) M101) fun v123 M123 =>
        some (v123, M123))
      else (
        s_call (X4_takesApology (t + 16) x1 M101) fun v112 M112 =>
        if v112 = 0 then (
          s_call (X5_asNumber (0 : Int32) M112) fun v123 M123 =>
          some (v123, M123))
        else (
          s_call (X5_asNumber (1 : Int32) M112) fun v123 M123 =>
          some (v123, M123))))
    else (
      some ((-1 : Int32), M2)))
  else (
    some ((-1 : Int32), M2))
def X5_areTwo (t : Nat) (x1 : Int32) (x2 : Int32) : Mem → Option (Int32 × Mem) := fun M =>
  s_call (X5_isPerson t x1 M) fun v2 M2 =>
  if v2 = 0 then (
    s_retz (0 : Int32) M2)
  else (
    s_call (X5_isPerson t x2 M2) fun v10 M10 =>
    if v10 = 0 then (
      s_retz (0 : Int32) M10)
    else (
      if x1 = x2 then (
        s_retz (0 : Int32) M10)
      else (
        s_retz (1 : Int32) M10)))
def X5_owes (t : Nat) (x1 : Int32) (x2 : Int32) : Mem → Option (Int32 × Mem) := fun M =>
  s_call (X5_areTwo t x1 x2 M) fun v3 M3 =>
  if v3 = 0 then (
    some ((-1 : Int32), M3))
  else (
    s_call (X4_debt (t + 16) x1 x2 M3) fun v15 M15 =>
    some (v15, M15))
def X5_speak (t : Nat) (x1 : Int32) (x2 : Int32) : Mem → Option (Int32 × Mem) := fun M =>
  s_call (X5_areTwo t x1 x2 M) fun v3 M3 =>
  if v3 = 0 then (
    some ((-1 : Int32), M3))
  else (
    s_call (X4_maySpeak (t + 16) x1 x2 M3) fun v15 M15 =>
    s_call (X5_asNumber v15 M15) fun v18 M18 =>
    some (v18, M18))
def X5_act (t : Nat) (x1 : Int32) (x2 : Int32) (x3 : Int32) : Mem → Option (Int32 × Mem) := fun M =>
  s_call (X4_canBeDone (t + 16) x1 x2 x3 M) fun v7 M7 =>
  if ¬ v7 = 0 then (
    s_call (X0_size (t + 28) M7) fun v20 M20 =>
    if v20 < (40 : Int32) then (
      s_call (X0_add (t + 28) x1 x2 x3 M20) fun _ M38 =>
      s_call (X4_perform (t + 16) x1 x2 x3 M38) fun _ M48 =>
      some ((0 : Int32), M48))
    else (
      some ((-3 : Int32), M20)))
  else (
    some ((-2 : Int32), M7))
def X5_actOfTwo (t : Nat) (x1 : Int32) (x2 : Int32) (x3 : Int32) : Mem → Option (Int32 × Mem) := fun M =>
  s_call (X5_areTwo t x2 x3 M) fun v3 M3 =>
  if ¬ v3 = 0 then (
    s_call (X5_act t x1 x2 x3 M3) fun v15 M15 =>
    if 0 ≤ v15 then (
      s_call (X4_debt (t + 16) x2 x3 M15) fun v36 M36 =>
      some (v36, M36))
    else (
      some (v15, M15)))
  else (
    some ((-1 : Int32), M3))
def X5_wrong (t : Nat) (x1 : Int32) (x2 : Int32) : Mem → Option (Int32 × Mem) := fun M =>
  s_call (X5_actOfTwo t (0 : Int32) x1 x2 M) fun v4 M4 =>
  some (v4, M4)
def X5_bow (t : Nat) (x1 : Int32) (x2 : Int32) : Mem → Option (Int32 × Mem) := fun M =>
  s_call (X5_actOfTwo t (1 : Int32) x1 x2 M) fun v4 M4 =>
  some (v4, M4)
def X5_refuse (t : Nat) (x1 : Int32) (x2 : Int32) : Mem → Option (Int32 × Mem) := fun M =>
  s_call (X5_actOfTwo t (2 : Int32) x1 x2 M) fun v4 M4 =>
  some (v4, M4)
def X5_atOnce (t : Nat) (x1 : Int32) (x2 : Int32) : Mem → Option (Int32 × Mem) := fun M =>
  s_call (X5_actOfTwo t (3 : Int32) x1 x2 M) fun v4 M4 =>
  if 0 ≤ v4 then (
    s_call (X4_debt (t + 16) x1 x2 M4) fun v22 M22 =>
    s_call (X4_debt (t + 16) x2 x1 M22) fun v31 M31 =>
    some ((v22 + v31), M31))
  else (
    some (v4, M4))
def X5_die (t : Nat) (x1 : Int32) : Mem → Option (Int32 × Mem) := fun M =>
  s_call (X5_isPerson t x1 M) fun v2 M2 =>
  if ¬ v2 = 0 then (
    s_call (X5_act t (4 : Int32) x1 x1 M2) fun v14 M14 =>
    if 0 ≤ v14 then (
      s_call (X4_aliveBits (t + 16) M14) fun v30 M30 =>
      s_call (J6_bitCount_0f7a4 v30 M30) fun v33 M33 =>
      some (v33, M33))
    else (
      some (v14, M14)))
  else (
    some ((-1 : Int32), M2))
def X5_days (t : Nat) (x1 : Int32) : Mem → Option (Int32 × Mem) := fun M =>
  if x1 < (1 : Int32) then (
    some ((-1 : Int32), M))
  else (
    if x1 ≤ (9 : Int32) then (
      s_call (X5_act t (5 : Int32) x1 x1 M) fun v17 M17 =>
      if 0 ≤ v17 then (
        s_call (X4_day (t + 16) M17) fun v33 M33 =>
        some (v33, M33))
      else (
        some (v17, M17)))
    else (
      some ((-1 : Int32), M)))
def X5_doAgain_10 (t : Nat) (t1 : Nat) (x2 : Int32) : Nat → Int32 → Mem → Option (Unit × Mem)
  | 0, _, _ => none
  | n + 1, x3, M =>
    s_call (X0_size (t + 28) M) fun v15 M15 =>
    if v15 ≤ x3 then (
      some ((), M15))
    else (
      s_call (X0_kindAt (t + 28) x3 M15) fun v26 M26 =>
      s_call (X0_firstAt (t + 28) x3 M26) fun v36 M36 =>
      s_call (X0_secondAt (t + 28) x3 M36) fun v46 M46 =>
      if x3 = x2 then (
        X5_doAgain_10 t t1 x2 n (x3 + (1 : Int32)) M46)
      else (
        s_call (X4_canBeDone t1 v26 v36 v46 M46) fun v63 M63 =>
        if v63 = 0 then (
          X5_doAgain_10 t t1 x2 n (x3 + (1 : Int32)) M63)
        else (
          s_call (X4_perform t1 v26 v36 v46 M63) fun _ M76 =>
          X5_doAgain_10 t t1 x2 n (x3 + (1 : Int32)) M76)))
def X5_doAgain (t : Nat) (t1 : Nat) (x2 : Int32) : Mem → Option (Unit × Mem) := fun M =>
  s_call (X4_copyFrom t1 (t + 7) M) fun _ M5 =>
  X5_doAgain_10 t t1 x2 FU (0 : Int32) M5
def X5_undo (t : Nat) : Mem → Option (Int32 × Mem) := fun M =>
  s_call (X0_size (t + 28) M) fun v4 M4 =>
  if (1 : Int32) ≤ v4 then (
    s_call (X0_dropLatest (t + 28) M4) fun _ M18 =>
    s_call (X5_doAgain t (t + 16) (-1 : Int32) M18) fun _ M27 =>
    s_call (X0_size (t + 28) M27) fun v34 M34 =>
    some (v34, M34))
  else (
    some ((-2 : Int32), M4))
def X5_peace (t : Nat) (x1 : Int32) : Mem → Option (Int32 × Mem) := fun M =>
  if x1 < 0 then (
    some ((-1 : Int32), M))
  else (
    if x1 ≤ (2 : Int32) then (
      s_call (X4_copyFrom (t + 23) (t + 16) M) fun _ M19 =>
      s_call (X4_makePeace (t + 23) M19) fun v26 M26 =>
      if ¬ x1 = 0 then (
        if ¬ x1 = (1 : Int32) then (
          s_call (X4_stuckBits (t + 23) M26) fun v55 M55 =>
          some (v55, M55))
        else (
          s_call (X4_allOwed (t + 23) M26) fun v45 M45 =>
          some (v45, M45)))
      else (
        some (v26, M26)))
    else (
      some ((-1 : Int32), M)))
def X5_isZeroOrOne (x0 : Int32) : Mem → Option (Int32 × Mem) := fun M =>
  if x0 = 0 then (
    s_retz (1 : Int32) M)
  else (
    if ¬ x0 = (1 : Int32) then (
      s_retz (0 : Int32) M)
    else (
      s_retz (1 : Int32) M))
def X5_ring_78 (t : Nat) (x1 : Int32) (x2 : Int32) (x3 : Int32) (x4 : Int32) (x5 : Int32) (k38 : Int32 → Int32 → Int32 → Mem → Option (Int32 × Mem)) : Int32 → Mem → Option (Int32 × Mem) := fun y0 M =>
  if y0 = (-4 : Int32) then (
    k38 x3 x4 (x5 + (1 : Int32)) M)
  else (
    if x3 = (-4 : Int32) then (
      s_let (y0 + (1 : Int32)) fun x3_105 =>
      k38 x3_105 x5 (x5 + (1 : Int32)) M)
    else (
      if x3 ≤ (y0 + (1 : Int32)) then (
        k38 x3 x4 (x5 + (1 : Int32)) M)
      else (
        s_let (y0 + (1 : Int32)) fun x3_105 =>
        k38 x3_105 x5 (x5 + (1 : Int32)) M)))
def X5_ring_38 (t : Nat) (x1 : Int32) (x2 : Int32) : Nat → Int32 → Int32 → Int32 → Mem → Option (Int32 × Mem)
  | 0, _, _, _, _ => none
  | n + 1, x3, x4, x5, M =>
    s_call (X4_persons (t + 16) M) fun v44 M44 =>
    if v44 ≤ x5 then (
      if ¬ x2 = 0 then (
        some (x4, M44))
      else (
        some (x3, M44)))
    else (
      s_call (X2_areLinked (t + 40) x1 x5 M44) fun v57 M57 =>
      if v57 = 0 then (
        X5_ring_78 t x1 x2 x3 x4 x5 (X5_ring_38 t x1 x2 n) (-4 : Int32) M57)
      else (
        s_call (X2_steps (t + 40) x5 x1 M57) fun v70 M70 =>
        X5_ring_78 t x1 x2 x3 x4 x5 (X5_ring_38 t x1 x2 n) v70 M70))
def X5_ring (t : Nat) (x1 : Int32) (x2 : Int32) : Mem → Option (Int32 × Mem) := fun M =>
  s_call (X5_isPerson t x1 M) fun v2 M2 =>
  if v2 = 0 then (
    some ((-1 : Int32), M2))
  else (
    s_call (X5_isZeroOrOne x2 M2) fun v9 M9 =>
    if ¬ v9 = 0 then (
      s_call (X4_linkDebts (t + 16) (t + 40) M9) fun _ M25 =>
      X5_ring_38 t x1 x2 FU (-4 : Int32) (-4 : Int32) (0 : Int32) M25)
    else (
      some ((-1 : Int32), M9)))
def X5_twoAsNumber (x0 : Int32) (x1 : Int32) : Mem → Option (Int32 × Mem) := fun M =>
  some ((((8 : Int32) * x0) + x1), M)
def X5_listDebts_17 (t : Nat) (x2 : Int32) (k4 : Int32 → Int32 → Mem → Option (Int32 × Mem)) : Nat → Int32 → Int32 → Mem → Option (Int32 × Mem)
  | 0, _, _, _ => none
  | n + 1, x1, x3, M =>
    s_call (X4_persons (t + 16) M) fun v22 M22 =>
    if v22 ≤ x3 then (
      k4 x1 (x2 + (1 : Int32)) M22)
    else (
      s_call (X4_debt (t + 16) x2 x3 M22) fun v34 M34 =>
      if v34 ≤ 0 then (
        X5_listDebts_17 t x2 k4 n x1 (x3 + (1 : Int32)) M34)
      else (
        s_call (X5_twoAsNumber x2 x3 M34) fun v47 M47 =>
        s_ast M47 (t + 43) 64 x1 v47 fun M50 =>
        X5_listDebts_17 t x2 k4 n (x1 + (1 : Int32)) (x3 + (1 : Int32)) M50))
def X5_listDebts_4 (t : Nat) : Nat → Int32 → Int32 → Mem → Option (Int32 × Mem)
  | 0, _, _, _ => none
  | n + 1, x1, x2, M =>
    s_call (X4_persons (t + 16) M) fun v9 M9 =>
    if v9 ≤ x2 then (
      some (x1, M9))
    else (
      X5_listDebts_17 t x2 (X5_listDebts_4 t n) FU x1 (0 : Int32) M9)
def X5_listDebts (t : Nat) : Mem → Option (Int32 × Mem) := fun M =>
  X5_listDebts_4 t FU (0 : Int32) (0 : Int32) M
def X5_forgiveInTrial (t : Nat) (x1 : Int32) : Mem → Option (Unit × Mem) := fun M =>
  if x1 = (-1 : Int32) then (
    some ((), M))
  else (
    s_ald M (t + 43) 64 x1 fun v10 =>
    s_div v10 (8 : Int32) fun v19 =>
    s_rem v10 (8 : Int32) fun v23 =>
    s_call (X4_setDebt (t + 23) v19 v23 (0 : Int32) M) fun _ M25 =>
    some ((), M25))
def X5_owedWithout (t : Nat) (x1 : Int32) (x2 : Int32) : Mem → Option (Int32 × Mem) := fun M =>
  s_call (X4_copyFrom (t + 23) (t + 16) M) fun _ M8 =>
  s_call (X5_forgiveInTrial t x1 M8) fun _ M13 =>
  s_call (X5_forgiveInTrial t x2 M13) fun _ M18 =>
  s_call (X4_makePeace (t + 23) M18) fun v25 M25 =>
  s_call (X4_allOwed (t + 23) M25) fun v33 M33 =>
  some (v33, M33)
def X5_forgiven_24 (t : Nat) (x1 : Int32) (x2 : Int32) : Nat → Int32 → Int32 → Int32 → Mem → Option (Int32 × Mem)
  | 0, _, _, _, _ => none
  | n + 1, x3, x4, x5, M =>
    if x2 ≤ x5 then (
      if ¬ x1 = 0 then (
        some (x4, M))
      else (
        some (x3, M)))
    else (
      s_call (X5_owedWithout t x5 (-1 : Int32) M) fun v34 M34 =>
      if x3 = (-4 : Int32) then (
        s_ald M34 (t + 43) 64 x5 fun v58 =>
        X5_forgiven_24 t x1 x2 n v58 v34 (x5 + (1 : Int32)) M34)
      else (
        if x4 ≤ v34 then (
          X5_forgiven_24 t x1 x2 n x3 x4 (x5 + (1 : Int32)) M34)
        else (
          s_ald M34 (t + 43) 64 x5 fun v58 =>
          X5_forgiven_24 t x1 x2 n v58 v34 (x5 + (1 : Int32)) M34)))
def X5_forgiven (t : Nat) (x1 : Int32) : Mem → Option (Int32 × Mem) := fun M =>
  s_call (X5_isZeroOrOne x1 M) fun v1 M1 =>
  if ¬ v1 = 0 then (
    s_call (X5_listDebts t M1) fun v10 M10 =>
    X5_forgiven_24 t x1 v10 FU (-4 : Int32) (-4 : Int32) (0 : Int32) M10)
  else (
    some ((-1 : Int32), M1))
def X5_owedBehindWrong (t : Nat) (x1 : Int32) (x2 : Int32) : Mem → Option (Int32 × Mem) := fun M =>
  s_call (X4_copyFrom (t + 23) (t + 16) M) fun _ M8 =>
  s_call (X4_perform (t + 23) (0 : Int32) x1 x2 M8) fun _ M18 =>
  s_call (X4_makePeace (t + 23) M18) fun v25 M25 =>
  s_call (X4_allOwed (t + 23) M25) fun v33 M33 =>
  some (v33, M33)
def X5_mustNot_36 (t : Nat) (x1 : Int32) (x2 : Int32) : Nat → Int32 → Int32 → Mem → Option (Int32 × Mem)
  | 0, _, _, _ => none
  | n + 1, x3, x4, M =>
    s_call (X4_persons (t + 16) M) fun v42 M42 =>
    if v42 ≤ x4 then (
      some (x3, M42))
    else (
      s_call (X4_canBeDone (t + 16) (0 : Int32) x1 x4 M42) fun v56 M56 =>
      if v56 = 0 then (
        X5_mustNot_36 t x1 x2 n x3 (x4 + (1 : Int32)) M56)
      else (
        s_call (X5_owedBehindWrong t x1 x4 M56) fun v66 M66 =>
        if v66 ≤ x2 then (
          X5_mustNot_36 t x1 x2 n x3 (x4 + (1 : Int32)) M66)
        else (
          s_let (x3 ||| ((1 : Int32) <<< (x4 &&& 31))) fun x3_79 =>
          X5_mustNot_36 t x1 x2 n x3_79 (x4 + (1 : Int32)) M66)))
def X5_mustNot (t : Nat) (x1 : Int32) : Mem → Option (Int32 × Mem) := fun M =>
  s_call (X5_isPerson t x1 M) fun v2 M2 =>
  if ¬ v2 = 0 then (
    s_call (X4_isAlive (t + 16) x1 M2) fun v15 M15 =>
    if ¬ v15 = 0 then (
      s_call (X5_owedWithout t (-1 : Int32) (-1 : Int32) M15) fun v27 M27 =>
      X5_mustNot_36 t x1 v27 FU (0 : Int32) (0 : Int32) M27)
    else (
      some ((-2 : Int32), M15)))
  else (
    some ((-1 : Int32), M2))
def X5_began_9 (t : Nat) (x1 : Int32) : Nat → Int32 → Mem → Option (Int32 × Mem)
  | 0, _, _ => none
  | n + 1, x2, M =>
    s_call (X0_size (t + 28) M) fun v14 M14 =>
    if v14 ≤ x2 then (
      some ((-4 : Int32), M14))
    else (
      s_call (X5_doAgain t (t + 23) x2 M14) fun _ M26 =>
      s_call (X4_makePeace (t + 23) M26) fun v33 M33 =>
      s_call (X4_allOwed (t + 23) M33) fun v41 M41 =>
      if x1 ≤ v41 then (
        X5_began_9 t x1 n (x2 + (1 : Int32)) M41)
      else (
        some (x2, M41)))
def X5_began (t : Nat) : Mem → Option (Int32 × Mem) := fun M =>
  s_call (X5_owedWithout t (-1 : Int32) (-1 : Int32) M) fun v3 M3 =>
  X5_began_9 t v3 FU (0 : Int32) M3
def X5_word (t : Nat) (x1 : Int32) (x2 : Int32) : Mem → Option (Int32 × Mem) := fun M =>
  s_call (X5_isPerson t x1 M) fun v2 M2 =>
  if v2 = 0 then (
    some ((-1 : Int32), M2))
  else (
    s_call (X5_isPerson t x2 M2) fun v10 M10 =>
    if ¬ v10 = 0 then (
      s_call (X4_isAlive (t + 16) x1 M10) fun v23 M23 =>
      if v23 = 0 then (
        some ((-4 : Int32), M23))
      else (
        s_call (X4_isAlive (t + 16) x2 M23) fun v34 M34 =>
        if ¬ v34 = 0 then (
          s_call (X4_linkSpeakers (t + 16) (t + 40) M34) fun _ M51 =>
          s_call (X2_steps (t + 40) x1 x2 M51) fun v60 M60 =>
          some (v60, M60))
        else (
          some ((-4 : Int32), M34))))
    else (
      some ((-1 : Int32), M10)))
def X5_vote (t : Nat) : Mem → Option (Int32 × Mem) := fun M =>
  s_call (X4_linkSpeakers (t + 16) (t + 40) M) fun _ M8 =>
  s_call (X4_aliveBits (t + 16) M8) fun v19 M19 =>
  s_call (X2_largestSet (t + 40) v19 M19) fun v22 M22 =>
  some (v22, M22)
def X5_deals (t : Nat) : Mem → Option (Int32 × Mem) := fun M =>
  s_call (X4_linkSpeakers (t + 16) (t + 40) M) fun _ M8 =>
  s_call (X2_mostTwos (t + 40) M8) fun v15 M15 =>
  some (v15, M15)
def X5_guests (t : Nat) (x1 : Int32) (x2 : Int32) : Mem → Option (Int32 × Mem) := fun M =>
  s_call (X5_areTwo t x1 x2 M) fun v3 M3 =>
  if ¬ v3 = 0 then (
    s_call (X4_isAlive (t + 16) x1 M3) fun v16 M16 =>
    if v16 = 0 then (
      some ((-2 : Int32), M16))
    else (
      s_call (X4_isAlive (t + 16) x2 M16) fun v27 M27 =>
      if ¬ v27 = 0 then (
        s_call (X4_linkSpeakers (t + 16) (t + 40) M27) fun _ M44 =>
        s_call (X2_linkedTo (t + 40) x1 M44) fun v52 M52 =>
        s_call (X2_linkedTo (t + 40) x2 M52) fun v60 M60 =>
        some ((v52 &&& v60), M60))
      else (
        some ((-2 : Int32), M27))))
  else (
    some ((-1 : Int32), M3))
def X5_lotsThatFree_65 (t : Nat) (x1 : Int32) (x2 : Int32) (x4 : Int32) (k27 : Int32 → Int32 → Mem → Option (Int32 × Mem)) : Nat → Int32 → Int32 → Mem → Option (Int32 × Mem)
  | 0, _, _, _ => none
  | n + 1, x3, x5, M =>
    if x2 ≤ x5 then (
      k27 x3 (x4 + (1 : Int32)) M)
    else (
      if ¬ x1 = (2 : Int32) then (
        k27 x3 (x4 + (1 : Int32)) M)
      else (
        s_call (X5_owedWithout t x4 x5 M) fun v82 M82 =>
        if ¬ v82 = 0 then (
          s_call (X5_asNumber (0 : Int32) M82) fun v93 M93 =>
          s_let (x3 + v93) fun x3_97 =>
          X5_lotsThatFree_65 t x1 x2 x4 k27 n x3_97 (x5 + (1 : Int32)) M93)
        else (
          s_call (X5_asNumber (1 : Int32) M82) fun v93 M93 =>
          s_let (x3 + v93) fun x3_97 =>
          X5_lotsThatFree_65 t x1 x2 x4 k27 n x3_97 (x5 + (1 : Int32)) M93)))
def X5_lotsThatFree_27 (t : Nat) (x1 : Int32) (x2 : Int32) : Nat → Int32 → Int32 → Mem → Option (Int32 × Mem)
  | 0, _, _, _ => none
  | n + 1, x3, x4, M =>
    if x2 ≤ x4 then (
      some (x3, M))
    else (
      if ¬ x1 = (1 : Int32) then (
        s_let (x4 + (1 : Int32)) fun x5_63 =>
        X5_lotsThatFree_65 t x1 x2 x4 (X5_lotsThatFree_27 t x1 x2 n) FU x3 x5_63 M)
      else (
        s_call (X5_owedWithout t x4 (-1 : Int32) M) fun v43 M43 =>
        if ¬ v43 = 0 then (
          s_call (X5_asNumber (0 : Int32) M43) fun v54 M54 =>
          s_let (x3 + v54) fun x3_58 =>
          s_let (x4 + (1 : Int32)) fun x5_63 =>
          X5_lotsThatFree_65 t x1 x2 x4 (X5_lotsThatFree_27 t x1 x2 n) FU x3_58 x5_63 M54)
        else (
          s_call (X5_asNumber (1 : Int32) M43) fun v54 M54 =>
          s_let (x3 + v54) fun x3_58 =>
          s_let (x4 + (1 : Int32)) fun x5_63 =>
          X5_lotsThatFree_65 t x1 x2 x4 (X5_lotsThatFree_27 t x1 x2 n) FU x3_58 x5_63 M54)))
def X5_lotsThatFree (t : Nat) (x1 : Int32) (x2 : Int32) : Mem → Option (Int32 × Mem) := fun M =>
  if ¬ x1 = 0 then (
    X5_lotsThatFree_27 t x1 x2 FU (0 : Int32) (0 : Int32) M)
  else (
    s_call (X5_owedWithout t (-1 : Int32) (-1 : Int32) M) fun v7 M7 =>
    if ¬ v7 = 0 then (
      s_call (X5_asNumber (0 : Int32) M7) fun v18 M18 =>
      some (v18, M18))
    else (
      s_call (X5_asNumber (1 : Int32) M7) fun v18 M18 =>
      some (v18, M18)))
def X5_lotsInAll (x0 : Int32) (x1 : Int32) : Mem → Option (Int32 × Mem) := fun M =>
  if ¬ x0 = 0 then (
    if ¬ x0 = (1 : Int32) then (
      s_div (x1 * (x1 - (1 : Int32))) (2 : Int32) fun v21 =>
      some (v21, M))
    else (
      some (x1, M)))
  else (
    some ((1 : Int32), M))
def X5_greatestDivisor_7  : Nat → Int32 → Int32 → Int32 → Mem → Option (Int32 × Mem)
  | 0, _, _, _, _ => none
  | n + 1, x2, x3, x4, M =>
    if (504 : Int32) ≤ x4 then (
      some (x2, M))
    else (
      if x3 = 0 then (
        some (x2, M))
      else (
        s_rem x2 x3 fun v21 =>
        X5_greatestDivisor_7 n x3 v21 (x4 + (1 : Int32)) M))
def X5_greatestDivisor (x0 : Int32) (x1 : Int32) : Mem → Option (Int32 × Mem) := fun M =>
  X5_greatestDivisor_7 FU x1 x0 (0 : Int32) M
def X5_court (t : Nat) (x1 : Int32) (x2 : Int32) : Mem → Option (Int32 × Mem) := fun M =>
  if x1 < 0 then (
    some ((-1 : Int32), M))
  else (
    if (2 : Int32) < x1 then (
      some ((-1 : Int32), M))
    else (
      s_call (X5_isZeroOrOne x2 M) fun v10 M10 =>
      if ¬ v10 = 0 then (
        s_call (X5_listDebts t M10) fun v19 M19 =>
        if x1 ≤ v19 then (
          s_call (X5_lotsThatFree t x1 v19 M19) fun v34 M34 =>
          s_call (X5_lotsInAll x1 v19 M34) fun v41 M41 =>
          s_call (X5_greatestDivisor v34 v41 M41) fun v50 M50 =>
          if (1 : Int32) ≤ v50 then (
            if ¬ x2 = 0 then (
              s_div v41 v50 fun v77 =>
              some (v77, M50))
            else (
              s_div v34 v50 fun v77 =>
              some (v77, M50)))
          else (
            some ((-4 : Int32), M50)))
        else (
          some ((-4 : Int32), M19)))
      else (
        some ((-1 : Int32), M10))))
def X5_stranger (t : Nat) (x1 : Int32) : Mem → Option (Int32 × Mem) := fun M =>
  s_call (X5_isZeroOrOne x1 M) fun v1 M1 =>
  if ¬ v1 = 0 then (
    s_call (X4_persons (t + 16) M1) fun v13 M13 =>
    if v13 < (7 : Int32) then (
      s_call (X4_copyFrom (t + 23) (t + 16) M13) fun _ M32 =>
      s_call (X4_makePeace (t + 23) M32) fun v39 M39 =>
      s_call (X4_allOwed (t + 23) M39) fun v47 M47 =>
      s_call (X4_copyFrom (t + 23) (t + 16) M47) fun _ M59 =>
      s_call (X4_addStranger (t + 23) M59) fun _ M66 =>
      s_call (X4_makePeace (t + 23) M66) fun v73 M73 =>
      s_let (v73 - v39) fun x4_78 =>
      s_call (X4_allOwed (t + 23) M73) fun v84 M84 =>
      s_let (v84 - v47) fun x5_89 =>
      if ¬ x1 = 0 then (
        some (((100 : Int32) + x5_89), M84))
      else (
        some (((100 : Int32) + x4_78), M84)))
    else (
      some ((-3 : Int32), M13)))
  else (
    some ((-1 : Int32), M1))
def X5_easter_19 (t : Nat) : Nat → Int32 → Mem → Option (Int32 × Mem)
  | 0, _, _ => none
  | n + 1, x1, M =>
    s_call (X4_easterDay (t + 16) M) fun v24 M24 =>
    if v24 < x1 then (
      some ((-4 : Int32), M24))
    else (
      s_call (X4_makePeace (t + 23) M24) fun v34 M34 =>
      s_call (X4_allOwed (t + 23) M34) fun v42 M42 =>
      if ¬ v42 = 0 then (
        s_call (X4_passDay (t + 23) M42) fun _ M54 =>
        X5_easter_19 t n (x1 + (1 : Int32)) M54)
      else (
        some (x1, M42)))
def X5_easter (t : Nat) : Mem → Option (Int32 × Mem) := fun M =>
  s_call (X4_copyFrom (t + 23) (t + 16) M) fun _ M8 =>
  s_call (X4_day (t + 16) M8) fun v15 M15 =>
  X5_easter_19 t FU v15 M15
def X5_silent (t : Nat) (x1 : Int32) : Mem → Option (Int32 × Mem) := fun M =>
  if x1 < 0 then (
    some ((-1 : Int32), M))
  else (
    if x1 < (4 : Int32) then (
      if (M t 9) < (6 : Int32) then (
        s_put M t 9 ((M t 9) + (1 : Int32)) fun M30 =>
        s_put M30 t 10 ((M30 t 10) ||| ((1 : Int32) <<< (x1 &&& 31))) fun M42 =>
        some ((M42 t 9), M42))
      else (
        some ((-3 : Int32), M)))
    else (
      some ((-1 : Int32), M)))
def X5_forget (t : Nat) : Mem → Option (Int32 × Mem) := fun M =>
  s_let (M t 9) fun x1_4 =>
  s_call (X5_forgetSilence t M) fun _ M6 =>
  some (x1_4, M6)
def X5_wrongFits (t : Nat) (x1 : Int32) (x2 : Int32) : Mem → Option (Int32 × Mem) := fun M =>
  s_call (X4_canBeDone (t + 16) (0 : Int32) x1 x2 M) fun v7 M7 =>
  if ¬ v7 = 0 then (
    s_call (X4_copyFrom (t + 23) (t + 16) M7) fun _ M23 =>
    s_call (X4_perform (t + 23) (0 : Int32) x1 x2 M23) fun _ M33 =>
    s_call (X4_anySpeakIn (t + 23) (M33 t 10) M33) fun v44 M44 =>
    if ¬ v44 = 0 then (
      s_retz (0 : Int32) M44)
    else (
      s_retz (1 : Int32) M44))
  else (
    s_retz (0 : Int32) M7)
def X5_fits_32 (t : Nat) (x1 : Int32) (x4 : Int32) (k17 : Int32 → Int32 → Int32 → Mem → Option (Int32 × Mem)) : Nat → Int32 → Int32 → Int32 → Mem → Option (Int32 × Mem)
  | 0, _, _, _, _ => none
  | n + 1, x2, x3, x5, M =>
    s_call (X4_persons (t + 16) M) fun v38 M38 =>
    if v38 ≤ x5 then (
      k17 x2 x3 (x4 + (1 : Int32)) M38)
    else (
      s_call (X5_wrongFits t x4 x5 M38) fun v49 M49 =>
      if v49 = 0 then (
        X5_fits_32 t x1 x4 k17 n x2 x3 (x5 + (1 : Int32)) M49)
      else (
        if ¬ x2 = 0 then (
          X5_fits_32 t x1 x4 k17 n (x2 + (1 : Int32)) x3 (x5 + (1 : Int32)) M49)
        else (
          s_call (X5_twoAsNumber x4 x5 M49) fun v63 M63 =>
          X5_fits_32 t x1 x4 k17 n (x2 + (1 : Int32)) v63 (x5 + (1 : Int32)) M63)))
def X5_fits_17 (t : Nat) (x1 : Int32) : Nat → Int32 → Int32 → Int32 → Mem → Option (Int32 × Mem)
  | 0, _, _, _, _ => none
  | n + 1, x2, x3, x4, M =>
    s_call (X4_persons (t + 16) M) fun v23 M23 =>
    if v23 ≤ x4 then (
      if ¬ x1 = 0 then (
        some (x3, M23))
      else (
        some (x2, M23)))
    else (
      X5_fits_32 t x1 x4 (X5_fits_17 t x1 n) FU x2 x3 (0 : Int32) M23)
def X5_fits (t : Nat) (x1 : Int32) : Mem → Option (Int32 × Mem) := fun M =>
  s_call (X5_isZeroOrOne x1 M) fun v1 M1 =>
  if ¬ v1 = 0 then (
    X5_fits_17 t x1 FU (0 : Int32) (-4 : Int32) (0 : Int32) M1)
  else (
    some ((-1 : Int32), M1))
def X5_bowsInStep_93 (t : Nat) (x7 : Int32) (x8 : Int32) : Int32 → Mem → Option (Int32 × Mem) := fun y0 M =>
  s_call (X4_canBeDone (t + 23) y0 x7 x8 M) fun v105 M105 =>
  if ¬ v105 = 0 then (
    s_call (X4_perform (t + 23) y0 x7 x8 M105) fun _ M123 =>
    if ¬ y0 = (1 : Int32) then (
      s_call (X5_asNumber (0 : Int32) M123) fun v137 M137 =>
      some (v137, M137))
    else (
      s_call (X5_asNumber (1 : Int32) M123) fun v137 M137 =>
      some (v137, M137)))
  else (
    some ((0 : Int32), M105))
def X5_bowsInStep (t : Nat) (x1 : Int32) (x2 : Int32) : Mem → Option (Int32 × Mem) := fun M =>
  s_call (X4_persons (t + 23) M) fun v4 M4 =>
  if (1 : Int32) ≤ v4 then (
    s_letl ((((7919 : Int64) * ((x1).toInt64)) + ((6151 : Int64) * ((x2).toInt64))) + (1 : Int64)) fun x4_30 =>
    s_reml (x4_30 * x4_30) (65521 : Int64) fun v40 =>
    s_let ((v40).toInt32) fun x6_42 =>
    s_rem x6_42 v4 fun v47 =>
    s_div x6_42 (8 : Int32) fun v54 =>
    s_rem v54 v4 fun v56 =>
    s_div x6_42 (64 : Int32) fun v63 =>
    s_rem v63 (4 : Int32) fun v65 =>
    if ¬ v65 = (1 : Int32) then (
      if ¬ v65 = 0 then (
        X5_bowsInStep_93 t v47 v56 (1 : Int32) M4)
      else (
        X5_bowsInStep_93 t v47 v56 (0 : Int32) M4))
    else (
      s_call (X4_passDay (t + 23) M4) fun _ M78 =>
      some ((0 : Int32), M78)))
  else (
    some ((0 : Int32), M4))
def X5_year_48 (t : Nat) (x1 : Int32) (x2 : Int32) (x3 : Int32) : Nat → Int32 → Int32 → Mem → Option (Int32 × Mem)
  | 0, _, _, _ => none
  | n + 1, x4, x5, M =>
    if x2 ≤ x5 then (
      if ¬ x3 = 0 then (
        some (x4, M))
      else (
        s_call (X4_allOwed (t + 23) M) fun v80 M80 =>
        some (v80, M80)))
    else (
      s_call (X5_bowsInStep t x1 x5 M) fun v60 M60 =>
      s_let (x4 + v60) fun x4_64 =>
      X5_year_48 t x1 x2 x3 n x4_64 (x5 + (1 : Int32)) M60)
def X5_year (t : Nat) (x1 : Int32) (x2 : Int32) (x3 : Int32) : Mem → Option (Int32 × Mem) := fun M =>
  if x1 < 0 then (
    some ((-1 : Int32), M))
  else (
    if (9999 : Int32) < x1 then (
      some ((-1 : Int32), M))
    else (
      if x2 < (1 : Int32) then (
        some ((-1 : Int32), M))
      else (
        if (60 : Int32) < x2 then (
          some ((-1 : Int32), M))
        else (
          s_call (X5_isZeroOrOne x3 M) fun v23 M23 =>
          if ¬ v23 = 0 then (
            s_call (X4_copyFrom (t + 23) (t + 16) M23) fun _ M39 =>
            X5_year_48 t x1 x2 x3 FU (0 : Int32) (0 : Int32) M39)
          else (
            some ((-1 : Int32), M23))))))
def X5_latestKept (t : Nat) : Mem → Option (Nat × Mem) := fun M =>
  if ¬ (M t 8) = (1 : Int32) then (
    some (t + 36, M))
  else (
    some (t + 32, M))
def X5_keep (t : Nat) : Mem → Option (Int32 × Mem) := fun M =>
  if (M t 8) < (2 : Int32) then (
    s_put M t 8 ((M t 8) + (1 : Int32)) fun M18 =>
    s_call (X5_latestKept t M18) fun v22 M22 =>
    s_call (X0_copyFrom v22 (t + 28) M22) fun _ M29 =>
    some ((M29 t 8), M29))
  else (
    some ((-3 : Int32), M))
def X5_back (t : Nat) : Mem → Option (Int32 × Mem) := fun M =>
  if (1 : Int32) ≤ (M t 8) then (
    s_call (X5_latestKept t M) fun v16 M16 =>
    s_call (X0_copyFrom (t + 28) v16 M16) fun _ M19 =>
    s_put M19 t 8 ((M19 t 8) - (1 : Int32)) fun M29 =>
    s_call (X5_doAgain t (t + 16) (-1 : Int32) M29) fun _ M38 =>
    some ((M38 t 8), M38))
  else (
    some ((-2 : Int32), M))
def X5_count (t : Nat) (x1 : Int32) : Mem → Option (Int32 × Mem) := fun M =>
  if x1 = (0 : Int32) then (
    s_call (X4_persons (t + 16) M) fun v52 M52 =>
    some (v52, M52))
  else if x1 = (1 : Int32) then (
    s_call (X4_aliveBits (t + 16) M) fun v60 M60 =>
    s_call (J6_bitCount_0f7a4 v60 M60) fun v63 M63 =>
    some (v63, M63))
  else if x1 = (2 : Int32) then (
    s_call (X4_day (t + 16) M) fun v71 M71 =>
    some (v71, M71))
  else if x1 = (3 : Int32) then (
    s_call (X4_allOwed (t + 16) M) fun v79 M79 =>
    some (v79, M79))
  else if x1 = (4 : Int32) then (
    s_call (X0_size (t + 28) M) fun v87 M87 =>
    some (v87, M87))
  else if x1 = (5 : Int32) then (
    some ((M t 9), M))
  else if x1 = (6 : Int32) then (
    some ((M t 8), M))
  else if x1 = (7 : Int32) then (
    s_call (X1_length (t + 1) M) fun v105 M105 =>
    some (v105, M105))
  else (
    some ((-1 : Int32), M))
def X6_in (x0 : Int64) (x2 : Int64) (x4 : Int64) : Mem → Option (Int32 × Mem) := fun M =>
  if (lg_cmp x0 x2) < 0 then (
    s_retz (0 : Int32) M)
  else (
    if 0 < (lg_cmp x0 x4) then (
      s_retz (0 : Int32) M)
    else (
      s_retz (1 : Int32) M))
def X6_has (x0 : Int32) (x1 : Int32) : Mem → Option (Int32 × Mem) := fun M =>
  if ¬ ((x0 >>> (x1 &&& 31)) &&& (1 : Int32)) = (1 : Int32) then (
    s_retz (0 : Int32) M)
  else (
    s_retz (1 : Int32) M)
def X6_noTown_17 (t : Nat) (x1 : Int32) : Nat → Int32 → Mem → Option (Unit × Mem)
  | 0, _, _ => none
  | n + 1, x2, M =>
    if (64 : Int32) ≤ x2 then (
      some ((), M))
    else (
      s_ast M (t + 5) 128 (((64 : Int32) * x1) + x2) (0 : Int32) fun M34 =>
      X6_noTown_17 t x1 n (x2 + (1 : Int32)) M34)
def X6_noTown (t : Nat) (x1 : Int32) : Mem → Option (Unit × Mem) := fun M =>
  s_ast M (t + 2) 2 x1 (0 : Int32) fun M6 =>
  s_ast M6 (t + 6) 2 x1 (40 : Int32) fun M14 =>
  X6_noTown_17 t x1 FU (0 : Int32) M14
def X6_addPerson (t : Nat) (x1 : Int32) (x2 : Int32) (x3 : Int32) : Mem → Option (Unit × Mem) := fun M =>
  s_ald M (t + 2) 2 x1 fun v13 =>
  s_ast M (t + 3) 16 (((8 : Int32) * x1) + v13) x2 fun M16 =>
  s_ald M16 (t + 2) 2 x1 fun v30 =>
  s_ast M16 (t + 4) 16 (((8 : Int32) * x1) + v30) x3 fun M33 =>
  s_ald M33 (t + 2) 2 x1 fun v40 =>
  s_ast M33 (t + 2) 2 x1 (v40 + (1 : Int32)) fun M43 =>
  some ((), M43)
def X6_write (t : Nat) (x1 : Int32) : Mem → Option (Int32 × Mem) := fun M =>
  s_call (X6_in ((x1).toInt64) (32 : Int64) (126 : Int64) M) fun v8 M8 =>
  if ¬ v8 = 0 then (
    if ¬ (M8 t 0) = (200 : Int32) then (
      s_ast M8 (t + 1) 200 (M8 t 0) x1 fun M38 =>
      s_put M38 t 0 ((M38 t 0) + (1 : Int32)) fun M46 =>
      some ((M46 t 0), M46))
    else (
      some ((-3 : Int32), M8)))
  else (
    some ((-1 : Int32), M8))
def X6_wipe (t : Nat) : Mem → Option (Int32 × Mem) := fun M =>
  s_let (M t 0) fun x1_4 =>
  s_put M t 0 (0 : Int32) fun M7 =>
  some (x1_4, M7)
def X6_letterAt (t : Nat) (x1 : Int32) : Mem → Option (Int32 × Mem) := fun M =>
  if (M t 0) ≤ x1 then (
    some ((0 : Int32), M))
  else (
    s_ald M (t + 1) 200 x1 fun v13 =>
    some (v13, M))
def X6_figures_107 (t : Nat) (x1 : Int32) (x2 : Int32) (x4 : Int32) (k2 : Int32 → Mem → Option (Int32 × Mem)) : Int32 → Int32 → Mem → Option (Int32 × Mem) := fun y0 y1 M =>
  if y1 = y0 then (
    s_ast M (t + 12) 3 x2 x4 fun M119 =>
    s_put M119 t 14 ((M119 t 14) + (1 : Int32)) fun M127 =>
    k2 (x2 + (1 : Int32)) M127)
  else (
    s_retz (0 : Int32) M)
def X6_figures_73 (t : Nat) (x1 : Int32) (x2 : Int32) (x3 : Int32) (x4 : Int32) (k2 : Int32 → Mem → Option (Int32 × Mem)) : Mem → Option (Int32 × Mem) := fun M =>
  s_call (X6_in ((x3).toInt64) (1 : Int64) (2 : Int64) M) fun v79 M79 =>
  if v79 = 0 then (
    s_retz (0 : Int32) M79)
  else (
    s_call (X6_letterAt t (M79 t 14) M79) fun v90 M90 =>
    if (x1 - (1 : Int32)) ≤ x2 then (
      X6_figures_107 t x1 x2 x4 k2 (59 : Int32) v90 M90)
    else (
      X6_figures_107 t x1 x2 x4 k2 (44 : Int32) v90 M90))
def X6_figures_12 (t : Nat) (x1 : Int32) (x2 : Int32) (k2 : Int32 → Mem → Option (Int32 × Mem)) : Nat → Int32 → Int32 → Mem → Option (Int32 × Mem)
  | 0, _, _, _ => none
  | n + 1, x3, x4, M =>
    s_call (X6_letterAt t (M t 14) M) fun v17 M17 =>
    s_call (X6_in ((v17).toInt64) (48 : Int64) (57 : Int64) M17) fun v27 M27 =>
    if v27 = 0 then (
      X6_figures_73 t x1 x2 x3 x4 k2 M27)
    else (
      if (3 : Int32) ≤ x3 then (
        X6_figures_73 t x1 x2 x3 x4 k2 M27)
      else (
        s_call (X6_letterAt t (M27 t 14) M27) fun v48 M48 =>
        s_let ((((10 : Int32) * x4) + v48) - (48 : Int32)) fun x4_55 =>
        s_put M48 t 14 ((M48 t 14) + (1 : Int32)) fun M67 =>
        X6_figures_12 t x1 x2 k2 n (x3 + (1 : Int32)) x4_55 M67))
def X6_figures_2 (t : Nat) (x1 : Int32) : Nat → Int32 → Mem → Option (Int32 × Mem)
  | 0, _, _ => none
  | n + 1, x2, M =>
    if x1 ≤ x2 then (
      s_retz (1 : Int32) M)
    else (
      X6_figures_12 t x1 x2 (X6_figures_2 t x1 n) FU (0 : Int32) (0 : Int32) M)
def X6_figures (t : Nat) (x1 : Int32) : Mem → Option (Int32 × Mem) := fun M =>
  X6_figures_2 t x1 FU (0 : Int32) M
def X6_item (t : Nat) : Mem → Option (Int32 × Mem) := fun M =>
  s_call (X6_letterAt t (M t 14) M) fun v5 M5 =>
  s_put M5 t 14 ((M5 t 14) + (1 : Int32)) fun M16 =>
  if v5 = (101 : Int32) then (
    s_call (X6_figures t (1 : Int32) M16) fun v216 M216 =>
    if v216 = 0 then (
      s_retz (0 : Int32) M216)
    else (
      s_ald M216 (t + 12) 3 (0 : Int32) fun v227 =>
      s_call (X6_in ((v227).toInt64) (1 : Int64) (60 : Int64) M216) fun v233 M233 =>
      if ¬ v233 = 0 then (
        s_ald M233 (t + 12) 3 (0 : Int32) fun v251 =>
        s_ast M233 (t + 6) 2 (1 : Int32) v251 fun M252 =>
        s_retz (1 : Int32) M252)
      else (
        s_retz (0 : Int32) M233)))
  else if v5 = (111 : Int32) then (
    s_call (X6_figures t (3 : Int32) M16) fun v118 M118 =>
    if v118 = 0 then (
      s_retz (0 : Int32) M118)
    else (
      s_ald M118 (t + 12) 3 (0 : Int32) fun v129 =>
      s_ald M118 (t + 2) 2 (1 : Int32) fun v135 =>
      if v135 ≤ v129 then (
        s_retz (0 : Int32) M118)
      else (
        s_ald M118 (t + 12) 3 (1 : Int32) fun v144 =>
        s_ald M118 (t + 2) 2 (1 : Int32) fun v150 =>
        if v150 ≤ v144 then (
          s_retz (0 : Int32) M118)
        else (
          s_ald M118 (t + 12) 3 (0 : Int32) fun v159 =>
          s_ald M118 (t + 12) 3 (1 : Int32) fun v165 =>
          if v159 = v165 then (
            s_retz (0 : Int32) M118)
          else (
            s_ald M118 (t + 12) 3 (2 : Int32) fun v174 =>
            if v174 ≤ (9 : Int32) then (
              s_ald M118 (t + 12) 3 (0 : Int32) fun v195 =>
              s_ald M118 (t + 12) 3 (1 : Int32) fun v203 =>
              s_ald M118 (t + 12) 3 (2 : Int32) fun v210 =>
              s_ast M118 (t + 5) 128 (((64 : Int32) + ((8 : Int32) * v195)) + v203) v210 fun M211 =>
              s_retz (1 : Int32) M211)
            else (
              s_retz (0 : Int32) M118))))))
  else if v5 = (112 : Int32) then (
    s_call (X6_figures t (2 : Int32) M16) fun v58 M58 =>
    if v58 = 0 then (
      s_retz (0 : Int32) M58)
    else (
      s_ald M58 (t + 2) 2 (1 : Int32) fun v69 =>
      if v69 = (7 : Int32) then (
        s_retz (0 : Int32) M58)
      else (
        s_ald M58 (t + 12) 3 (0 : Int32) fun v80 =>
        if (3 : Int32) < v80 then (
          s_retz (0 : Int32) M58)
        else (
          s_ald M58 (t + 12) 3 (1 : Int32) fun v90 =>
          if v90 ≤ (3 : Int32) then (
            s_ald M58 (t + 12) 3 (0 : Int32) fun v104 =>
            s_ald M58 (t + 12) 3 (1 : Int32) fun v110 =>
            s_call (X6_addPerson t (1 : Int32) v104 v110 M58) fun _ M111 =>
            s_retz (1 : Int32) M111)
          else (
            s_retz (0 : Int32) M58)))))
  else (
    s_retz (0 : Int32) M16)
def X6_readAll_10 (t : Nat) : Nat → Mem → Option (Int32 × Mem)
  | 0, _ => none
  | n + 1, M =>
    if (M t 0) ≤ (M t 14) then (
      some ((-4 : Int32), M))
    else (
      s_let (M t 14) fun x1_25 =>
      s_call (X6_item t M) fun v27 M27 =>
      if ¬ v27 = 0 then (
        X6_readAll_10 t n  M27)
      else (
        some (x1_25, M27)))
def X6_readAll (t : Nat) : Mem → Option (Int32 × Mem) := fun M =>
  s_call (X6_noTown t (1 : Int32) M) fun _ M2 =>
  s_put M2 t 14 (0 : Int32) fun M7 =>
  X6_readAll_10 t FU M7
def X6_fault (t : Nat) : Mem → Option (Int32 × Mem) := fun M =>
  s_call (X6_readAll t M) fun v1 M1 =>
  some (v1, M1)
def X6_isAlive (t : Nat) (x1 : Int32) (x2 : Int32) : Mem → Option (Int32 × Mem) := fun M =>
  s_ald M (t + 14) 3 x1 fun v5 =>
  s_call (X6_has v5 x2 M) fun v7 M7 =>
  s_retz v7 M7
def X6_debt (t : Nat) (x1 : Int32) (x2 : Int32) (x3 : Int32) : Mem → Option (Int32 × Mem) := fun M =>
  s_ald M (t + 13) 192 ((((64 : Int32) * x1) + ((8 : Int32) * x2)) + x3) fun v15 =>
  some (v15, M)
def X6_debtsOf_5 (t : Nat) (x1 : Int32) (x2 : Int32) : Nat → Int32 → Int32 → Mem → Option (Int32 × Mem)
  | 0, _, _, _ => none
  | n + 1, x3, x4, M =>
    if (8 : Int32) ≤ x4 then (
      some (x3, M))
    else (
      s_call (X6_debt t x1 x2 x4 M) fun v18 M18 =>
      s_let (x3 + v18) fun x3_22 =>
      X6_debtsOf_5 t x1 x2 n x3_22 (x4 + (1 : Int32)) M18)
def X6_debtsOf (t : Nat) (x1 : Int32) (x2 : Int32) : Mem → Option (Int32 × Mem) := fun M =>
  X6_debtsOf_5 t x1 x2 FU (0 : Int32) (0 : Int32) M
def X6_takes (t : Nat) (x1 : Int32) (x2 : Int32) : Mem → Option (Int32 × Mem) := fun M =>
  s_call (X6_isAlive t x1 x2 M) fun v3 M3 =>
  if v3 = 0 then (
    s_retz (0 : Int32) M3)
  else (
    s_ald M3 (t + 3) 16 x2 fun v14 =>
    if v14 = (1 : Int32) then (
      s_retz (1 : Int32) M3)
    else (
      s_call (X6_debtsOf t x1 x2 M3) fun v22 M22 =>
      if ¬ v22 = 0 then (
        s_retz (0 : Int32) M22)
      else (
        s_retz (1 : Int32) M22)))
def X6_canBow (t : Nat) (x1 : Int32) (x2 : Int32) (x3 : Int32) : Mem → Option (Int32 × Mem) := fun M =>
  s_call (X6_debt t x1 x2 x3 M) fun v4 M4 =>
  if v4 ≤ 0 then (
    s_retz (0 : Int32) M4)
  else (
    s_call (X6_takes t x1 x3 M4) fun v13 M13 =>
    if v13 = 0 then (
      s_retz (0 : Int32) M13)
    else (
      s_retz (1 : Int32) M13))
def X6_canAtOnce (t : Nat) (x1 : Int32) (x2 : Int32) (x3 : Int32) : Mem → Option (Int32 × Mem) := fun M =>
  s_call (X6_debt t x1 x2 x3 M) fun v4 M4 =>
  if v4 ≤ 0 then (
    s_retz (0 : Int32) M4)
  else (
    s_call (X6_debt t x1 x3 x2 M4) fun v14 M14 =>
    if v14 ≤ 0 then (
      s_retz (0 : Int32) M14)
    else (
      s_call (X6_debtsOf t x1 x2 M14) fun v23 M23 =>
      s_call (X6_debt t x1 x2 x3 M23) fun v30 M30 =>
      if ¬ v23 = v30 then (
        s_retz (0 : Int32) M30)
      else (
        s_call (X6_debtsOf t x1 x3 M30) fun v39 M39 =>
        s_call (X6_debt t x1 x3 x2 M39) fun v46 M46 =>
        if ¬ v39 = v46 then (
          s_retz (0 : Int32) M46)
        else (
          s_retz (1 : Int32) M46))))
def X6_canDo (t : Nat) (x1 : Int32) (x2 : Int32) (x3 : Int32) (x4 : Int32) : Mem → Option (Int32 × Mem) := fun M =>
  if x2 = (0 : Int32) then (
    s_call (X6_isAlive t x1 x3 M) fun v39 M39 =>
    if v39 = 0 then (
      s_retz (0 : Int32) M39)
    else (
      s_call (X6_isAlive t x1 x4 M39) fun v49 M49 =>
      if v49 = 0 then (
        s_retz (0 : Int32) M49)
      else (
        s_call (X6_debt t x1 x3 x4 M49) fun v60 M60 =>
        if (9 : Int32) ≤ v60 then (
          s_retz (0 : Int32) M60)
        else (
          s_retz (1 : Int32) M60))))
  else if x2 = (1 : Int32) then (
    s_call (X6_canBow t x1 x3 x4 M) fun v79 M79 =>
    s_retz v79 M79)
  else if x2 = (2 : Int32) then (
    s_call (X6_canBow t x1 x3 x4 M) fun v88 M88 =>
    if v88 = 0 then (
      s_retz (0 : Int32) M88)
    else (
      s_call (X6_debt t x1 x3 x4 M88) fun v99 M99 =>
      if (9 : Int32) ≤ v99 then (
        s_retz (0 : Int32) M99)
      else (
        s_retz (1 : Int32) M99)))
  else if x2 = (3 : Int32) then (
    s_call (X6_canAtOnce t x1 x3 x4 M) fun v118 M118 =>
    s_retz v118 M118)
  else if x2 = (4 : Int32) then (
    s_call (X6_isAlive t x1 x3 M) fun v125 M125 =>
    s_retz v125 M125)
  else (
    s_retz (1 : Int32) M)
def X6_setDebt (t : Nat) (x1 : Int32) (x2 : Int32) (x3 : Int32) (x4 : Int32) : Mem → Option (Unit × Mem) := fun M =>
  if x4 ≤ (9 : Int32) then (
    s_ast M (t + 13) 192 ((((64 : Int32) * x1) + ((8 : Int32) * x2)) + x3) x4 fun M29 =>
    some ((), M29))
  else (
    s_ast M (t + 13) 192 ((((64 : Int32) * x1) + ((8 : Int32) * x2)) + x3) (9 : Int32) fun M29 =>
    some ((), M29))
def X6_pays (t : Nat) (x1 : Int32) (x2 : Int32) (x3 : Int32) : Mem → Option (Int32 × Mem) := fun M =>
  s_ald M (t + 3) 16 x2 fun v5 =>
  if ¬ v5 = (2 : Int32) then (
    s_ald M (t + 3) 16 x2 fun v25 =>
    if ¬ v25 = (3 : Int32) then (
      some ((1 : Int32), M))
    else (
      s_ald M (t + 15) 3 x1 fun v35 =>
      s_rem v35 (2 : Int32) fun v37 =>
      if ¬ v37 = (1 : Int32) then (
        some ((1 : Int32), M))
      else (
        some ((0 : Int32), M))))
  else (
    s_call (X6_debt t x1 x2 x3 M) fun v14 M14 =>
    some (v14, M14))
def X6_bothBow (t : Nat) (x1 : Int32) (x2 : Int32) (x3 : Int32) : Mem → Option (Unit × Mem) := fun M =>
  s_call (X6_pays t x1 x2 x3 M) fun v4 M4 =>
  s_call (X6_pays t x1 x3 x2 M4) fun v13 M13 =>
  s_call (X6_debt t x1 x2 x3 M13) fun v26 M26 =>
  s_call (X6_setDebt t x1 x2 x3 (v26 - v4) M26) fun _ M32 =>
  s_call (X6_debt t x1 x3 x2 M32) fun v43 M43 =>
  s_call (X6_setDebt t x1 x3 x2 (v43 - v13) M43) fun _ M49 =>
  some ((), M49)
def X6_dies_16 (t : Nat) (x1 : Int32) (x2 : Int32) : Nat → Int32 → Mem → Option (Unit × Mem)
  | 0, _, _ => none
  | n + 1, x3, M =>
    if (8 : Int32) ≤ x3 then (
      some ((), M))
    else (
      s_call (X6_setDebt t x1 x2 x3 (0 : Int32) M) fun _ M27 =>
      s_call (X6_setDebt t x1 x3 x2 (0 : Int32) M27) fun _ M35 =>
      X6_dies_16 t x1 x2 n (x3 + (1 : Int32)) M35)
def X6_dies (t : Nat) (x1 : Int32) (x2 : Int32) : Mem → Option (Unit × Mem) := fun M =>
  s_ald M (t + 14) 3 x1 fun v6 =>
  s_ast M (t + 14) 3 x1 (v6 &&& (((1 : Int32) <<< (x2 &&& 31)) ^^^ (-1 : Int32))) fun M13 =>
  X6_dies_16 t x1 x2 FU (0 : Int32) M13
def X6_goDay_36 (t : Nat) (x1 : Int32) (x2 : Int32) (k12 : Int32 → Mem → Option (Unit × Mem)) : Nat → Int32 → Mem → Option (Unit × Mem)
  | 0, _, _ => none
  | n + 1, x3, M =>
    s_ald M (t + 16) 3 x1 fun v42 =>
    if v42 ≤ x3 then (
      k12 (x2 + (1 : Int32)) M)
    else (
      s_ald M (t + 3) 16 x2 fun v51 =>
      if ¬ v51 = (1 : Int32) then (
        X6_goDay_36 t x1 x2 k12 n (x3 + (1 : Int32)) M)
      else (
        if x2 = x3 then (
          X6_goDay_36 t x1 x2 k12 n (x3 + (1 : Int32)) M)
        else (
          s_call (X6_isAlive t x1 x2 M) fun v64 M64 =>
          if v64 = 0 then (
            X6_goDay_36 t x1 x2 k12 n (x3 + (1 : Int32)) M64)
          else (
            s_call (X6_isAlive t x1 x3 M64) fun v73 M73 =>
            if v73 = 0 then (
              X6_goDay_36 t x1 x2 k12 n (x3 + (1 : Int32)) M73)
            else (
              s_call (X6_debt t x1 x2 x3 M73) fun v87 M87 =>
              s_call (X6_setDebt t x1 x2 x3 (v87 + (1 : Int32)) M87) fun _ M92 =>
              X6_goDay_36 t x1 x2 k12 n (x3 + (1 : Int32)) M92)))))
def X6_goDay_12 (t : Nat) (x1 : Int32) : Nat → Int32 → Mem → Option (Unit × Mem)
  | 0, _, _ => none
  | n + 1, x2, M =>
    s_ald M (t + 16) 3 x1 fun v18 =>
    if v18 ≤ x2 then (
      some ((), M))
    else (
      s_ald M (t + 15) 3 x1 fun v27 =>
      s_rem v27 (7 : Int32) fun v30 =>
      if ¬ v30 = 0 then (
        some ((), M))
      else (
        X6_goDay_36 t x1 x2 (X6_goDay_12 t x1 n) FU (0 : Int32) M))
def X6_goDay (t : Nat) (x1 : Int32) : Mem → Option (Unit × Mem) := fun M =>
  s_ald M (t + 15) 3 x1 fun v6 =>
  s_ast M (t + 15) 3 x1 (v6 + (1 : Int32)) fun M9 =>
  X6_goDay_12 t x1 FU (0 : Int32) M9
def X6_doAct_36 (t : Nat) (x1 : Int32) (x3 : Int32) (x4 : Int32) : Mem → Option (Unit × Mem) := fun M =>
  s_call (X6_debt t x1 x3 x4 M) fun v46 M46 =>
  s_call (X6_setDebt t x1 x3 x4 (v46 + (1 : Int32)) M46) fun _ M51 =>
  some ((), M51)
def X6_doAct_108 (t : Nat) (x1 : Int32) (x4 : Int32) : Nat → Int32 → Mem → Option (Unit × Mem)
  | 0, _, _ => none
  | n + 1, x5, M =>
    if x4 ≤ x5 then (
      some ((), M))
    else (
      s_call (X6_goDay t x1 M) fun _ M117 =>
      X6_doAct_108 t x1 x4 n (x5 + (1 : Int32)) M117)
def X6_doAct (t : Nat) (x1 : Int32) (x2 : Int32) (x3 : Int32) (x4 : Int32) : Mem → Option (Unit × Mem) := fun M =>
  if x2 = (0 : Int32) then (
    X6_doAct_36 t x1 x3 x4 M)
  else if x2 = (1 : Int32) then (
    s_call (X6_debt t x1 x3 x4 M) fun v67 M67 =>
    s_call (X6_pays t x1 x3 x4 M67) fun v75 M75 =>
    s_call (X6_setDebt t x1 x3 x4 (v67 - v75) M75) fun _ M79 =>
    some ((), M79))
  else if x2 = (2 : Int32) then (
    X6_doAct_36 t x1 x3 x4 M)
  else if x2 = (3 : Int32) then (
    s_call (X6_bothBow t x1 x3 x4 M) fun _ M90 =>
    some ((), M90))
  else if x2 = (4 : Int32) then (
    s_call (X6_dies t x1 x3 M) fun _ M99 =>
    some ((), M99))
  else (
    X6_doAct_108 t x1 x4 FU (0 : Int32) M)
def X6_beginBut_68 (t : Nat) (x1 : Int32) (x2 : Int32) : Nat → Int32 → Mem → Option (Unit × Mem)
  | 0, _, _ => none
  | n + 1, x3, M =>
    s_ald M (t + 7) 3 (0 : Int32) fun v74 =>
    if v74 ≤ x3 then (
      some ((), M))
    else (
      if x3 = x2 then (
        X6_beginBut_68 t x1 x2 n (x3 + (1 : Int32)) M)
      else (
        s_ald M (t + 8) 120 x3 fun v90 =>
        s_ald M (t + 9) 120 x3 fun v96 =>
        s_ald M (t + 10) 120 x3 fun v102 =>
        s_call (X6_canDo t x1 v90 v96 v102 M) fun v103 M103 =>
        if v103 = 0 then (
          X6_beginBut_68 t x1 x2 n (x3 + (1 : Int32)) M103)
        else (
          s_ald M103 (t + 8) 120 x3 fun v116 =>
          s_ald M103 (t + 9) 120 x3 fun v122 =>
          s_ald M103 (t + 10) 120 x3 fun v128 =>
          s_call (X6_doAct t x1 v116 v122 v128 M103) fun _ M129 =>
          X6_beginBut_68 t x1 x2 n (x3 + (1 : Int32)) M129)))
def X6_beginBut_2 (t : Nat) (x1 : Int32) (x2 : Int32) : Nat → Int32 → Mem → Option (Unit × Mem)
  | 0, _, _ => none
  | n + 1, x3, M =>
    if (64 : Int32) ≤ x3 then (
      s_ald M (t + 2) 2 (0 : Int32) fun v42 =>
      s_ast M (t + 14) 3 x1 (((1 : Int32) <<< (v42 &&& 31)) - (1 : Int32)) fun M46 =>
      s_ast M46 (t + 15) 3 x1 (0 : Int32) fun M53 =>
      s_ald M53 (t + 2) 2 (0 : Int32) fun v64 =>
      s_ast M53 (t + 16) 3 x1 v64 fun M65 =>
      X6_beginBut_68 t x1 x2 FU (0 : Int32) M65)
    else (
      s_ald M (t + 5) 128 x3 fun v23 =>
      s_ast M (t + 13) 192 (((64 : Int32) * x1) + x3) v23 fun M24 =>
      X6_beginBut_2 t x1 x2 n (x3 + (1 : Int32)) M24)
def X6_beginBut (t : Nat) (x1 : Int32) (x2 : Int32) : Mem → Option (Unit × Mem) := fun M =>
  X6_beginBut_2 t x1 x2 FU (0 : Int32) M
def X6_begin (t : Nat) : Mem → Option (Unit × Mem) := fun M =>
  s_call (X6_beginBut t (0 : Int32) (-4 : Int32) M) fun _ M4 =>
  some ((), M4)
def X6_lay_91 (t : Nat) : Nat → Int32 → Mem → Option (Int32 × Mem)
  | 0, _, _ => none
  | n + 1, x1, M =>
    if (64 : Int32) ≤ x1 then (
      s_ast M (t + 7) 3 (0 : Int32) (0 : Int32) fun M124 =>
      s_put M124 t 11 (0 : Int32) fun M127 =>
      s_put M127 t 12 (0 : Int32) fun M132 =>
      s_call (X6_begin t M132) fun _ M136 =>
      s_ald M136 (t + 2) 2 (0 : Int32) fun v144 =>
      some (v144, M136))
    else (
      s_ald M (t + 5) 128 ((64 : Int32) + x1) fun v110 =>
      s_ast M (t + 5) 128 x1 v110 fun M111 =>
      X6_lay_91 t n (x1 + (1 : Int32)) M111)
def X6_lay_47 (t : Nat) : Nat → Int32 → Mem → Option (Int32 × Mem)
  | 0, _, _ => none
  | n + 1, x1, M =>
    if (8 : Int32) ≤ x1 then (
      X6_lay_91 t FU (0 : Int32) M)
    else (
      s_ald M (t + 3) 16 ((8 : Int32) + x1) fun v66 =>
      s_ast M (t + 3) 16 x1 v66 fun M67 =>
      s_ald M67 (t + 4) 16 ((8 : Int32) + x1) fun v81 =>
      s_ast M67 (t + 4) 16 x1 v81 fun M82 =>
      X6_lay_47 t n (x1 + (1 : Int32)) M82)
def X6_lay (t : Nat) : Mem → Option (Int32 × Mem) := fun M =>
  s_call (X6_readAll t M) fun v1 M1 =>
  if ¬ v1 = (-4 : Int32) then (
    some ((-2 : Int32), M1))
  else (
    s_ald M1 (t + 2) 2 (1 : Int32) fun v14 =>
    if ¬ v14 = 0 then (
      s_ald M1 (t + 2) 2 (1 : Int32) fun v31 =>
      s_ast M1 (t + 2) 2 (0 : Int32) v31 fun M32 =>
      s_ald M32 (t + 6) 2 (1 : Int32) fun v43 =>
      s_ast M32 (t + 6) 2 (0 : Int32) v43 fun M44 =>
      X6_lay_47 t FU (0 : Int32) M44)
    else (
      some ((-2 : Int32), M1)))
def X6_isPerson (t : Nat) (x1 : Int32) : Mem → Option (Int32 × Mem) := fun M =>
  s_ald M (t + 2) 2 (0 : Int32) fun v8 =>
  s_call (X6_in ((x1).toInt64) (0 : Int64) (((v8 - (1 : Int32))).toInt64) M) fun v12 M12 =>
  s_retz v12 M12
def X6_areTwo (t : Nat) (x1 : Int32) (x2 : Int32) : Mem → Option (Int32 × Mem) := fun M =>
  s_call (X6_isPerson t x1 M) fun v2 M2 =>
  if v2 = 0 then (
    s_retz (0 : Int32) M2)
  else (
    s_call (X6_isPerson t x2 M2) fun v10 M10 =>
    if v10 = 0 then (
      s_retz (0 : Int32) M10)
    else (
      if x1 = x2 then (
        s_retz (0 : Int32) M10)
      else (
        s_retz (1 : Int32) M10)))
def X6_owedTo_5 (t : Nat) (x1 : Int32) (x2 : Int32) : Nat → Int32 → Int32 → Mem → Option (Int32 × Mem)
  | 0, _, _, _ => none
  | n + 1, x3, x4, M =>
    if (8 : Int32) ≤ x4 then (
      some (x3, M))
    else (
      s_call (X6_debt t x1 x4 x2 M) fun v18 M18 =>
      s_let (x3 + v18) fun x3_22 =>
      X6_owedTo_5 t x1 x2 n x3_22 (x4 + (1 : Int32)) M18)
def X6_owedTo (t : Nat) (x1 : Int32) (x2 : Int32) : Mem → Option (Int32 × Mem) := fun M =>
  X6_owedTo_5 t x1 x2 FU (0 : Int32) (0 : Int32) M
def X6_allOf_4 (t : Nat) (x1 : Int32) : Nat → Int32 → Int32 → Mem → Option (Int32 × Mem)
  | 0, _, _, _ => none
  | n + 1, x2, x3, M =>
    if (8 : Int32) ≤ x3 then (
      some (x2, M))
    else (
      s_call (X6_debtsOf t x1 x3 M) fun v14 M14 =>
      s_let (x2 + v14) fun x2_18 =>
      X6_allOf_4 t x1 n x2_18 (x3 + (1 : Int32)) M14)
def X6_allOf (t : Nat) (x1 : Int32) : Mem → Option (Int32 × Mem) := fun M =>
  X6_allOf_4 t x1 FU (0 : Int32) (0 : Int32) M
def X6_maySpeak (t : Nat) (x1 : Int32) (x2 : Int32) (x3 : Int32) : Mem → Option (Int32 × Mem) := fun M =>
  if x2 = x3 then (
    s_retz (0 : Int32) M)
  else (
    s_call (X6_isAlive t x1 x2 M) fun v8 M8 =>
    if v8 = 0 then (
      s_retz (0 : Int32) M8)
    else (
      s_call (X6_isAlive t x1 x3 M8) fun v17 M17 =>
      if v17 = 0 then (
        s_retz (0 : Int32) M17)
      else (
        s_call (X6_debt t x1 x2 x3 M17) fun v27 M27 =>
        if ¬ v27 = 0 then (
          s_retz (0 : Int32) M27)
        else (
          s_call (X6_debt t x1 x3 x2 M27) fun v37 M37 =>
          if ¬ v37 = 0 then (
            s_retz (0 : Int32) M37)
          else (
            s_retz (1 : Int32) M37)))))
def X6_copy_2 (t : Nat) (x1 : Int32) (x2 : Int32) : Nat → Int32 → Mem → Option (Unit × Mem)
  | 0, _, _ => none
  | n + 1, x3, M =>
    if (64 : Int32) ≤ x3 then (
      s_ald M (t + 14) 3 x1 fun v46 =>
      s_ast M (t + 14) 3 x2 v46 fun M47 =>
      s_ald M47 (t + 15) 3 x1 fun v58 =>
      s_ast M47 (t + 15) 3 x2 v58 fun M59 =>
      s_ald M59 (t + 16) 3 x1 fun v70 =>
      s_ast M59 (t + 16) 3 x2 v70 fun M71 =>
      some ((), M71))
    else (
      s_ald M (t + 13) 192 (((64 : Int32) * x1) + x3) fun v28 =>
      s_ast M (t + 13) 192 (((64 : Int32) * x2) + x3) v28 fun M29 =>
      X6_copy_2 t x1 x2 n (x3 + (1 : Int32)) M29)
def X6_copy (t : Nat) (x1 : Int32) (x2 : Int32) : Mem → Option (Unit × Mem) := fun M =>
  X6_copy_2 t x1 x2 FU (0 : Int32) M
def X6_person (t : Nat) (x1 : Int32) (x2 : Int32) : Mem → Option (Int32 × Mem) := fun M =>
  s_call (X6_isPerson t x1 M) fun v2 M2 =>
  if v2 = 0 then (
    some ((-1 : Int32), M2))
  else (
    s_call (X6_in ((x2).toInt64) (0 : Int64) (5 : Int64) M2) fun v14 M14 =>
    if ¬ v14 = 0 then (
      if x2 = (0 : Int32) then (
        s_ald M14 (t + 3) 16 x1 fun v61 =>
        some (v61, M14))
      else if x2 = (1 : Int32) then (
        s_ald M14 (t + 4) 16 x1 fun v68 =>
        some (v68, M14))
      else if x2 = (2 : Int32) then (
        s_call (X6_isAlive t (0 : Int32) x1 M14) fun v73 M73 =>
        if v73 = 0 then (
          some ((0 : Int32), M73))
        else (
          some ((1 : Int32), M73)))
      else if x2 = (3 : Int32) then (
        s_call (X6_debtsOf t (0 : Int32) x1 M14) fun v88 M88 =>
        some (v88, M88))
      else if x2 = (4 : Int32) then (
        s_call (X6_owedTo t (0 : Int32) x1 M14) fun v95 M95 =>
        some (v95, M95))
      else (
        s_call (X6_takes t (0 : Int32) x1 M14) fun v102 M102 =>
        if v102 = 0 then (
          some ((0 : Int32), M102))
        else (
          some ((1 : Int32), M102))))
    else (
      some ((-1 : Int32), M14)))
def X6_owes (t : Nat) (x1 : Int32) (x2 : Int32) : Mem → Option (Int32 × Mem) := fun M =>
  s_call (X6_areTwo t x1 x2 M) fun v3 M3 =>
  if v3 = 0 then (
    some ((-1 : Int32), M3))
  else (
    s_call (X6_debt t (0 : Int32) x1 x2 M3) fun v13 M13 =>
    some (v13, M13))
def X6_speak (t : Nat) (x1 : Int32) (x2 : Int32) : Mem → Option (Int32 × Mem) := fun M =>
  s_call (X6_areTwo t x1 x2 M) fun v3 M3 =>
  if ¬ v3 = 0 then (
    s_call (X6_maySpeak t (0 : Int32) x1 x2 M3) fun v17 M17 =>
    if v17 = 0 then (
      some ((0 : Int32), M17))
    else (
      some ((1 : Int32), M17)))
  else (
    some ((-1 : Int32), M3))
def X6_act (t : Nat) (x1 : Int32) (x2 : Int32) (x3 : Int32) : Mem → Option (Int32 × Mem) := fun M =>
  s_call (X6_canDo t (0 : Int32) x1 x2 x3 M) fun v5 M5 =>
  if ¬ v5 = 0 then (
    s_ald M5 (t + 7) 3 (0 : Int32) fun v19 =>
    if ¬ v19 = (40 : Int32) then (
      s_ald M5 (t + 7) 3 (0 : Int32) fun v37 =>
      s_ast M5 (t + 8) 120 v37 x1 fun M39 =>
      s_ald M39 (t + 7) 3 (0 : Int32) fun v49 =>
      s_ast M39 (t + 9) 120 v49 x2 fun M51 =>
      s_ald M51 (t + 7) 3 (0 : Int32) fun v61 =>
      s_ast M51 (t + 10) 120 v61 x3 fun M63 =>
      s_ald M63 (t + 7) 3 (0 : Int32) fun v70 =>
      s_ast M63 (t + 7) 3 (0 : Int32) (v70 + (1 : Int32)) fun M73 =>
      s_call (X6_doAct t (0 : Int32) x1 x2 x3 M73) fun _ M79 =>
      some ((0 : Int32), M79))
    else (
      some ((-3 : Int32), M5)))
  else (
    some ((-2 : Int32), M5))
def X6_actOfTwo_20 (t : Nat) (x1 : Int32) (x2 : Int32) (x3 : Int32) : Int32 → Mem → Option (Int32 × Mem) := fun y0 M =>
  if 0 ≤ y0 then (
    if ¬ x1 = (3 : Int32) then (
      s_call (X6_debt t (0 : Int32) x2 x3 M) fun v59 M59 =>
      some (v59, M59))
    else (
      s_call (X6_debt t (0 : Int32) x2 x3 M) fun v41 M41 =>
      s_call (X6_debt t (0 : Int32) x3 x2 M41) fun v48 M48 =>
      some ((v41 + v48), M48)))
  else (
    some (y0, M))
def X6_actOfTwo (t : Nat) (x1 : Int32) (x2 : Int32) (x3 : Int32) : Mem → Option (Int32 × Mem) := fun M =>
  s_call (X6_areTwo t x2 x3 M) fun v3 M3 =>
  if v3 = 0 then (
    X6_actOfTwo_20 t x1 x2 x3 (-1 : Int32) M3)
  else (
    s_call (X6_act t x1 x2 x3 M3) fun v13 M13 =>
    X6_actOfTwo_20 t x1 x2 x3 v13 M13)
def X6_wrong (t : Nat) (x1 : Int32) (x2 : Int32) : Mem → Option (Int32 × Mem) := fun M =>
  s_call (X6_actOfTwo t (0 : Int32) x1 x2 M) fun v4 M4 =>
  some (v4, M4)
def X6_bow (t : Nat) (x1 : Int32) (x2 : Int32) : Mem → Option (Int32 × Mem) := fun M =>
  s_call (X6_actOfTwo t (1 : Int32) x1 x2 M) fun v4 M4 =>
  some (v4, M4)
def X6_refuse (t : Nat) (x1 : Int32) (x2 : Int32) : Mem → Option (Int32 × Mem) := fun M =>
  s_call (X6_actOfTwo t (2 : Int32) x1 x2 M) fun v4 M4 =>
  some (v4, M4)
def X6_atOnce (t : Nat) (x1 : Int32) (x2 : Int32) : Mem → Option (Int32 × Mem) := fun M =>
  s_call (X6_actOfTwo t (3 : Int32) x1 x2 M) fun v4 M4 =>
  some (v4, M4)
def X6_bits_4  : Nat → Int32 → Int32 → Mem → Option (Int32 × Mem)
  | 0, _, _, _ => none
  | n + 1, x1, x2, M =>
    if x2 = 0 then (
      some (x1, M))
    else (
      s_let (x2 &&& (x2 - (1 : Int32))) fun x2_16 =>
      X6_bits_4 n (x1 + (1 : Int32)) x2_16 M)
def X6_bits (x0 : Int32) : Mem → Option (Int32 × Mem) := fun M =>
  X6_bits_4 FU (0 : Int32) x0 M
def X6_die (t : Nat) (x1 : Int32) : Mem → Option (Int32 × Mem) := fun M =>
  s_call (X6_isPerson t x1 M) fun v2 M2 =>
  if v2 = 0 then (
    if 0 ≤ (-1 : Int32) then (
      s_ald M2 (t + 14) 3 (0 : Int32) fun v33 =>
      s_call (X6_bits v33 M2) fun v34 M34 =>
      some (v34, M34))
    else (
      some ((-1 : Int32), M2)))
  else (
    s_call (X6_act t (4 : Int32) x1 (0 : Int32) M2) fun v12 M12 =>
    if 0 ≤ v12 then (
      s_ald M12 (t + 14) 3 (0 : Int32) fun v33 =>
      s_call (X6_bits v33 M12) fun v34 M34 =>
      some (v34, M34))
    else (
      some (v12, M12)))
def X6_days (t : Nat) (x1 : Int32) : Mem → Option (Int32 × Mem) := fun M =>
  s_call (X6_in ((x1).toInt64) (1 : Int64) (9 : Int64) M) fun v6 M6 =>
  if v6 = 0 then (
    if 0 ≤ (-1 : Int32) then (
      s_ald M6 (t + 15) 3 (0 : Int32) fun v37 =>
      some (v37, M6))
    else (
      some ((-1 : Int32), M6)))
  else (
    s_call (X6_act t (5 : Int32) (0 : Int32) x1 M6) fun v16 M16 =>
    if 0 ≤ v16 then (
      s_ald M16 (t + 15) 3 (0 : Int32) fun v37 =>
      some (v37, M16))
    else (
      some (v16, M16)))
def X6_undo (t : Nat) : Mem → Option (Int32 × Mem) := fun M =>
  s_ald M (t + 7) 3 (0 : Int32) fun v5 =>
  if ¬ v5 = 0 then (
    s_ald M (t + 7) 3 (0 : Int32) fun v18 =>
    s_ast M (t + 7) 3 (0 : Int32) (v18 - (1 : Int32)) fun M21 =>
    s_call (X6_begin t M21) fun _ M23 =>
    s_ald M23 (t + 7) 3 (0 : Int32) fun v31 =>
    some (v31, M23))
  else (
    some ((-2 : Int32), M))
def X6_firstBow_2 (t : Nat) (x1 : Int32) : Nat → Int32 → Mem → Option (Int32 × Mem)
  | 0, _, _ => none
  | n + 1, x2, M =>
    if (64 : Int32) ≤ x2 then (
      some ((-4 : Int32), M))
    else (
      s_div x2 (8 : Int32) fun v13 =>
      s_rem x2 (8 : Int32) fun v17 =>
      s_call (X6_canBow t x1 v13 v17 M) fun v18 M18 =>
      if v18 = 0 then (
        X6_firstBow_2 t x1 n (x2 + (1 : Int32)) M18)
      else (
        s_div x2 (8 : Int32) fun v29 =>
        s_rem x2 (8 : Int32) fun v33 =>
        s_call (X6_pays t x1 v29 v33 M18) fun v34 M34 =>
        if v34 ≤ 0 then (
          X6_firstBow_2 t x1 n (x2 + (1 : Int32)) M34)
        else (
          some (x2, M34))))
def X6_firstBow (t : Nat) (x1 : Int32) : Mem → Option (Int32 × Mem) := fun M =>
  X6_firstBow_2 t x1 FU (0 : Int32) M
def X6_firstAtOnce_2 (t : Nat) (x1 : Int32) : Nat → Int32 → Mem → Option (Int32 × Mem)
  | 0, _, _ => none
  | n + 1, x2, M =>
    if (64 : Int32) ≤ x2 then (
      some ((-4 : Int32), M))
    else (
      s_div x2 (8 : Int32) fun v11 =>
      s_rem x2 (8 : Int32) fun v16 =>
      if v16 ≤ v11 then (
        X6_firstAtOnce_2 t x1 n (x2 + (1 : Int32)) M)
      else (
        s_call (X6_canAtOnce t x1 v11 v16 M) fun v30 M30 =>
        if v30 = 0 then (
          X6_firstAtOnce_2 t x1 n (x2 + (1 : Int32)) M30)
        else (
          s_call (X6_pays t x1 v11 v16 M30) fun v41 M41 =>
          s_call (X6_pays t x1 v16 v11 M41) fun v49 M49 =>
          if (v41 + v49) ≤ 0 then (
            X6_firstAtOnce_2 t x1 n (x2 + (1 : Int32)) M49)
          else (
            some (x2, M49)))))
def X6_firstAtOnce (t : Nat) (x1 : Int32) : Mem → Option (Int32 × Mem) := fun M =>
  X6_firstAtOnce_2 t x1 FU (0 : Int32) M
def X6_makePeace_91 (t : Nat) (x1 : Int32) (x2 : Int32) (k4 : Int32 → Int32 → Mem → Option (Int32 × Mem)) : Int32 → Mem → Option (Int32 × Mem) := fun y0 M =>
  if y0 = 0 then (
    s_let (x2 + (0 : Int32)) fun x2_103 =>
    k4 x2_103 y0 M)
  else (
    s_let (x2 + (1 : Int32)) fun x2_103 =>
    k4 x2_103 y0 M)
def X6_makePeace_30 (t : Nat) (x1 : Int32) (x2 : Int32) (x4 : Int32) (k4 : Int32 → Int32 → Mem → Option (Int32 × Mem)) : Int32 → Mem → Option (Int32 × Mem) := fun y0 M =>
  if x4 < 0 then (
    if y0 < 0 then (
      if 0 ≤ x4 then (
        X6_makePeace_91 t x1 x2 k4 (1 : Int32) M)
      else (
        if y0 < 0 then (
          X6_makePeace_91 t x1 x2 k4 (0 : Int32) M)
        else (
          X6_makePeace_91 t x1 x2 k4 (1 : Int32) M)))
    else (
      s_div y0 (8 : Int32) fun v67 =>
      s_rem y0 (8 : Int32) fun v72 =>
      s_call (X6_bothBow t x1 v67 v72 M) fun _ M73 =>
      if 0 ≤ x4 then (
        X6_makePeace_91 t x1 x2 k4 (1 : Int32) M73)
      else (
        if y0 < 0 then (
          X6_makePeace_91 t x1 x2 k4 (0 : Int32) M73)
        else (
          X6_makePeace_91 t x1 x2 k4 (1 : Int32) M73))))
  else (
    s_div x4 (8 : Int32) fun v44 =>
    s_rem x4 (8 : Int32) fun v49 =>
    s_call (X6_doAct t x1 (1 : Int32) v44 v49 M) fun _ M50 =>
    if 0 ≤ x4 then (
      X6_makePeace_91 t x1 x2 k4 (1 : Int32) M50)
    else (
      if y0 < 0 then (
        X6_makePeace_91 t x1 x2 k4 (0 : Int32) M50)
      else (
        X6_makePeace_91 t x1 x2 k4 (1 : Int32) M50)))
def X6_makePeace_4 (t : Nat) (x1 : Int32) : Nat → Int32 → Int32 → Mem → Option (Int32 × Mem)
  | 0, _, _, _ => none
  | n + 1, x2, x3, M =>
    if x3 = 0 then (
      some (x2, M))
    else (
      s_call (X6_firstBow t x1 M) fun v10 M10 =>
      if 0 ≤ v10 then (
        X6_makePeace_30 t x1 x2 v10 (X6_makePeace_4 t x1 n) (-4 : Int32) M10)
      else (
        s_call (X6_firstAtOnce t x1 M10) fun v22 M22 =>
        X6_makePeace_30 t x1 x2 v10 (X6_makePeace_4 t x1 n) v22 M22))
def X6_makePeace (t : Nat) (x1 : Int32) : Mem → Option (Int32 × Mem) := fun M =>
  X6_makePeace_4 t x1 FU (0 : Int32) (1 : Int32) M
def X6_owedBehind (t : Nat) (x1 : Int32) : Mem → Option (Int32 × Mem) := fun M =>
  s_call (X6_copy t x1 (2 : Int32) M) fun _ M3 =>
  s_call (X6_makePeace t (2 : Int32) M3) fun v8 M8 =>
  s_call (X6_allOf t (2 : Int32) M8) fun v14 M14 =>
  some (v14, M14)
def X6_peace_31 (t : Nat) (x1 : Int32) (x2 : Int32) : Nat → Int32 → Int32 → Mem → Option (Int32 × Mem)
  | 0, _, _, _ => none
  | n + 1, x3, x4, M =>
    if (8 : Int32) ≤ x4 then (
      if ¬ x1 = 0 then (
        if ¬ x1 = (1 : Int32) then (
          some (x3, M))
        else (
          s_call (X6_allOf t (1 : Int32) M) fun v88 M88 =>
          some (v88, M88)))
      else (
        some (x2, M)))
    else (
      s_call (X6_debtsOf t (1 : Int32) x4 M) fun v43 M43 =>
      s_call (X6_owedTo t (1 : Int32) x4 M43) fun v50 M50 =>
      if (v43 + v50) ≤ 0 then (
        s_let (x3 ||| (0 : Int32)) fun x3_66 =>
        X6_peace_31 t x1 x2 n x3_66 (x4 + (1 : Int32)) M50)
      else (
        s_let (x3 ||| ((1 : Int32) <<< (x4 &&& 31))) fun x3_66 =>
        X6_peace_31 t x1 x2 n x3_66 (x4 + (1 : Int32)) M50))
def X6_peace (t : Nat) (x1 : Int32) : Mem → Option (Int32 × Mem) := fun M =>
  s_call (X6_in ((x1).toInt64) (0 : Int64) (2 : Int64) M) fun v6 M6 =>
  if ¬ v6 = 0 then (
    s_call (X6_copy t (0 : Int32) (1 : Int32) M6) fun _ M17 =>
    s_call (X6_makePeace t (1 : Int32) M17) fun v22 M22 =>
    X6_peace_31 t x1 v22 FU (0 : Int32) (0 : Int32) M22)
  else (
    some ((-1 : Int32), M6))
def X6_layFar_41 (t : Nat) (x2 : Int32) (k33 : Int32 → Mem → Option (Unit × Mem)) : Nat → Int32 → Mem → Option (Unit × Mem)
  | 0, _, _ => none
  | n + 1, x3, M =>
    if (64 : Int32) ≤ x3 then (
      k33 (x2 + (1 : Int32)) M)
    else (
      s_rem x3 (8 : Int32) fun v54 =>
      s_ald M (t + 17) 8 v54 fun v55 =>
      s_let (v55 + (1 : Int32)) fun x4_58 =>
      s_div x3 (8 : Int32) fun v67 =>
      s_ald M (t + 13) 192 x3 fun v73 =>
      if v73 ≤ 0 then (
        s_div x3 (8 : Int32) fun v103 =>
        s_ald M (t + 17) 8 v103 fun v104 =>
        s_ast M (t + 17) 8 v67 v104 fun M105 =>
        X6_layFar_41 t x2 k33 n (x3 + (1 : Int32)) M105)
      else (
        s_div x3 (8 : Int32) fun v86 =>
        s_ald M (t + 17) 8 v86 fun v87 =>
        if v87 ≤ x4_58 then (
          s_div x3 (8 : Int32) fun v103 =>
          s_ald M (t + 17) 8 v103 fun v104 =>
          s_ast M (t + 17) 8 v67 v104 fun M105 =>
          X6_layFar_41 t x2 k33 n (x3 + (1 : Int32)) M105)
        else (
          s_ast M (t + 17) 8 v67 x4_58 fun M105 =>
          X6_layFar_41 t x2 k33 n (x3 + (1 : Int32)) M105)))
def X6_layFar_33 (t : Nat) : Nat → Int32 → Mem → Option (Unit × Mem)
  | 0, _, _ => none
  | n + 1, x2, M =>
    if (8 : Int32) ≤ x2 then (
      some ((), M))
    else (
      X6_layFar_41 t x2 (X6_layFar_33 t n) FU (0 : Int32) M)
def X6_layFar_2 (t : Nat) (x1 : Int32) : Nat → Int32 → Mem → Option (Unit × Mem)
  | 0, _, _ => none
  | n + 1, x2, M =>
    if (8 : Int32) ≤ x2 then (
      X6_layFar_33 t FU (0 : Int32) M)
    else (
      if ¬ x2 = x1 then (
        s_ast M (t + 17) 8 x2 (99 : Int32) fun M24 =>
        X6_layFar_2 t x1 n (x2 + (1 : Int32)) M24)
      else (
        s_ast M (t + 17) 8 x2 (0 : Int32) fun M24 =>
        X6_layFar_2 t x1 n (x2 + (1 : Int32)) M24))
def X6_layFar (t : Nat) (x1 : Int32) : Mem → Option (Unit × Mem) := fun M =>
  X6_layFar_2 t x1 FU (0 : Int32) M
def X6_ring_35 (t : Nat) (x1 : Int32) (x2 : Int32) : Nat → Int32 → Int32 → Int32 → Mem → Option (Int32 × Mem)
  | 0, _, _, _, _ => none
  | n + 1, x3, x4, x5, M =>
    if (8 : Int32) ≤ x5 then (
      if x4 < 0 then (
        some (x4, M))
      else (
        if ¬ x2 = (1 : Int32) then (
          some (x3, M))
        else (
          some (x4, M))))
    else (
      s_call (X6_debt t (0 : Int32) x1 x5 M) fun v47 M47 =>
      if v47 ≤ 0 then (
        X6_ring_35 t x1 x2 n x3 x4 (x5 + (1 : Int32)) M47)
      else (
        s_ald M47 (t + 17) 8 x5 fun v59 =>
        if x3 ≤ (v59 + (1 : Int32)) then (
          X6_ring_35 t x1 x2 n x3 x4 (x5 + (1 : Int32)) M47)
        else (
          s_ald M47 (t + 17) 8 x5 fun v72 =>
          s_let (v72 + (1 : Int32)) fun x3_75 =>
          X6_ring_35 t x1 x2 n x3_75 x5 (x5 + (1 : Int32)) M47)))
def X6_ring (t : Nat) (x1 : Int32) (x2 : Int32) : Mem → Option (Int32 × Mem) := fun M =>
  s_call (X6_isPerson t x1 M) fun v2 M2 =>
  if v2 = 0 then (
    some ((-1 : Int32), M2))
  else (
    s_call (X6_in ((x2).toInt64) (0 : Int64) (1 : Int64) M2) fun v12 M12 =>
    if ¬ v12 = 0 then (
      s_call (X6_layFar t x1 M12) fun _ M22 =>
      X6_ring_35 t x1 x2 FU (99 : Int32) (-4 : Int32) (0 : Int32) M22)
    else (
      some ((-1 : Int32), M12)))
def X6_forgiven_20 (t : Nat) (x1 : Int32) : Nat → Int32 → Int32 → Int32 → Mem → Option (Int32 × Mem)
  | 0, _, _, _, _ => none
  | n + 1, x2, x3, x4, M =>
    if (64 : Int32) ≤ x4 then (
      if x2 < 0 then (
        some (x2, M))
      else (
        if ¬ x1 = 0 then (
          some (x3, M))
        else (
          some (x2, M))))
    else (
      s_ald M (t + 13) 192 x4 fun v33 =>
      if v33 ≤ 0 then (
        X6_forgiven_20 t x1 n x2 x3 (x4 + (1 : Int32)) M)
      else (
        s_call (X6_copy t (0 : Int32) (1 : Int32) M) fun _ M40 =>
        s_ast M40 (t + 13) 192 ((64 : Int32) + x4) (0 : Int32) fun M53 =>
        s_call (X6_owedBehind t (1 : Int32) M53) fun v56 M56 =>
        if x2 < 0 then (
          X6_forgiven_20 t x1 n x4 v56 (x4 + (1 : Int32)) M56)
        else (
          if x3 ≤ v56 then (
            X6_forgiven_20 t x1 n x2 x3 (x4 + (1 : Int32)) M56)
          else (
            X6_forgiven_20 t x1 n x4 v56 (x4 + (1 : Int32)) M56))))
def X6_forgiven (t : Nat) (x1 : Int32) : Mem → Option (Int32 × Mem) := fun M =>
  s_call (X6_in ((x1).toInt64) (0 : Int64) (1 : Int64) M) fun v4 M4 =>
  if ¬ v4 = 0 then (
    X6_forgiven_20 t x1 FU (-4 : Int32) (0 : Int32) (0 : Int32) M4)
  else (
    some ((-1 : Int32), M4))
def X6_mustNot_33 (t : Nat) (x1 : Int32) (x2 : Int32) : Nat → Int32 → Int32 → Mem → Option (Int32 × Mem)
  | 0, _, _, _ => none
  | n + 1, x3, x4, M =>
    s_ald M (t + 2) 2 (0 : Int32) fun v40 =>
    if v40 ≤ x4 then (
      some (x3, M))
    else (
      if x1 = x4 then (
        X6_mustNot_33 t x1 x2 n x3 (x4 + (1 : Int32)) M)
      else (
        s_call (X6_canDo t (0 : Int32) (0 : Int32) x1 x4 M) fun v56 M56 =>
        if v56 = 0 then (
          X6_mustNot_33 t x1 x2 n x3 (x4 + (1 : Int32)) M56)
        else (
          s_call (X6_copy t (0 : Int32) (1 : Int32) M56) fun _ M65 =>
          s_call (X6_doAct t (1 : Int32) (0 : Int32) x1 x4 M65) fun _ M74 =>
          s_call (X6_owedBehind t (1 : Int32) M74) fun v80 M80 =>
          if v80 ≤ x2 then (
            s_let (x3 ||| (0 : Int32)) fun x3_96 =>
            X6_mustNot_33 t x1 x2 n x3_96 (x4 + (1 : Int32)) M80)
          else (
            s_let (x3 ||| ((1 : Int32) <<< (x4 &&& 31))) fun x3_96 =>
            X6_mustNot_33 t x1 x2 n x3_96 (x4 + (1 : Int32)) M80))))
def X6_mustNot (t : Nat) (x1 : Int32) : Mem → Option (Int32 × Mem) := fun M =>
  s_call (X6_isPerson t x1 M) fun v2 M2 =>
  if ¬ v2 = 0 then (
    s_call (X6_isAlive t (0 : Int32) x1 M2) fun v13 M13 =>
    if ¬ v13 = 0 then (
      s_call (X6_owedBehind t (0 : Int32) M13) fun v24 M24 =>
      X6_mustNot_33 t x1 v24 FU (0 : Int32) (0 : Int32) M24)
    else (
      some ((-2 : Int32), M13)))
  else (
    some ((-1 : Int32), M2))
def X6_began_8 (t : Nat) (x1 : Int32) : Nat → Int32 → Mem → Option (Int32 × Mem)
  | 0, _, _ => none
  | n + 1, x2, M =>
    s_ald M (t + 7) 3 (0 : Int32) fun v14 =>
    if v14 ≤ x2 then (
      some ((-4 : Int32), M))
    else (
      s_call (X6_beginBut t (1 : Int32) x2 M) fun _ M21 =>
      s_call (X6_owedBehind t (1 : Int32) M21) fun v26 M26 =>
      if x1 ≤ v26 then (
        X6_began_8 t x1 n (x2 + (1 : Int32)) M26)
      else (
        some (x2, M26)))
def X6_began (t : Nat) : Mem → Option (Int32 × Mem) := fun M =>
  s_call (X6_owedBehind t (0 : Int32) M) fun v2 M2 =>
  X6_began_8 t v2 FU (0 : Int32) M2
def X6_word_62 (t : Nat) (x2 : Int32) (x3 : Int32) (x4 : Int32) (k38 : Int32 → Int32 → Mem → Option (Int32 × Mem)) : Nat → Int32 → Int32 → Mem → Option (Int32 × Mem)
  | 0, _, _, _ => none
  | n + 1, x5, x6, M =>
    if (64 : Int32) ≤ x6 then (
      k38 x5 (x4 + (1 : Int32)) M)
    else (
      s_div x6 (8 : Int32) fun v76 =>
      s_call (X6_has x3 v76 M) fun v77 M77 =>
      if v77 = 0 then (
        s_let (x5 ||| (0 : Int32)) fun x5_113 =>
        X6_word_62 t x2 x3 x4 k38 n x5_113 (x6 + (1 : Int32)) M77)
      else (
        s_div x6 (8 : Int32) fun v89 =>
        s_rem x6 (8 : Int32) fun v94 =>
        s_call (X6_maySpeak t (0 : Int32) v89 v94 M77) fun v95 M95 =>
        if v95 = 0 then (
          s_let (x5 ||| (0 : Int32)) fun x5_113 =>
          X6_word_62 t x2 x3 x4 k38 n x5_113 (x6 + (1 : Int32)) M95)
        else (
          s_rem x6 (8 : Int32) fun v106 =>
          s_let (x5 ||| ((1 : Int32) <<< (v106 &&& 31))) fun x5_113 =>
          X6_word_62 t x2 x3 x4 k38 n x5_113 (x6 + (1 : Int32)) M95)))
def X6_word_38 (t : Nat) (x2 : Int32) : Nat → Int32 → Int32 → Mem → Option (Int32 × Mem)
  | 0, _, _, _ => none
  | n + 1, x3, x4, M =>
    if (8 : Int32) ≤ x4 then (
      some ((-4 : Int32), M))
    else (
      s_call (X6_has x3 x2 M) fun v47 M47 =>
      if v47 = 0 then (
        X6_word_62 t x2 x3 x4 (X6_word_38 t x2 n) FU x3 (0 : Int32) M47)
      else (
        some (x4, M47)))
def X6_word (t : Nat) (x1 : Int32) (x2 : Int32) : Mem → Option (Int32 × Mem) := fun M =>
  s_call (X6_isPerson t x1 M) fun v2 M2 =>
  if v2 = 0 then (
    some ((-1 : Int32), M2))
  else (
    s_call (X6_isPerson t x2 M2) fun v10 M10 =>
    if ¬ v10 = 0 then (
      s_call (X6_isAlive t (0 : Int32) x1 M10) fun v21 M21 =>
      if v21 = 0 then (
        X6_word_38 t x2 FU (0 : Int32) (0 : Int32) M21)
      else (
        s_let ((1 : Int32) <<< (x1 &&& 31)) fun x3_34 =>
        X6_word_38 t x2 FU x3_34 (0 : Int32) M21))
    else (
      some ((-1 : Int32), M10)))
def X6_mayAll_21 (t : Nat) (x1 : Int32) : Nat → Int32 → Int32 → Mem → Option (Int32 × Mem)
  | 0, _, _, _ => none
  | n + 1, x2, x3, M =>
    if (64 : Int32) ≤ x3 then (
      s_retz x2 M)
    else (
      if x2 = 0 then (
        X6_mayAll_21 t x1 n (0 : Int32) (x3 + (1 : Int32)) M)
      else (
        s_div x3 (8 : Int32) fun v34 =>
        s_rem x3 (8 : Int32) fun v38 =>
        if v38 ≤ v34 then (
          X6_mayAll_21 t x1 n (1 : Int32) (x3 + (1 : Int32)) M)
        else (
          s_div x3 (8 : Int32) fun v46 =>
          s_call (X6_has x1 v46 M) fun v47 M47 =>
          if v47 = 0 then (
            X6_mayAll_21 t x1 n (1 : Int32) (x3 + (1 : Int32)) M47)
          else (
            s_rem x3 (8 : Int32) fun v57 =>
            s_call (X6_has x1 v57 M47) fun v58 M58 =>
            if v58 = 0 then (
              X6_mayAll_21 t x1 n (1 : Int32) (x3 + (1 : Int32)) M58)
            else (
              s_div x3 (8 : Int32) fun v69 =>
              s_rem x3 (8 : Int32) fun v73 =>
              s_call (X6_maySpeak t (0 : Int32) v69 v73 M58) fun v74 M74 =>
              if v74 = 0 then (
                X6_mayAll_21 t x1 n (0 : Int32) (x3 + (1 : Int32)) M74)
              else (
                X6_mayAll_21 t x1 n (1 : Int32) (x3 + (1 : Int32)) M74))))))
def X6_mayAll (t : Nat) (x1 : Int32) : Mem → Option (Int32 × Mem) := fun M =>
  s_ald M (t + 14) 3 (0 : Int32) fun v6 =>
  if ¬ (x1 &&& (v6 ^^^ (-1 : Int32))) = 0 then (
    X6_mayAll_21 t x1 FU (0 : Int32) (0 : Int32) M)
  else (
    X6_mayAll_21 t x1 FU (1 : Int32) (0 : Int32) M)
def X6_vote_4 (t : Nat) : Nat → Int32 → Int32 → Mem → Option (Int32 × Mem)
  | 0, _, _, _ => none
  | n + 1, x1, x2, M =>
    s_ald M (t + 2) 2 (0 : Int32) fun v11 =>
    if ((1 : Int32) <<< (v11 &&& 31)) ≤ x2 then (
      some (x1, M))
    else (
      s_call (X6_bits x2 M) fun v17 M17 =>
      s_call (X6_bits x1 M17) fun v21 M21 =>
      if v17 ≤ v21 then (
        X6_vote_4 t n x1 (x2 + (1 : Int32)) M21)
      else (
        s_call (X6_mayAll t x2 M21) fun v29 M29 =>
        if v29 = 0 then (
          X6_vote_4 t n x1 (x2 + (1 : Int32)) M29)
        else (
          X6_vote_4 t n x2 (x2 + (1 : Int32)) M29)))
def X6_vote (t : Nat) : Mem → Option (Int32 × Mem) := fun M =>
  X6_vote_4 t FU (0 : Int32) (1 : Int32) M
def X6_deals_62 (t : Nat) (x1 : Int32) (x2 : Int32) (k2 : Int32 → Mem → Option (Int32 × Mem)) : Nat → Int32 → Int32 → Mem → Option (Int32 × Mem)
  | 0, _, _, _ => none
  | n + 1, x3, x4, M =>
    s_ald M (t + 2) 2 (0 : Int32) fun v69 =>
    if v69 ≤ x4 then (
      s_ast M (t + 18) 128 x1 x3 fun M141 =>
      k2 (x1 + (1 : Int32)) M141)
    else (
      s_call (X6_has x1 x4 M) fun v76 M76 =>
      if v76 = 0 then (
        X6_deals_62 t x1 x2 k2 n x3 (x4 + (1 : Int32)) M76)
      else (
        s_call (X6_maySpeak t (0 : Int32) x2 x4 M76) fun v87 M87 =>
        if v87 = 0 then (
          X6_deals_62 t x1 x2 k2 n x3 (x4 + (1 : Int32)) M87)
        else (
          s_ald M87 (t + 18) 128 ((x1 &&& (((1 : Int32) <<< (x2 &&& 31)) ^^^ (-1 : Int32))) &&& (((1 : Int32) <<< (x4 &&& 31)) ^^^ (-1 : Int32))) fun v112 =>
          s_let ((1 : Int32) + v112) fun x5_114 =>
          if x5_114 ≤ x3 then (
            X6_deals_62 t x1 x2 k2 n x3 (x4 + (1 : Int32)) M87)
          else (
            X6_deals_62 t x1 x2 k2 n x5_114 (x4 + (1 : Int32)) M87))))
def X6_deals_36 (t : Nat) (x1 : Int32) (x2 : Int32) (k2 : Int32 → Mem → Option (Int32 × Mem)) : Mem → Option (Int32 × Mem) := fun M =>
  if ¬ x1 = 0 then (
    s_ald M (t + 18) 128 (x1 &&& (((1 : Int32) <<< (x2 &&& 31)) ^^^ (-1 : Int32))) fun v55 =>
    s_let (x2 + (1 : Int32)) fun x4_60 =>
    X6_deals_62 t x1 x2 k2 FU v55 x4_60 M)
  else (
    s_let (x2 + (1 : Int32)) fun x4_60 =>
    X6_deals_62 t x1 x2 k2 FU (0 : Int32) x4_60 M)
def X6_deals_16 (t : Nat) (x1 : Int32) (k2 : Int32 → Mem → Option (Int32 × Mem)) : Nat → Int32 → Mem → Option (Int32 × Mem)
  | 0, _, _ => none
  | n + 1, x2, M =>
    if (7 : Int32) ≤ x2 then (
      X6_deals_36 t x1 x2 k2 M)
    else (
      s_call (X6_has x1 x2 M) fun v24 M24 =>
      if ¬ v24 = 0 then (
        X6_deals_36 t x1 x2 k2 M24)
      else (
        X6_deals_16 t x1 k2 n (x2 + (1 : Int32)) M24))
def X6_deals_2 (t : Nat) : Nat → Int32 → Mem → Option (Int32 × Mem)
  | 0, _, _ => none
  | n + 1, x1, M =>
    s_ald M (t + 2) 2 (0 : Int32) fun v9 =>
    if ((1 : Int32) <<< (v9 &&& 31)) ≤ x1 then (
      s_ald M (t + 2) 2 (0 : Int32) fun v158 =>
      s_ald M (t + 18) 128 (((1 : Int32) <<< (v158 &&& 31)) - (1 : Int32)) fun v162 =>
      some (v162, M))
    else (
      X6_deals_16 t x1 (X6_deals_2 t n) FU (0 : Int32) M)
def X6_deals (t : Nat) : Mem → Option (Int32 × Mem) := fun M =>
  X6_deals_2 t FU (0 : Int32) M
def X6_guests_37 (t : Nat) (x1 : Int32) (x2 : Int32) : Nat → Int32 → Int32 → Mem → Option (Int32 × Mem)
  | 0, _, _, _ => none
  | n + 1, x3, x4, M =>
    s_ald M (t + 2) 2 (0 : Int32) fun v44 =>
    if v44 ≤ x4 then (
      some (x3, M))
    else (
      s_call (X6_maySpeak t (0 : Int32) x1 x4 M) fun v54 M54 =>
      if v54 = 0 then (
        s_let (x3 ||| (0 : Int32)) fun x3_80 =>
        X6_guests_37 t x1 x2 n x3_80 (x4 + (1 : Int32)) M54)
      else (
        s_call (X6_maySpeak t (0 : Int32) x2 x4 M54) fun v65 M65 =>
        if v65 = 0 then (
          s_let (x3 ||| (0 : Int32)) fun x3_80 =>
          X6_guests_37 t x1 x2 n x3_80 (x4 + (1 : Int32)) M65)
        else (
          s_let (x3 ||| ((1 : Int32) <<< (x4 &&& 31))) fun x3_80 =>
          X6_guests_37 t x1 x2 n x3_80 (x4 + (1 : Int32)) M65)))
def X6_guests (t : Nat) (x1 : Int32) (x2 : Int32) : Mem → Option (Int32 × Mem) := fun M =>
  s_call (X6_areTwo t x1 x2 M) fun v3 M3 =>
  if ¬ v3 = 0 then (
    s_call (X6_isAlive t (0 : Int32) x1 M3) fun v14 M14 =>
    if v14 = 0 then (
      some ((-2 : Int32), M14))
    else (
      s_call (X6_isAlive t (0 : Int32) x2 M14) fun v23 M23 =>
      if ¬ v23 = 0 then (
        X6_guests_37 t x1 x2 FU (0 : Int32) (0 : Int32) M23)
      else (
        some ((-2 : Int32), M23))))
  else (
    some ((-1 : Int32), M3))
def X6_isFreeBut (t : Nat) (x1 : Int32) (x2 : Int32) : Mem → Option (Int32 × Mem) := fun M =>
  s_call (X6_copy t (0 : Int32) (1 : Int32) M) fun _ M3 =>
  s_ast M3 (t + 13) 192 ((64 : Int32) + x1) (0 : Int32) fun M15 =>
  s_ast M15 (t + 13) 192 ((64 : Int32) + x2) (0 : Int32) fun M25 =>
  s_call (X6_owedBehind t (1 : Int32) M25) fun v28 M28 =>
  if ¬ v28 = 0 then (
    s_retz (0 : Int32) M28)
  else (
    s_retz (1 : Int32) M28)
def X6_court_169 (t : Nat) (x2 : Int32) (x3 : Int32) (x4 : Int32) : Nat → Int32 → Int32 → Mem → Option (Int32 × Mem)
  | 0, _, _, _ => none
  | n + 1, x5, x6, M =>
    if x6 = 0 then (
      if ¬ x2 = 0 then (
        s_div x3 x5 fun v207 =>
        some (v207, M))
      else (
        s_div x4 x5 fun v200 =>
        some (v200, M)))
    else (
      s_rem x5 x6 fun v178 =>
      X6_court_169 t x2 x3 x4 n x6 v178 M)
def X6_court_96 (t : Nat) (x1 : Int32) (x2 : Int32) (x3 : Int32) (x4 : Int32) (x5 : Int32) (x6 : Int32) (k53 : Int32 → Int32 → Int32 → Mem → Option (Int32 × Mem)) (k80 : Int32 → Int32 → Int32 → Mem → Option (Int32 × Mem)) : Int32 → Int32 → Mem → Option (Int32 × Mem) := fun y0 y1 M =>
  if y0 ≤ y1 then (
    k53 x3 x4 (x5 + (1 : Int32)) M)
  else (
    s_ald M (t + 13) 192 x5 fun v105 =>
    if v105 ≤ 0 then (
      k80 x3 x4 (x6 + (1 : Int32)) M)
    else (
      s_ald M (t + 13) 192 x6 fun v115 =>
      if v115 ≤ 0 then (
        k80 x3 x4 (x6 + (1 : Int32)) M)
      else (
        s_call (X6_isFreeBut t x5 x6 M) fun v129 M129 =>
        if v129 = 0 then (
          s_let (x4 + (0 : Int32)) fun x4_141 =>
          k80 (x3 + (1 : Int32)) x4_141 (x6 + (1 : Int32)) M129)
        else (
          s_let (x4 + (1 : Int32)) fun x4_141 =>
          k80 (x3 + (1 : Int32)) x4_141 (x6 + (1 : Int32)) M129))))
def X6_court_80 (t : Nat) (x1 : Int32) (x2 : Int32) (x5 : Int32) (k53 : Int32 → Int32 → Int32 → Mem → Option (Int32 × Mem)) : Nat → Int32 → Int32 → Int32 → Mem → Option (Int32 × Mem)
  | 0, _, _, _, _ => none
  | n + 1, x3, x4, x6, M =>
    if ¬ x1 = (1 : Int32) then (
      X6_court_96 t x1 x2 x3 x4 x5 x6 k53 (X6_court_80 t x1 x2 x5 k53 n) (64 : Int32) x6 M)
    else (
      X6_court_96 t x1 x2 x3 x4 x5 x6 k53 (X6_court_80 t x1 x2 x5 k53 n) (x5 + (1 : Int32)) x6 M)
def X6_court_53 (t : Nat) (x1 : Int32) (x2 : Int32) : Nat → Int32 → Int32 → Int32 → Mem → Option (Int32 × Mem)
  | 0, _, _, _, _ => none
  | n + 1, x3, x4, x5, M =>
    if (64 : Int32) ≤ x5 then (
      if ¬ x3 = 0 then (
        X6_court_169 t x2 x3 x4 FU x4 x3 M)
      else (
        some ((-4 : Int32), M)))
    else (
      if x1 ≤ 0 then (
        if ¬ x3 = 0 then (
          X6_court_169 t x2 x3 x4 FU x4 x3 M)
        else (
          some ((-4 : Int32), M)))
      else (
        if ¬ x1 = (1 : Int32) then (
          s_let (x5 + (1 : Int32)) fun x6_78 =>
          X6_court_80 t x1 x2 x5 (X6_court_53 t x1 x2 n) FU x3 x4 x6_78 M)
        else (
          X6_court_80 t x1 x2 x5 (X6_court_53 t x1 x2 n) FU x3 x4 x5 M)))
def X6_court (t : Nat) (x1 : Int32) (x2 : Int32) : Mem → Option (Int32 × Mem) := fun M =>
  s_call (X6_in ((x1).toInt64) (0 : Int64) (2 : Int64) M) fun v6 M6 =>
  if v6 = 0 then (
    some ((-1 : Int32), M6))
  else (
    s_call (X6_in ((x2).toInt64) (0 : Int64) (1 : Int64) M6) fun v16 M16 =>
    if ¬ v16 = 0 then (
      if ¬ x1 = 0 then (
        X6_court_53 t x1 x2 FU (0 : Int32) (0 : Int32) (0 : Int32) M16)
      else (
        s_call (X6_owedBehind t (0 : Int32) M16) fun v37 M37 =>
        if ¬ v37 = 0 then (
          X6_court_53 t x1 x2 FU (1 : Int32) (0 : Int32) (0 : Int32) M37)
        else (
          X6_court_53 t x1 x2 FU (1 : Int32) (1 : Int32) (0 : Int32) M37)))
    else (
      some ((-1 : Int32), M16)))
def X6_stranger_101 (t : Nat) (x1 : Int32) (x2 : Int32) (x3 : Int32) (x4 : Int32) (x5 : Int32) : Nat → Int32 → Mem → Option (Int32 × Mem)
  | 0, _, _ => none
  | n + 1, x6, M =>
    if x4 ≤ x6 then (
      s_call (X6_makePeace t (1 : Int32) M) fun v140 M140 =>
      s_let (v140 - x2) fun x6_145 =>
      s_ast M140 (t + 3) 16 x4 x5 fun M155 =>
      if ¬ x1 = 0 then (
        s_call (X6_allOf t (1 : Int32) M155) fun v170 M170 =>
        some (((v170 - x3) + (100 : Int32)), M170))
      else (
        some ((x6_145 + (100 : Int32)), M155)))
    else (
      s_call (X6_isAlive t (1 : Int32) x6 M) fun v118 M118 =>
      if v118 = 0 then (
        s_call (X6_setDebt t (1 : Int32) x4 x6 (0 : Int32) M118) fun _ M129 =>
        X6_stranger_101 t x1 x2 x3 x4 x5 n (x6 + (1 : Int32)) M129)
      else (
        s_call (X6_setDebt t (1 : Int32) x4 x6 (1 : Int32) M118) fun _ M129 =>
        X6_stranger_101 t x1 x2 x3 x4 x5 n (x6 + (1 : Int32)) M129))
def X6_stranger (t : Nat) (x1 : Int32) : Mem → Option (Int32 × Mem) := fun M =>
  s_call (X6_in ((x1).toInt64) (0 : Int64) (1 : Int64) M) fun v4 M4 =>
  if ¬ v4 = 0 then (
    s_ald M4 (t + 2) 2 (0 : Int32) fun v17 =>
    if ¬ v17 = (7 : Int32) then (
      s_call (X6_copy t (0 : Int32) (1 : Int32) M4) fun _ M29 =>
      s_call (X6_makePeace t (1 : Int32) M29) fun v34 M34 =>
      s_call (X6_allOf t (1 : Int32) M34) fun v40 M40 =>
      s_call (X6_copy t (0 : Int32) (1 : Int32) M40) fun _ M47 =>
      s_ald M47 (t + 2) 2 (0 : Int32) fun v55 =>
      s_ald M47 (t + 3) 16 v55 fun v64 =>
      s_ast M47 (t + 3) 16 v55 (0 : Int32) fun M74 =>
      s_ald M74 (t + 14) 3 (1 : Int32) fun v81 =>
      s_ast M74 (t + 14) 3 (1 : Int32) (v81 ||| ((1 : Int32) <<< (v55 &&& 31))) fun M87 =>
      s_ald M87 (t + 16) 3 (1 : Int32) fun v94 =>
      s_ast M87 (t + 16) 3 (1 : Int32) (v94 + (1 : Int32)) fun M97 =>
      X6_stranger_101 t x1 v34 v40 v55 v64 FU (0 : Int32) M97)
    else (
      some ((-3 : Int32), M4)))
  else (
    some ((-1 : Int32), M4))
def X6_easter_6 (t : Nat) : Nat → Mem → Option (Int32 × Mem)
  | 0, _ => none
  | n + 1, M =>
    s_ald M (t + 15) 3 (1 : Int32) fun v11 =>
    s_ald M (t + 6) 2 (0 : Int32) fun v17 =>
    if v17 < v11 then (
      some ((-4 : Int32), M))
    else (
      s_call (X6_makePeace t (1 : Int32) M) fun v23 M23 =>
      s_call (X6_allOf t (1 : Int32) M23) fun v29 M29 =>
      if ¬ v29 = 0 then (
        s_call (X6_goDay t (1 : Int32) M29) fun _ M44 =>
        X6_easter_6 t n  M44)
      else (
        s_ald M29 (t + 15) 3 (1 : Int32) fun v40 =>
        some (v40, M29)))
def X6_easter (t : Nat) : Mem → Option (Int32 × Mem) := fun M =>
  s_call (X6_copy t (0 : Int32) (1 : Int32) M) fun _ M3 =>
  X6_easter_6 t FU M3
def X6_silent (t : Nat) (x1 : Int32) : Mem → Option (Int32 × Mem) := fun M =>
  s_call (X6_in ((x1).toInt64) (0 : Int64) (3 : Int64) M) fun v6 M6 =>
  if ¬ v6 = 0 then (
    if ¬ (M6 t 12) = (6 : Int32) then (
      s_ast M6 (t + 11) 6 (M6 t 12) x1 fun M35 =>
      s_put M35 t 12 ((M35 t 12) + (1 : Int32)) fun M43 =>
      some ((M43 t 12), M43))
    else (
      some ((-3 : Int32), M6)))
  else (
    some ((-1 : Int32), M6))
def X6_forget (t : Nat) : Mem → Option (Int32 × Mem) := fun M =>
  s_let (M t 12) fun x1_4 =>
  s_put M t 12 (0 : Int32) fun M7 =>
  some (x1_4, M7)
def X6_areSilent_65 (t : Nat) (x1 : Int32) (x2 : Int32) (x3 : Int32) (x4 : Int32) (k4 : Int32 → Int32 → Mem → Option (Int32 × Mem)) (k15 : Int32 → Int32 → Mem → Option (Int32 × Mem)) : Int32 → Mem → Option (Int32 × Mem) := fun y0 M =>
  if x2 = 0 then (
    k15 (0 : Int32) (x4 + (1 : Int32)) M)
  else (
    if y0 = 0 then (
      k15 (1 : Int32) (x4 + (1 : Int32)) M)
    else (
      s_div x4 (8 : Int32) fun v82 =>
      s_rem x4 (8 : Int32) fun v87 =>
      s_call (X6_maySpeak t x1 v82 v87 M) fun v88 M88 =>
      if ¬ v88 = 0 then (
        k15 (0 : Int32) (x4 + (1 : Int32)) M88)
      else (
        k15 (1 : Int32) (x4 + (1 : Int32)) M88)))
def X6_areSilent_15 (t : Nat) (x1 : Int32) (x3 : Int32) (k4 : Int32 → Int32 → Mem → Option (Int32 × Mem)) : Nat → Int32 → Int32 → Mem → Option (Int32 × Mem)
  | 0, _, _, _ => none
  | n + 1, x2, x4, M =>
    if (64 : Int32) ≤ x4 then (
      k4 x2 (x3 + (1 : Int32)) M)
    else (
      s_div x4 (8 : Int32) fun v30 =>
      s_ald M (t + 4) 16 v30 fun v31 =>
      s_ald M (t + 11) 6 x3 fun v37 =>
      if ¬ v31 = v37 then (
        X6_areSilent_65 t x1 x2 x3 x4 k4 (X6_areSilent_15 t x1 x3 k4 n) (0 : Int32) M)
      else (
        s_rem x4 (8 : Int32) fun v49 =>
        s_ald M (t + 4) 16 v49 fun v50 =>
        s_ald M (t + 11) 6 x3 fun v56 =>
        if ¬ v50 = v56 then (
          X6_areSilent_65 t x1 x2 x3 x4 k4 (X6_areSilent_15 t x1 x3 k4 n) (0 : Int32) M)
        else (
          X6_areSilent_65 t x1 x2 x3 x4 k4 (X6_areSilent_15 t x1 x3 k4 n) (1 : Int32) M)))
def X6_areSilent_4 (t : Nat) (x1 : Int32) : Nat → Int32 → Int32 → Mem → Option (Int32 × Mem)
  | 0, _, _, _ => none
  | n + 1, x2, x3, M =>
    if (M t 12) ≤ x3 then (
      s_retz x2 M)
    else (
      X6_areSilent_15 t x1 x3 (X6_areSilent_4 t x1 n) FU x2 (0 : Int32) M)
def X6_areSilent (t : Nat) (x1 : Int32) : Mem → Option (Int32 × Mem) := fun M =>
  X6_areSilent_4 t x1 FU (1 : Int32) (0 : Int32) M
def X6_fits_20 (t : Nat) (x1 : Int32) : Nat → Int32 → Int32 → Int32 → Mem → Option (Int32 × Mem)
  | 0, _, _, _, _ => none
  | n + 1, x2, x3, x4, M =>
    if (64 : Int32) ≤ x4 then (
      if ¬ x1 = 0 then (
        some (x3, M))
      else (
        some (x2, M)))
    else (
      s_div x4 (8 : Int32) fun v32 =>
      s_rem x4 (8 : Int32) fun v37 =>
      s_call (X6_areTwo t v32 v37 M) fun v38 M38 =>
      if v38 = 0 then (
        X6_fits_20 t x1 n x2 x3 (x4 + (1 : Int32)) M38)
      else (
        s_div x4 (8 : Int32) fun v51 =>
        s_rem x4 (8 : Int32) fun v56 =>
        s_call (X6_canDo t (0 : Int32) (0 : Int32) v51 v56 M38) fun v57 M57 =>
        if v57 = 0 then (
          X6_fits_20 t x1 n x2 x3 (x4 + (1 : Int32)) M57)
        else (
          s_call (X6_copy t (0 : Int32) (1 : Int32) M57) fun _ M66 =>
          s_div x4 (8 : Int32) fun v76 =>
          s_rem x4 (8 : Int32) fun v81 =>
          s_call (X6_doAct t (1 : Int32) (0 : Int32) v76 v81 M66) fun _ M82 =>
          s_call (X6_areSilent t (1 : Int32) M82) fun v87 M87 =>
          if v87 = 0 then (
            X6_fits_20 t x1 n x2 x3 (x4 + (1 : Int32)) M87)
          else (
            if ¬ x2 = 0 then (
              X6_fits_20 t x1 n (x2 + (1 : Int32)) x3 (x4 + (1 : Int32)) M87)
            else (
              X6_fits_20 t x1 n (x2 + (1 : Int32)) x4 (x4 + (1 : Int32)) M87)))))
def X6_fits (t : Nat) (x1 : Int32) : Mem → Option (Int32 × Mem) := fun M =>
  s_call (X6_in ((x1).toInt64) (0 : Int64) (1 : Int64) M) fun v4 M4 =>
  if ¬ v4 = 0 then (
    X6_fits_20 t x1 FU (0 : Int32) (-4 : Int32) (0 : Int32) M4)
  else (
    some ((-1 : Int32), M4))
def X6_year_173 (t : Nat) (x1 : Int32) (x2 : Int32) (x3 : Int32) (x4 : Int32) (x5 : Int32) (x9 : Int32) (x10 : Int32) (x11 : Int32) (k48 : Int32 → Int32 → Mem → Option (Int32 × Mem)) : Int32 → Int32 → Mem → Option (Int32 × Mem) := fun y0 y1 M =>
  s_call (X6_doAct t y1 y0 x9 x10 M) fun _ M177 =>
  if ¬ x11 = 0 then (
    s_let (x4 + (1 : Int32)) fun x4_193 =>
    k48 x4_193 (x5 + (1 : Int32)) M177)
  else (
    s_let (x4 + (0 : Int32)) fun x4_193 =>
    k48 x4_193 (x5 + (1 : Int32)) M177)
def X6_year_151 (t : Nat) (x1 : Int32) (x2 : Int32) (x3 : Int32) (x4 : Int32) (x5 : Int32) (x9 : Int32) (x10 : Int32) (x11 : Int32) (k48 : Int32 → Int32 → Mem → Option (Int32 × Mem)) : Int32 → Int32 → Mem → Option (Int32 × Mem) := fun y0 y1 M =>
  s_call (X6_canDo t y1 y0 x9 x10 M) fun v155 M155 =>
  if v155 = 0 then (
    k48 x4 (x5 + (1 : Int32)) M155)
  else (
    if ¬ x11 = 0 then (
      X6_year_173 t x1 x2 x3 x4 x5 x9 x10 x11 k48 (1 : Int32) (1 : Int32) M155)
    else (
      X6_year_173 t x1 x2 x3 x4 x5 x9 x10 x11 k48 (0 : Int32) (1 : Int32) M155))
def X6_year_48 (t : Nat) (x1 : Int32) (x2 : Int32) (x3 : Int32) : Nat → Int32 → Int32 → Mem → Option (Int32 × Mem)
  | 0, _, _, _ => none
  | n + 1, x4, x5, M =>
    if x2 ≤ x5 then (
      if ¬ x3 = 0 then (
        some (x4, M))
      else (
        s_call (X6_allOf t (1 : Int32) M) fun v207 M207 =>
        some (v207, M207)))
    else (
      s_letl ((((7919 : Int64) * ((x1).toInt64)) + ((6151 : Int64) * ((x5).toInt64))) + (1 : Int64)) fun x6_70 =>
      s_reml (x6_70 * x6_70) (65521 : Int64) fun v80 =>
      s_let ((v80).toInt32) fun x8_82 =>
      s_ald M (t + 2) 2 (0 : Int32) fun v91 =>
      s_rem x8_82 v91 fun v92 =>
      s_div x8_82 (8 : Int32) fun v99 =>
      s_ald M (t + 2) 2 (0 : Int32) fun v105 =>
      s_rem v99 v105 fun v106 =>
      s_div x8_82 (64 : Int32) fun v113 =>
      s_rem v113 (4 : Int32) fun v115 =>
      if ¬ v115 = (1 : Int32) then (
        if v92 = v106 then (
          X6_year_48 t x1 x2 x3 n x4 (x5 + (1 : Int32)) M)
        else (
          if ¬ v115 = 0 then (
            X6_year_151 t x1 x2 x3 x4 x5 v92 v106 v115 (X6_year_48 t x1 x2 x3 n) (1 : Int32) (1 : Int32) M)
          else (
            X6_year_151 t x1 x2 x3 x4 x5 v92 v106 v115 (X6_year_48 t x1 x2 x3 n) (0 : Int32) (1 : Int32) M)))
      else (
        s_call (X6_goDay t (1 : Int32) M) fun _ M126 =>
        X6_year_48 t x1 x2 x3 n x4 (x5 + (1 : Int32)) M126))
def X6_year (t : Nat) (x1 : Int32) (x2 : Int32) (x3 : Int32) : Mem → Option (Int32 × Mem) := fun M =>
  s_call (X6_in ((x1).toInt64) (0 : Int64) (9999 : Int64) M) fun v6 M6 =>
  if v6 = 0 then (
    some ((-1 : Int32), M6))
  else (
    s_call (X6_in ((x2).toInt64) (1 : Int64) (60 : Int64) M6) fun v18 M18 =>
    if v18 = 0 then (
      some ((-1 : Int32), M18))
    else (
      s_call (X6_in ((x3).toInt64) (0 : Int64) (1 : Int64) M18) fun v28 M28 =>
      if ¬ v28 = 0 then (
        s_call (X6_copy t (0 : Int32) (1 : Int32) M28) fun _ M39 =>
        X6_year_48 t x1 x2 x3 FU (0 : Int32) (0 : Int32) M39)
      else (
        some ((-1 : Int32), M28))))
def X6_copyActs_14 (t : Nat) (x1 : Int32) (x2 : Int32) : Nat → Int32 → Mem → Option (Unit × Mem)
  | 0, _, _ => none
  | n + 1, x3, M =>
    if (40 : Int32) ≤ x3 then (
      some ((), M))
    else (
      s_ald M (t + 8) 120 (((40 : Int32) * x1) + x3) fun v40 =>
      s_ast M (t + 8) 120 (((40 : Int32) * x2) + x3) v40 fun M41 =>
      s_ald M41 (t + 9) 120 (((40 : Int32) * x1) + x3) fun v62 =>
      s_ast M41 (t + 9) 120 (((40 : Int32) * x2) + x3) v62 fun M63 =>
      s_ald M63 (t + 10) 120 (((40 : Int32) * x1) + x3) fun v84 =>
      s_ast M63 (t + 10) 120 (((40 : Int32) * x2) + x3) v84 fun M85 =>
      X6_copyActs_14 t x1 x2 n (x3 + (1 : Int32)) M85)
def X6_copyActs (t : Nat) (x1 : Int32) (x2 : Int32) : Mem → Option (Unit × Mem) := fun M =>
  s_ald M (t + 7) 3 x1 fun v10 =>
  s_ast M (t + 7) 3 x2 v10 fun M11 =>
  X6_copyActs_14 t x1 x2 FU (0 : Int32) M11
def X6_keep (t : Nat) : Mem → Option (Int32 × Mem) := fun M =>
  if ¬ (M t 11) = (2 : Int32) then (
    s_put M t 11 ((M t 11) + (1 : Int32)) fun M18 =>
    s_call (X6_copyActs t (0 : Int32) (M18 t 11) M18) fun _ M27 =>
    some ((M27 t 11), M27))
  else (
    some ((-3 : Int32), M))
def X6_back (t : Nat) : Mem → Option (Int32 × Mem) := fun M =>
  if ¬ (M t 11) = 0 then (
    s_call (X6_copyActs t (M t 11) (0 : Int32) M) fun _ M16 =>
    s_put M16 t 11 ((M16 t 11) - (1 : Int32)) fun M26 =>
    s_call (X6_begin t M26) fun _ M30 =>
    some ((M30 t 11), M30))
  else (
    some ((-2 : Int32), M))
def X6_count (t : Nat) (x1 : Int32) : Mem → Option (Int32 × Mem) := fun M =>
  if x1 = (0 : Int32) then (
    s_ald M (t + 2) 2 (0 : Int32) fun v53 =>
    some (v53, M))
  else if x1 = (1 : Int32) then (
    s_ald M (t + 14) 3 (0 : Int32) fun v60 =>
    s_call (X6_bits v60 M) fun v61 M61 =>
    some (v61, M61))
  else if x1 = (2 : Int32) then (
    s_ald M (t + 15) 3 (0 : Int32) fun v70 =>
    some (v70, M))
  else if x1 = (3 : Int32) then (
    s_call (X6_allOf t (0 : Int32) M) fun v74 M74 =>
    some (v74, M74))
  else if x1 = (4 : Int32) then (
    s_ald M (t + 7) 3 (0 : Int32) fun v83 =>
    some (v83, M))
  else if x1 = (5 : Int32) then (
    some ((M t 12), M))
  else if x1 = (6 : Int32) then (
    some ((M t 11), M))
  else if x1 = (7 : Int32) then (
    some ((M t 0), M))
  else (
    some ((-1 : Int32), M))
