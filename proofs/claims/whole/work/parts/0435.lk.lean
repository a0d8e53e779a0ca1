theorem lk_acts {L : List CDs} {t r : Nat} {M M' : Mem} (hT : is_X5 L t) (h : X5_latestKept t M = some (r, M')) : is_X0 L r := by
  unfold X5_latestKept at h
  split at h
  · cases h
    first | exact hT.2.2.2.2.2.2.2.2.1 | exact hT.2.2.2.2.2.2.2.1
  · cases h
    first | exact hT.2.2.2.2.2.2.2.2.1 | exact hT.2.2.2.2.2.2.2.1
