theorem e_X3_partOf (d : Nat) (x0 x2 x4 : Int) (σ : zS) : zc d mX3_partOf [zJ x0, zJ x2, zI x4] σ = (if ¬ nrm (if nrL x0 < nrL 0 then -1 else if nrL x0 = nrL 0 then 0 else 1) = 0 then (if ¬ nrm x4 = 0 then zq d mX3_partOf 20 [some (zJ x0), none, some (zJ x2), none, none] [zJ x2] σ else zq d mX3_partOf 20 [some (zJ x0), none, some (zJ x2), none, none] [zJ x0] σ) else some (some (zJ (nrm x4)), σ)) := by
  refine Eq.trans (zc_zq (L := [some (zJ x0), none, some (zJ x2), none, some (zI x4)]) (by exact rfl)) ?_
  refine Eq.trans (zY_step (by exact rfl) (by exact dX3_partOf_0) (by exact rfl) (pc' := 1) (S' := [zJ x0]) (by exact rfl) (zcn (by exact rfl))) ?_
  refine Eq.trans (zY_step (by exact rfl) (by exact dX3_partOf_1) (by exact rfl) (pc' := 2) (S' := [zJ 0, zJ x0]) (by exact rfl) (zcn (by exact rfl))) ?_
  refine Eq.trans (zY_step (by exact rfl) (by exact dX3_partOf_2) (by exact rfl) (pc' := 3) (S' := [zI (if nrL x0 < nrL 0 then -1 else if nrL x0 = nrL 0 then 0 else 1)]) (by exact rfl) (zcn (by exact rfl))) ?_
  refine Eq.trans (zY_if_ne (by exact rfl) (by exact dX3_partOf_3) (t := 10) (by exact rfl) (a2 := nrm (if nrL x0 < nrL 0 then -1 else if nrL x0 = nrL 0 then 0 else 1)) (by exact rfl) (zcn (by exact rfl)) (zcn (by exact rfl))) (zif ?_ ?_)
  · refine Eq.trans (zY_step (by exact rfl) (by exact dX3_partOf_10) (by exact rfl) (pc' := 12) (S' := [zI x4]) (by exact rfl) (zcn (by exact rfl))) ?_
    refine Eq.trans (zY_if_ne (by exact rfl) (by exact dX3_partOf_12) (t := 19) (by exact rfl) (a2 := nrm x4) (by exact rfl) (zcn (by exact rfl)) (zcn (by exact rfl))) (zif ?_ ?_)
    · exact zY_step (by exact rfl) (by exact dX3_partOf_19) (by exact rfl) (pc' := 20) (S' := [zJ x2]) (L2 := [some (zJ x0), none, some (zJ x2), none, none]) (by exact rfl) (by exact rfl)
    · refine Eq.trans (zY_step (by exact rfl) (by exact dX3_partOf_15) (by exact rfl) (pc' := 16) (S' := [zJ x0]) (by exact rfl) (zcn (by exact rfl))) ?_
      exact zY_step (by exact rfl) (by exact dX3_partOf_16) (by exact rfl) (pc' := 20) (S' := [zJ x0]) (L2 := [some (zJ x0), none, some (zJ x2), none, none]) (by exact rfl) (by exact rfl)
  · refine Eq.trans (zY_step (by exact rfl) (by exact dX3_partOf_6) (by exact rfl) (pc' := 8) (S' := [zI x4]) (by exact rfl) (zcn (by exact rfl))) ?_
    refine Eq.trans (zY_step (by exact rfl) (by exact dX3_partOf_8) (by exact rfl) (pc' := 9) (S' := [zJ (nrm x4)]) (by exact rfl) (zcn (by exact rfl))) ?_
    exact zq_ret (by exact dX3_partOf_9) (by exact rfl) (rv := some (zJ (nrm x4))) (by exact rfl)
theorem b_X3_partOf_20 (d : Nat) (y0 x0 x2 : Int) (σ : zS) : zq (d + 1) mX3_partOf 20 [some (zJ x0), none, some (zJ x2), none, none] [zJ y0] σ = (zc d mX3_gcd [zJ x0, zJ x2] σ).bind fun r => zq (d + 1) mX3_partOf 25 [some (zJ x0), none, some (zJ x2), none, none] (r.1.toList ++ [zJ y0]) r.2 := by
  refine Eq.trans (zY_step (by exact rfl) (by exact dX3_partOf_20) (by exact rfl) (pc' := 21) (S' := [zJ x0, zJ y0]) (by exact rfl) (zcn (by exact rfl))) ?_
  refine Eq.trans (zY_step (by exact rfl) (by exact dX3_partOf_21) (by exact rfl) (pc' := 22) (S' := [zJ x2, zJ x0, zJ y0]) (by exact rfl) (zcn (by exact rfl))) ?_
  exact zY_S (by exact rfl) (by exact dX3_partOf_22) (by exact rfl) (by exact Or.inl rfl) (as := [zJ x0, zJ x2]) (S' := [zJ y0]) (by exact rfl) (by exact rfl) (by exact Nat.le_of_ble_eq_true rfl) (by exact Nat.le_of_ble_eq_true rfl) (zcn (by exact rfl))
theorem b_X3_partOf_25 (d : Nat) (y0 y1 x0 x2 : Int) (σ : zS) : zq d mX3_partOf 25 [some (zJ x0), none, some (zJ x2), none, none] [zJ y0, zJ y1] σ = (if nrL y0 = 0 then none else some (some (zJ ((nrL y1).tdiv (nrL y0))), σ)) := by
  refine Eq.trans (zY_ldiv (by exact rfl) (by exact dX3_partOf_25) (zcn (by exact rfl))) (zif rfl ?_)
  · exact zq_ret (by exact dX3_partOf_26) (by exact rfl) (rv := some (zJ ((nrL y1).tdiv (nrL y0)))) (by exact rfl)
theorem e_X3_isYoung (d : Nat) (x1 : Int) (σ : zS) : zc (d + 1) mX3_isYoung [zR (some 36), zI x1] σ = (zc d mX3_of [zI x1, zI 0] σ).bind fun r => zq (d + 1) mX3_isYoung 9 [some (zR (some 36)), some (zI x1)] (r.1.toList ++ [zR (some 37)]) r.2 := by
  refine Eq.trans (zc_zq (L := [some (zR (some 36)), some (zI x1)]) (by exact rfl)) ?_
  refine Eq.trans (zY_step (by exact rfl) (by exact dX3_isYoung_0) (by exact rfl) (pc' := 1) (S' := [zR (some 36)]) (by exact rfl) (zcn (by exact rfl))) ?_
  refine Eq.trans (zY_getR (by exact rfl) (by exact dX3_isYoung_1) (by exact rfl) (by exact rfl) (t := 37) (by exact rfl) (zcn (by exact rfl))) ?_
  refine Eq.trans (zY_step (by exact rfl) (by exact dX3_isYoung_4) (by exact rfl) (pc' := 5) (S' := [zI x1, zR (some 37)]) (by exact rfl) (zcn (by exact rfl))) ?_
  refine Eq.trans (zY_step (by exact rfl) (by exact dX3_isYoung_5) (by exact rfl) (pc' := 6) (S' := [zI 0, zI x1, zR (some 37)]) (by exact rfl) (zcn (by exact rfl))) ?_
  exact zY_S (by exact rfl) (by exact dX3_isYoung_6) (by exact rfl) (by exact Or.inl rfl) (as := [zI x1, zI 0]) (S' := [zR (some 37)]) (by exact rfl) (by exact rfl) (by exact Nat.le_of_ble_eq_true rfl) (by exact Nat.le_of_ble_eq_true rfl) (zcn (by exact rfl))
theorem b_X3_isYoung_9 (d : Nat) (y0 x1 : Int) (σ : zS) : zq (d + 1) mX3_isYoung 9 [some (zR (some 36)), some (zI x1)] [zI y0, zR (some 37)] σ = (if zix y0 35 then (if nrm (σ 37 (nrm y0).toNat) = 3 then zq (d + 1) mX3_isYoung 29 [none, none] [] σ else (zc d mX3_of [zI x1, zI 0] σ).bind fun r => zq (d + 1) mX3_isYoung 23 [some (zR (some 36)), some (zI x1)] (r.1.toList ++ [zR (some 37)]) r.2) else none) := by
  refine Eq.trans (zY_iald (by exact rfl) (by exact dX3_isYoung_9) (by exact rfl) (by exact rfl) (zcn (by exact rfl))) (zif ?_ rfl)
  · refine Eq.trans (zY_step (by exact rfl) (by exact dX3_isYoung_10) (by exact rfl) (pc' := 11) (S' := [zI 3, zI (σ 37 (nrm y0).toNat)]) (by exact rfl) (zcn (by exact rfl))) ?_
    refine Eq.trans (zY_ic_eq (by exact rfl) (by exact dX3_isYoung_11) (t := 29) (by exact rfl) (a2 := nrm (σ 37 (nrm y0).toNat)) (b2 := 3) (by exact rfl) (by decide) (L1 := [none, none]) (by exact rfl) (zcn (by exact rfl))) (zif ?_ ?_)
    · exact rfl
    · refine Eq.trans (zY_step (by exact rfl) (by exact dX3_isYoung_14) (by exact rfl) (pc' := 15) (S' := [zR (some 36)]) (by exact rfl) (zcn (by exact rfl))) ?_
      refine Eq.trans (zY_getR (by exact rfl) (by exact dX3_isYoung_15) (by exact rfl) (by exact rfl) (t := 37) (by exact rfl) (zcn (by exact rfl))) ?_
      refine Eq.trans (zY_step (by exact rfl) (by exact dX3_isYoung_18) (by exact rfl) (pc' := 19) (S' := [zI x1, zR (some 37)]) (by exact rfl) (zcn (by exact rfl))) ?_
      refine Eq.trans (zY_step (by exact rfl) (by exact dX3_isYoung_19) (by exact rfl) (pc' := 20) (S' := [zI 0, zI x1, zR (some 37)]) (by exact rfl) (zcn (by exact rfl))) ?_
      exact zY_S (by exact rfl) (by exact dX3_isYoung_20) (by exact rfl) (by exact Or.inl rfl) (as := [zI x1, zI 0]) (S' := [zR (some 37)]) (by exact rfl) (by exact rfl) (by exact Nat.le_of_ble_eq_true rfl) (by exact Nat.le_of_ble_eq_true rfl) (zcn (by exact rfl))
theorem b_X3_isYoung_29 (d : Nat) (σ : zS) : zq d mX3_isYoung 29 [none, none] [] σ = some (some (zI 1), σ) := by
  refine Eq.trans (zY_step (by exact rfl) (by exact dX3_isYoung_29) (by exact rfl) (pc' := 30) (S' := [zI 1]) (by exact rfl) (zcn (by exact rfl))) ?_
  refine Eq.trans (zY_step (by exact rfl) (by exact dX3_isYoung_30) (by exact rfl) (pc' := 34) (S' := [zI 1]) (L2 := [none, none]) (by exact rfl) (by exact rfl)) ?_
  exact zq_ret (by exact dX3_isYoung_34) (by exact rfl) (rv := some (zI 1)) (by exact rfl)
theorem b_X3_isYoung_23 (d : Nat) (y0 x1 : Int) (σ : zS) : zq d mX3_isYoung 23 [some (zR (some 36)), some (zI x1)] [zI y0, zR (some 37)] σ = (if zix y0 35 then (if ¬ nrm (σ 37 (nrm y0).toNat) = 6 then some (some (zI 0), σ) else zq d mX3_isYoung 29 [none, none] [] σ) else none) := by
  refine Eq.trans (zY_iald (by exact rfl) (by exact dX3_isYoung_23) (by exact rfl) (by exact rfl) (zcn (by exact rfl))) (zif ?_ rfl)
  · refine Eq.trans (zY_step (by exact rfl) (by exact dX3_isYoung_24) (by exact rfl) (pc' := 26) (S' := [zI 6, zI (σ 37 (nrm y0).toNat)]) (by exact rfl) (zcn (by exact rfl))) ?_
    refine Eq.trans (zY_ic_ne (by exact rfl) (by exact dX3_isYoung_26) (t := 33) (by exact rfl) (a2 := nrm (σ 37 (nrm y0).toNat)) (b2 := 6) (by exact rfl) (by decide) (L2 := [none, none]) (zcn (by exact rfl)) (by exact rfl)) (zif ?_ ?_)
    · refine Eq.trans (zY_step (by exact rfl) (by exact dX3_isYoung_33) (by exact rfl) (pc' := 34) (S' := [zI 0]) (L2 := [none, none]) (by exact rfl) (by exact rfl)) ?_
      exact zq_ret (by exact dX3_isYoung_34) (by exact rfl) (rv := some (zI 0)) (by exact rfl)
    · exact rfl
theorem e_X3_looksRound (d : Nat) (x1 x2 x3 : Int) (σ : zS) : zc (d + 1) mX3_looksRound [zR (some 36), zI x1, zI x2, zI x3] σ = (zc d mX3_isIn [zI x1, zI 2, zI 20] σ).bind fun r => zq (d + 1) mX3_looksRound 7 [some (zR (some 36)), some (zI x1), some (zI x2), some (zI x3), none, none, none, none, none, none, none, none, none] (r.1.toList ++ []) r.2 := by
  refine Eq.trans (zc_zq (L := [some (zR (some 36)), some (zI x1), some (zI x2), some (zI x3), none, none, none, none, none, none, none, none, none]) (by exact rfl)) ?_
  refine Eq.trans (zY_step (by exact rfl) (by exact dX3_looksRound_0) (by exact rfl) (pc' := 1) (S' := [zI x1]) (by exact rfl) (zcn (by exact rfl))) ?_
  refine Eq.trans (zY_step (by exact rfl) (by exact dX3_looksRound_1) (by exact rfl) (pc' := 2) (S' := [zI 2, zI x1]) (by exact rfl) (zcn (by exact rfl))) ?_
  refine Eq.trans (zY_step (by exact rfl) (by exact dX3_looksRound_2) (by exact rfl) (pc' := 4) (S' := [zI 20, zI 2, zI x1]) (by exact rfl) (zcn (by exact rfl))) ?_
  exact zY_S (by exact rfl) (by exact dX3_looksRound_4) (by exact rfl) (by exact Or.inl rfl) (as := [zI x1, zI 2, zI 20]) (S' := []) (by exact rfl) (by exact rfl) (by exact Nat.le_of_ble_eq_true rfl) (by exact Nat.le_of_ble_eq_true rfl) (zcn (by exact rfl))
theorem b_X3_looksRound_7 (d : Nat) (y0 x1 x2 x3 : Int) (σ : zS) : zq (d + 1) mX3_looksRound 7 [some (zR (some 36)), some (zI x1), some (zI x2), some (zI x3), none, none, none, none, none, none, none, none, none] [zI y0] σ = (if nrm y0 = 0 then some (some (zJ 1000000001), σ) else (zc d mX3_isIn [zI x2, zI 0, zI 80] σ).bind fun r => zq (d + 1) mX3_looksRound 17 [some (zR (some 36)), some (zI x1), some (zI x2), some (zI x3), none, none, none, none, none, none, none, none, none] (r.1.toList ++ []) r.2) := by
  refine Eq.trans (zY_if_eq (by exact rfl) (by exact dX3_looksRound_7) (t := 29) (by exact rfl) (a2 := nrm y0) (by exact rfl) (L1 := [none, none, none, none, none, none, none, none, none, none, none, none, none]) (by exact rfl) (zcn (by exact rfl))) (zif ?_ ?_)
  · refine Eq.trans (zY_step (by exact rfl) (by exact dX3_looksRound_29) (by exact rfl) (pc' := 32) (S' := [zJ 1000000001]) (by exact rfl) (zcn (by exact rfl))) ?_
    exact zq_ret (by exact dX3_looksRound_32) (by exact rfl) (rv := some (zJ 1000000001)) (by exact rfl)
  · refine Eq.trans (zY_step (by exact rfl) (by exact dX3_looksRound_10) (by exact rfl) (pc' := 11) (S' := [zI x2]) (by exact rfl) (zcn (by exact rfl))) ?_
    refine Eq.trans (zY_step (by exact rfl) (by exact dX3_looksRound_11) (by exact rfl) (pc' := 12) (S' := [zI 0, zI x2]) (by exact rfl) (zcn (by exact rfl))) ?_
    refine Eq.trans (zY_step (by exact rfl) (by exact dX3_looksRound_12) (by exact rfl) (pc' := 14) (S' := [zI 80, zI 0, zI x2]) (by exact rfl) (zcn (by exact rfl))) ?_
    exact zY_S (by exact rfl) (by exact dX3_looksRound_14) (by exact rfl) (by exact Or.inl rfl) (as := [zI x2, zI 0, zI 80]) (S' := []) (by exact rfl) (by exact rfl) (by exact Nat.le_of_ble_eq_true rfl) (by exact Nat.le_of_ble_eq_true rfl) (zcn (by exact rfl))
theorem b_X3_looksRound_17 (d : Nat) (y0 x1 x2 x3 : Int) (σ : zS) : zq (d + 1) mX3_looksRound 17 [some (zR (some 36)), some (zI x1), some (zI x2), some (zI x3), none, none, none, none, none, none, none, none, none] [zI y0] σ = (if nrm y0 = 0 then some (some (zJ 1000000001), σ) else (zc d mX3_isIn [zI x3, zI 0, zI 1] σ).bind fun r => zq (d + 1) mX3_looksRound 26 [some (zR (some 36)), some (zI x1), some (zI x2), some (zI x3), none, none, none, none, none, none, none, none, none] (r.1.toList ++ []) r.2) := by
  refine Eq.trans (zY_if_eq (by exact rfl) (by exact dX3_looksRound_17) (t := 29) (by exact rfl) (a2 := nrm y0) (by exact rfl) (L1 := [none, none, none, none, none, none, none, none, none, none, none, none, none]) (by exact rfl) (zcn (by exact rfl))) (zif ?_ ?_)
  · refine Eq.trans (zY_step (by exact rfl) (by exact dX3_looksRound_29) (by exact rfl) (pc' := 32) (S' := [zJ 1000000001]) (by exact rfl) (zcn (by exact rfl))) ?_
    exact zq_ret (by exact dX3_looksRound_32) (by exact rfl) (rv := some (zJ 1000000001)) (by exact rfl)
  · refine Eq.trans (zY_step (by exact rfl) (by exact dX3_looksRound_20) (by exact rfl) (pc' := 21) (S' := [zI x3]) (by exact rfl) (zcn (by exact rfl))) ?_
    refine Eq.trans (zY_step (by exact rfl) (by exact dX3_looksRound_21) (by exact rfl) (pc' := 22) (S' := [zI 0, zI x3]) (by exact rfl) (zcn (by exact rfl))) ?_
    refine Eq.trans (zY_step (by exact rfl) (by exact dX3_looksRound_22) (by exact rfl) (pc' := 23) (S' := [zI 1, zI 0, zI x3]) (by exact rfl) (zcn (by exact rfl))) ?_
    exact zY_S (by exact rfl) (by exact dX3_looksRound_23) (by exact rfl) (by exact Or.inl rfl) (as := [zI x3, zI 0, zI 1]) (S' := []) (by exact rfl) (by exact rfl) (by exact Nat.le_of_ble_eq_true rfl) (by exact Nat.le_of_ble_eq_true rfl) (zcn (by exact rfl))
theorem b_X3_looksRound_26 (d : Nat) (y0 x1 x2 x3 : Int) (σ : zS) : zq d mX3_looksRound 26 [some (zR (some 36)), some (zI x1), some (zI x2), some (zI x3), none, none, none, none, none, none, none, none, none] [zI y0] σ = (if ¬ nrm y0 = 0 then zq d mX3_looksRound 39 [some (zR (some 36)), some (zI x1), some (zI x2), some (zI x3), some (zI 0), some (zI 0), none, none, none, none, none, none, none] [] σ else some (some (zJ 1000000001), σ)) := by
  refine Eq.trans (zY_if_ne (by exact rfl) (by exact dX3_looksRound_26) (t := 33) (by exact rfl) (a2 := nrm y0) (by exact rfl) (L2 := [none, none, none, none, none, none, none, none, none, none, none, none, none]) (zcn (by exact rfl)) (by exact rfl)) (zif ?_ ?_)
  · refine Eq.trans (zY_step (by exact rfl) (by exact dX3_looksRound_33) (by exact rfl) (pc' := 34) (S' := [zI 0]) (by exact rfl) (zcn (by exact rfl))) ?_
    refine Eq.trans (zY_step (by exact rfl) (by exact dX3_looksRound_34) (by exact rfl) (pc' := 36) (L' := [some (zR (some 36)), some (zI x1), some (zI x2), some (zI x3), some (zI 0), none, none, none, none, none, none, none, none]) (S' := []) (by exact rfl) (zcn (by exact rfl))) ?_
    refine Eq.trans (zY_step (by exact rfl) (by exact dX3_looksRound_36) (by exact rfl) (pc' := 37) (S' := [zI 0]) (by exact rfl) (zcn (by exact rfl))) ?_
    exact zY_step (by exact rfl) (by exact dX3_looksRound_37) (by exact rfl) (pc' := 39) (L' := [some (zR (some 36)), some (zI x1), some (zI x2), some (zI x3), some (zI 0), some (zI 0), none, none, none, none, none, none, none]) (S' := []) (by exact rfl) (zcn (by exact rfl))
  · refine Eq.trans (zY_step (by exact rfl) (by exact dX3_looksRound_29) (by exact rfl) (pc' := 32) (S' := [zJ 1000000001]) (by exact rfl) (zcn (by exact rfl))) ?_
    exact zq_ret (by exact dX3_looksRound_32) (by exact rfl) (rv := some (zJ 1000000001)) (by exact rfl)
theorem b_X3_looksRound_39 (d : Nat) (x1 x2 x3 x4 x5 : Int) (σ : zS) : zq (d + 1) mX3_looksRound 39 [some (zR (some 36)), some (zI x1), some (zI x2), some (zI x3), some (zI x4), some (zI x5), none, none, none, none, none, none, none] [] σ = (if nrm (σ 37 0) ≤ nrm (x5 + 1) then zq (d + 1) mX3_looksRound 91 [some (zR (some 36)), some (zI x1), some (zI x2), some (zI x3), some (zI x4), some (zJ 0), none, some (zJ 1), none, some (zI 0), none, none, none] [] σ else (zc d mX3_isYoung [zR (some 36), zI (x5 + 1)] σ).bind fun r => zq (d + 1) mX3_looksRound 62 [some (zR (some 36)), some (zI x1), some (zI x2), some (zI x3), some (zI x4), some (zI x5), none, none, none, none, none, none, none] (r.1.toList ++ [zI x4]) r.2) := by
  refine Eq.trans (zY_step (by exact rfl) (by exact dX3_looksRound_39) (by exact rfl) (pc' := 41) (S' := [zI x5]) (by exact rfl) (zcn (by exact rfl))) ?_
  refine Eq.trans (zY_step (by exact rfl) (by exact dX3_looksRound_41) (by exact rfl) (pc' := 42) (S' := [zI 1, zI x5]) (by exact rfl) (zcn (by exact rfl))) ?_
  refine Eq.trans (zY_step (by exact rfl) (by exact dX3_looksRound_42) (by exact rfl) (pc' := 43) (S' := [zI (x5 + 1)]) (by exact rfl) (zcn (by exact rfl))) ?_
  refine Eq.trans (zY_step (by exact rfl) (by exact dX3_looksRound_43) (by exact rfl) (pc' := 44) (S' := [zR (some 36), zI (x5 + 1)]) (by exact rfl) (zcn (by exact rfl))) ?_
  refine Eq.trans (zY_getR (by exact rfl) (by exact dX3_looksRound_44) (by exact rfl) (by exact rfl) (t := 37) (by exact rfl) (zcn (by exact rfl))) ?_
  refine Eq.trans (zY_step (by exact rfl) (by exact dX3_looksRound_47) (by exact rfl) (pc' := 48) (S' := [zI 0, zR (some 37), zI (x5 + 1)]) (by exact rfl) (zcn (by exact rfl))) ?_
  refine Eq.trans (zY_ialdc (by exact rfl) (by exact dX3_looksRound_48) (by exact rfl) (by exact rfl) (j := 0) (by decide) (by decide) (zcn (by exact rfl))) ?_
  refine Eq.trans (zY_ic_ge (by exact rfl) (by exact dX3_looksRound_49) (t := 82) (by exact rfl) (a2 := nrm (x5 + 1)) (b2 := nrm (σ 37 0)) (by exact rfl) (by exact rfl) (zcn (by exact rfl)) (zcn (by exact rfl))) (zif ?_ ?_)
  · refine Eq.trans (zY_step (by exact rfl) (by exact dX3_looksRound_82) (by exact rfl) (pc' := 83) (S' := [zJ 0]) (by exact rfl) (zcn (by exact rfl))) ?_
    refine Eq.trans (zY_step (by exact rfl) (by exact dX3_looksRound_83) (by exact rfl) (pc' := 85) (L' := [some (zR (some 36)), some (zI x1), some (zI x2), some (zI x3), some (zI x4), some (zJ 0), none, none, none, none, none, none, none]) (S' := []) (by exact rfl) (zcn (by exact rfl))) ?_
    refine Eq.trans (zY_step (by exact rfl) (by exact dX3_looksRound_85) (by exact rfl) (pc' := 86) (S' := [zJ 1]) (by exact rfl) (zcn (by exact rfl))) ?_
    refine Eq.trans (zY_step (by exact rfl) (by exact dX3_looksRound_86) (by exact rfl) (pc' := 88) (L' := [some (zR (some 36)), some (zI x1), some (zI x2), some (zI x3), some (zI x4), some (zJ 0), none, some (zJ 1), none, none, none, none, none]) (S' := []) (by exact rfl) (zcn (by exact rfl))) ?_
    refine Eq.trans (zY_step (by exact rfl) (by exact dX3_looksRound_88) (by exact rfl) (pc' := 89) (S' := [zI 0]) (by exact rfl) (zcn (by exact rfl))) ?_
    exact zY_step (by exact rfl) (by exact dX3_looksRound_89) (by exact rfl) (pc' := 91) (L' := [some (zR (some 36)), some (zI x1), some (zI x2), some (zI x3), some (zI x4), some (zJ 0), none, some (zJ 1), none, some (zI 0), none, none, none]) (S' := []) (by exact rfl) (zcn (by exact rfl))
  · refine Eq.trans (zY_step (by exact rfl) (by exact dX3_looksRound_52) (by exact rfl) (pc' := 54) (S' := [zI x4]) (by exact rfl) (zcn (by exact rfl))) ?_
    refine Eq.trans (zY_step (by exact rfl) (by exact dX3_looksRound_54) (by exact rfl) (pc' := 55) (S' := [zR (some 36), zI x4]) (by exact rfl) (zcn (by exact rfl))) ?_
    refine Eq.trans (zY_step (by exact rfl) (by exact dX3_looksRound_55) (by exact rfl) (pc' := 57) (S' := [zI x5, zR (some 36), zI x4]) (by exact rfl) (zcn (by exact rfl))) ?_
    refine Eq.trans (zY_step (by exact rfl) (by exact dX3_looksRound_57) (by exact rfl) (pc' := 58) (S' := [zI 1, zI x5, zR (some 36), zI x4]) (by exact rfl) (zcn (by exact rfl))) ?_
    refine Eq.trans (zY_step (by exact rfl) (by exact dX3_looksRound_58) (by exact rfl) (pc' := 59) (S' := [zI (x5 + 1), zR (some 36), zI x4]) (by exact rfl) (zcn (by exact rfl))) ?_
    exact zY_V (by exact rfl) (by exact dX3_looksRound_59) (by exact rfl) (as := [zI (x5 + 1)]) (S' := [zI x4]) (by exact rfl) (by exact rfl) (by exact rfl) (by exact Nat.le_of_ble_eq_true rfl) (by exact Nat.le_of_ble_eq_true rfl) (by exact Nat.le_of_ble_eq_true rfl) (zcn (by exact rfl))
theorem b_X3_looksRound_91 (d : Nat) (x1 x2 x3 x4 x5 x7 x9 : Int) (σ : zS) : zq (d + 1) mX3_looksRound 91 [some (zR (some 36)), some (zI x1), some (zI x2), some (zI x3), some (zI x4), some (zJ x5), none, some (zJ x7), none, some (zI x9), none, none, none] [] σ = (zc d mX3_bits [zI x4] σ).bind fun r => zq (d + 1) mX3_looksRound 98 [some (zR (some 36)), some (zI x1), some (zI x2), some (zI x3), some (zI x4), some (zJ x5), none, some (zJ x7), none, some (zI x9), none, none, none] (r.1.toList ++ [zI x9]) r.2 := by
  refine Eq.trans (zY_step (by exact rfl) (by exact dX3_looksRound_91) (by exact rfl) (pc' := 93) (S' := [zI x9]) (by exact rfl) (zcn (by exact rfl))) ?_
  refine Eq.trans (zY_step (by exact rfl) (by exact dX3_looksRound_93) (by exact rfl) (pc' := 95) (S' := [zI x4, zI x9]) (by exact rfl) (zcn (by exact rfl))) ?_
  exact zY_S (by exact rfl) (by exact dX3_looksRound_95) (by exact rfl) (by exact Or.inl rfl) (as := [zI x4]) (S' := [zI x9]) (by exact rfl) (by exact rfl) (by exact Nat.le_of_ble_eq_true rfl) (by exact Nat.le_of_ble_eq_true rfl) (zcn (by exact rfl))
theorem b_X3_looksRound_62 (d : Nat) (y0 y1 x1 x2 x3 x4 x5 : Int) (σ : zS) : zq d mX3_looksRound 62 [some (zR (some 36)), some (zI x1), some (zI x2), some (zI x3), some (zI x4), some (zI x5), none, none, none, none, none, none, none] [zI y0, zI y1] σ = (if nrm y0 = 0 then zq d mX3_looksRound 73 [some (zR (some 36)), some (zI x1), some (zI x2), some (zI x3), none, some (zI x5), none, none, none, none, none, none, none] [zI 0, zI y1] σ else zq d mX3_looksRound 73 [some (zR (some 36)), some (zI x1), some (zI x2), some (zI x3), none, some (zI x5), none, none, none, none, none, none, none] [zI (zshl 1 x5), zI y1] σ) := by
  refine Eq.trans (zY_if_eq (by exact rfl) (by exact dX3_looksRound_62) (t := 72) (by exact rfl) (a2 := nrm y0) (by exact rfl) (zcn (by exact rfl)) (zcn (by exact rfl))) (zif ?_ ?_)
  · exact zY_step (by exact rfl) (by exact dX3_looksRound_72) (by exact rfl) (pc' := 73) (S' := [zI 0, zI y1]) (L2 := [some (zR (some 36)), some (zI x1), some (zI x2), some (zI x3), none, some (zI x5), none, none, none, none, none, none, none]) (by exact rfl) (by exact rfl)
  · refine Eq.trans (zY_step (by exact rfl) (by exact dX3_looksRound_65) (by exact rfl) (pc' := 66) (S' := [zI 1, zI y1]) (by exact rfl) (zcn (by exact rfl))) ?_
    refine Eq.trans (zY_step (by exact rfl) (by exact dX3_looksRound_66) (by exact rfl) (pc' := 68) (S' := [zI x5, zI 1, zI y1]) (by exact rfl) (zcn (by exact rfl))) ?_
    refine Eq.trans (zY_step (by exact rfl) (by exact dX3_looksRound_68) (by exact rfl) (pc' := 69) (S' := [zI (zshl 1 x5), zI y1]) (by exact rfl) (zcn (by exact rfl))) ?_
    exact zY_step (by exact rfl) (by exact dX3_looksRound_69) (by exact rfl) (pc' := 73) (S' := [zI (zshl 1 x5), zI y1]) (L2 := [some (zR (some 36)), some (zI x1), some (zI x2), some (zI x3), none, some (zI x5), none, none, none, none, none, none, none]) (by exact rfl) (by exact rfl)
theorem b_X3_looksRound_98 (d : Nat) (y0 y1 x1 x2 x3 x4 x5 x7 x9 : Int) (σ : zS) : zq d mX3_looksRound 98 [some (zR (some 36)), some (zI x1), some (zI x2), some (zI x3), some (zI x4), some (zJ x5), none, some (zJ x7), none, some (zI x9), none, none, none] [zI y0, zI y1] σ = (if nrm y0 ≤ nrm y1 then zq d mX3_looksRound 117 [some (zR (some 36)), some (zI x1), some (zI x2), some (zI x3), some (zI x4), some (zJ x5), none, some (zJ x7), none, some (zI 0), none, none, none] [] σ else zq d mX3_looksRound 91 [some (zR (some 36)), some (zI x1), some (zI x2), some (zI x3), some (zI x4), some (zJ x5), none, some (zJ (x7 * (nrm x1))), none, some (zI (x9 + 1)), none, none, none] [] σ) := by
  refine Eq.trans (zY_ic_ge (by exact rfl) (by exact dX3_looksRound_98) (t := 114) (by exact rfl) (a2 := nrm y1) (b2 := nrm y0) (by exact rfl) (by exact rfl) (zcn (by exact rfl)) (zcn (by exact rfl))) (zif ?_ ?_)
  · refine Eq.trans (zY_step (by exact rfl) (by exact dX3_looksRound_114) (by exact rfl) (pc' := 115) (S' := [zI 0]) (by exact rfl) (zcn (by exact rfl))) ?_
    exact zY_step (by exact rfl) (by exact dX3_looksRound_115) (by exact rfl) (pc' := 117) (L' := [some (zR (some 36)), some (zI x1), some (zI x2), some (zI x3), some (zI x4), some (zJ x5), none, some (zJ x7), none, some (zI 0), none, none, none]) (S' := []) (by exact rfl) (zcn (by exact rfl))
  · refine Eq.trans (zY_step (by exact rfl) (by exact dX3_looksRound_101) (by exact rfl) (pc' := 103) (S' := [zJ x7]) (by exact rfl) (zcn (by exact rfl))) ?_
    refine Eq.trans (zY_step (by exact rfl) (by exact dX3_looksRound_103) (by exact rfl) (pc' := 104) (S' := [zI x1, zJ x7]) (by exact rfl) (zcn (by exact rfl))) ?_
    refine Eq.trans (zY_step (by exact rfl) (by exact dX3_looksRound_104) (by exact rfl) (pc' := 105) (S' := [zJ (nrm x1), zJ x7]) (by exact rfl) (zcn (by exact rfl))) ?_
    refine Eq.trans (zY_step (by exact rfl) (by exact dX3_looksRound_105) (by exact rfl) (pc' := 106) (S' := [zJ (x7 * (nrm x1))]) (by exact rfl) (zcn (by exact rfl))) ?_
    refine Eq.trans (zY_step (by exact rfl) (by exact dX3_looksRound_106) (by exact rfl) (pc' := 108) (L' := [some (zR (some 36)), some (zI x1), some (zI x2), some (zI x3), some (zI x4), some (zJ x5), none, some (zJ (x7 * (nrm x1))), none, some (zI x9), none, none, none]) (S' := []) (by exact rfl) (zcn (by exact rfl))) ?_
    refine Eq.trans (zY_step (by exact rfl) (by exact dX3_looksRound_108) (by exact rfl) (pc' := 111) (L' := [some (zR (some 36)), some (zI x1), some (zI x2), some (zI x3), some (zI x4), some (zJ x5), none, some (zJ (x7 * (nrm x1))), none, some (zI (x9 + 1)), none, none, none]) (S' := []) (by exact rfl) (zcn (by exact rfl))) ?_
    exact zY_step (by exact rfl) (by exact dX3_looksRound_111) (by exact rfl) (pc' := 91) (S' := []) (by exact rfl) (zcn (by exact rfl))
theorem b_X3_looksRound_73 (d : Nat) (y0 y1 x1 x2 x3 x5 : Int) (σ : zS) : zq d mX3_looksRound 73 [some (zR (some 36)), some (zI x1), some (zI x2), some (zI x3), none, some (zI x5), none, none, none, none, none, none, none] [zI y0, zI y1] σ = zq d mX3_looksRound 39 [some (zR (some 36)), some (zI x1), some (zI x2), some (zI x3), some (zI (zor y1 y0)), some (zI (x5 + 1)), none, none, none, none, none, none, none] [] σ := by
  refine Eq.trans (zY_step (by exact rfl) (by exact dX3_looksRound_73) (by exact rfl) (pc' := 74) (S' := [zI (zor y1 y0)]) (by exact rfl) (zcn (by exact rfl))) ?_
  refine Eq.trans (zY_step (by exact rfl) (by exact dX3_looksRound_74) (by exact rfl) (pc' := 76) (L' := [some (zR (some 36)), some (zI x1), some (zI x2), some (zI x3), some (zI (zor y1 y0)), some (zI x5), none, none, none, none, none, none, none]) (S' := []) (by exact rfl) (zcn (by exact rfl))) ?_
  refine Eq.trans (zY_step (by exact rfl) (by exact dX3_looksRound_76) (by exact rfl) (pc' := 79) (L' := [some (zR (some 36)), some (zI x1), some (zI x2), some (zI x3), some (zI (zor y1 y0)), some (zI (x5 + 1)), none, none, none, none, none, none, none]) (S' := []) (by exact rfl) (zcn (by exact rfl))) ?_
  exact zY_step (by exact rfl) (by exact dX3_looksRound_79) (by exact rfl) (pc' := 39) (S' := []) (by exact rfl) (zcn (by exact rfl))
theorem b_X3_looksRound_117 (d : Nat) (x1 x2 x3 x4 x5 x7 x9 : Int) (σ : zS) : zq (d + 1) mX3_looksRound 117 [some (zR (some 36)), some (zI x1), some (zI x2), some (zI x3), some (zI x4), some (zJ x5), none, some (zJ x7), none, some (zI x9), none, none, none] [] σ = (if nrm x4 < nrm x9 then (zc d mX3_partOf [zJ x5, zJ x7, zI x3] σ).bind fun r => zq (d + 1) mX3_looksRound 229 [some (zR (some 36)), some (zI x1), some (zI x2), some (zI x3), some (zI x4), some (zJ x5), none, some (zJ x7), none, some (zI x9), none, none, none] (r.1.toList ++ []) r.2 else (if nrm (zand x9 (zxor x4 ((-1)))) = 0 then (zc d mX3_copies [zR (some 37), zR (some 38)] σ).bind fun r => zq (d + 1) mX3_looksRound 148 [some (zR (some 36)), some (zI x1), some (zI x2), some (zI x3), some (zI x4), some (zJ x5), none, some (zJ x7), none, some (zI x9), none, none, none] (r.1.toList ++ []) r.2 else zq (d + 1) mX3_looksRound 215 [some (zR (some 36)), some (zI x1), some (zI x2), some (zI x3), some (zI x4), some (zJ x5), none, some (zJ x7), none, some (zI x9), none, none, none] [] σ)) := by
  refine Eq.trans (zY_step (by exact rfl) (by exact dX3_looksRound_117) (by exact rfl) (pc' := 119) (S' := [zI x9]) (by exact rfl) (zcn (by exact rfl))) ?_
  refine Eq.trans (zY_step (by exact rfl) (by exact dX3_looksRound_119) (by exact rfl) (pc' := 121) (S' := [zI x4, zI x9]) (by exact rfl) (zcn (by exact rfl))) ?_
  refine Eq.trans (zY_ic_gt (by exact rfl) (by exact dX3_looksRound_121) (t := 221) (by exact rfl) (a2 := nrm x9) (b2 := nrm x4) (by exact rfl) (by exact rfl) (zcn (by exact rfl)) (zcn (by exact rfl))) (zif ?_ ?_)
  · refine Eq.trans (zY_step (by exact rfl) (by exact dX3_looksRound_221) (by exact rfl) (pc' := 223) (S' := [zJ x5]) (by exact rfl) (zcn (by exact rfl))) ?_
    refine Eq.trans (zY_step (by exact rfl) (by exact dX3_looksRound_223) (by exact rfl) (pc' := 225) (S' := [zJ x7, zJ x5]) (by exact rfl) (zcn (by exact rfl))) ?_
    refine Eq.trans (zY_step (by exact rfl) (by exact dX3_looksRound_225) (by exact rfl) (pc' := 226) (S' := [zI x3, zJ x7, zJ x5]) (by exact rfl) (zcn (by exact rfl))) ?_
    exact zY_S (by exact rfl) (by exact dX3_looksRound_226) (by exact rfl) (by exact Or.inl rfl) (as := [zJ x5, zJ x7, zI x3]) (S' := []) (by exact rfl) (by exact rfl) (by exact Nat.le_of_ble_eq_true rfl) (by exact Nat.le_of_ble_eq_true rfl) (zcn (by exact rfl))
  · refine Eq.trans (zY_step (by exact rfl) (by exact dX3_looksRound_124) (by exact rfl) (pc' := 126) (S' := [zI x9]) (by exact rfl) (zcn (by exact rfl))) ?_
    refine Eq.trans (zY_step (by exact rfl) (by exact dX3_looksRound_126) (by exact rfl) (pc' := 128) (S' := [zI x4, zI x9]) (by exact rfl) (zcn (by exact rfl))) ?_
    refine Eq.trans (zY_step (by exact rfl) (by exact dX3_looksRound_128) (by exact rfl) (pc' := 129) (S' := [zI ((-1)), zI x4, zI x9]) (by exact rfl) (zcn (by exact rfl))) ?_
    refine Eq.trans (zY_step (by exact rfl) (by exact dX3_looksRound_129) (by exact rfl) (pc' := 130) (S' := [zI (zxor x4 ((-1))), zI x9]) (by exact rfl) (zcn (by exact rfl))) ?_
    refine Eq.trans (zY_step (by exact rfl) (by exact dX3_looksRound_130) (by exact rfl) (pc' := 131) (S' := [zI (zand x9 (zxor x4 ((-1))))]) (by exact rfl) (zcn (by exact rfl))) ?_
    refine Eq.trans (zY_if_eq (by exact rfl) (by exact dX3_looksRound_131) (t := 137) (by exact rfl) (a2 := nrm (zand x9 (zxor x4 ((-1))))) (by exact rfl) (zcn (by exact rfl)) (zcn (by exact rfl))) (zif ?_ ?_)
    · refine Eq.trans (zY_step (by exact rfl) (by exact dX3_looksRound_137) (by exact rfl) (pc' := 138) (S' := [zR (some 36)]) (by exact rfl) (zcn (by exact rfl))) ?_
      refine Eq.trans (zY_getR (by exact rfl) (by exact dX3_looksRound_138) (by exact rfl) (by exact rfl) (t := 37) (by exact rfl) (zcn (by exact rfl))) ?_
      refine Eq.trans (zY_step (by exact rfl) (by exact dX3_looksRound_141) (by exact rfl) (pc' := 142) (S' := [zR (some 36), zR (some 37)]) (by exact rfl) (zcn (by exact rfl))) ?_
      refine Eq.trans (zY_getR (by exact rfl) (by exact dX3_looksRound_142) (by exact rfl) (by exact rfl) (t := 38) (by exact rfl) (zcn (by exact rfl))) ?_
      exact zY_S (by exact rfl) (by exact dX3_looksRound_145) (by exact rfl) (by exact Or.inl rfl) (as := [zR (some 37), zR (some 38)]) (S' := []) (by exact rfl) (by exact rfl) (by exact Nat.le_of_ble_eq_true rfl) (by exact Nat.le_of_ble_eq_true rfl) (zcn (by exact rfl))
    · exact zY_step (by exact rfl) (by exact dX3_looksRound_134) (by exact rfl) (pc' := 215) (S' := []) (by exact rfl) (zcn (by exact rfl))
theorem b_X3_looksRound_229 (d : Nat) (y0 x1 x2 x3 x4 x5 x7 x9 : Int) (σ : zS) : zq d mX3_looksRound 229 [some (zR (some 36)), some (zI x1), some (zI x2), some (zI x3), some (zI x4), some (zJ x5), none, some (zJ x7), none, some (zI x9), none, none, none] [zJ y0] σ = some (some (zJ y0), σ) := by
  exact zq_ret (by exact dX3_looksRound_229) (by exact rfl) (rv := some (zJ y0)) (by exact rfl)
theorem b_X3_looksRound_148 (d : Nat) (x1 x2 x3 x4 x5 x7 x9 : Int) (σ : zS) : zq (d + 1) mX3_looksRound 148 [some (zR (some 36)), some (zI x1), some (zI x2), some (zI x3), some (zI x4), some (zJ x5), none, some (zJ x7), none, some (zI x9), none, none, none] [] σ = (zc d mX3_round [zR (some 36), zR (some 38), zI x9] σ).bind fun r => zq (d + 1) mX3_looksRound 158 [some (zR (some 36)), some (zI x1), some (zI x2), some (zI x3), some (zI x4), some (zJ x5), none, some (zJ x7), none, some (zI x9), none, none, none] (r.1.toList ++ []) r.2 := by
  refine Eq.trans (zY_step (by exact rfl) (by exact dX3_looksRound_148) (by exact rfl) (pc' := 149) (S' := [zR (some 36)]) (by exact rfl) (zcn (by exact rfl))) ?_
  refine Eq.trans (zY_step (by exact rfl) (by exact dX3_looksRound_149) (by exact rfl) (pc' := 150) (S' := [zR (some 36), zR (some 36)]) (by exact rfl) (zcn (by exact rfl))) ?_
  refine Eq.trans (zY_getR (by exact rfl) (by exact dX3_looksRound_150) (by exact rfl) (by exact rfl) (t := 38) (by exact rfl) (zcn (by exact rfl))) ?_
  refine Eq.trans (zY_step (by exact rfl) (by exact dX3_looksRound_153) (by exact rfl) (pc' := 155) (S' := [zI x9, zR (some 38), zR (some 36)]) (by exact rfl) (zcn (by exact rfl))) ?_
  exact zY_V (by exact rfl) (by exact dX3_looksRound_155) (by exact rfl) (as := [zR (some 38), zI x9]) (S' := []) (by exact rfl) (by exact rfl) (by exact rfl) (by exact Nat.le_of_ble_eq_true rfl) (by exact Nat.le_of_ble_eq_true rfl) (by exact Nat.le_of_ble_eq_true rfl) (zcn (by exact rfl))
theorem b_X3_looksRound_215 (d : Nat) (x1 x2 x3 x4 x5 x7 x9 : Int) (σ : zS) : zq d mX3_looksRound 215 [some (zR (some 36)), some (zI x1), some (zI x2), some (zI x3), some (zI x4), some (zJ x5), none, some (zJ x7), none, some (zI x9), none, none, none] [] σ = zq d mX3_looksRound 117 [some (zR (some 36)), some (zI x1), some (zI x2), some (zI x3), some (zI x4), some (zJ x5), none, some (zJ x7), none, some (zI (x9 + 1)), none, none, none] [] σ := by
  refine Eq.trans (zY_step (by exact rfl) (by exact dX3_looksRound_215) (by exact rfl) (pc' := 218) (L' := [some (zR (some 36)), some (zI x1), some (zI x2), some (zI x3), some (zI x4), some (zJ x5), none, some (zJ x7), none, some (zI (x9 + 1)), none, none, none]) (S' := []) (by exact rfl) (zcn (by exact rfl))) ?_
  exact zY_step (by exact rfl) (by exact dX3_looksRound_218) (by exact rfl) (pc' := 117) (S' := []) (by exact rfl) (zcn (by exact rfl))
theorem b_X3_looksRound_158 (d : Nat) (x1 x2 x3 x4 x5 x7 x9 : Int) (σ : zS) : zq (d + 1) mX3_looksRound 158 [some (zR (some 36)), some (zI x1), some (zI x2), some (zI x3), some (zI x4), some (zJ x5), none, some (zJ x7), none, some (zI x9), none, none, none] [] σ = (zc d mX3_bits [zI x9] σ).bind fun r => zq (d + 1) mX3_looksRound 166 [some (zR (some 36)), some (zI x1), some (zI x2), some (zI x3), some (zI x4), some (zJ x5), none, some (zJ x7), none, some (zI x9), some (zJ 1), none, none] (r.1.toList ++ []) r.2 := by
  refine Eq.trans (zY_step (by exact rfl) (by exact dX3_looksRound_158) (by exact rfl) (pc' := 159) (S' := [zJ 1]) (by exact rfl) (zcn (by exact rfl))) ?_
  refine Eq.trans (zY_step (by exact rfl) (by exact dX3_looksRound_159) (by exact rfl) (pc' := 161) (L' := [some (zR (some 36)), some (zI x1), some (zI x2), some (zI x3), some (zI x4), some (zJ x5), none, some (zJ x7), none, some (zI x9), some (zJ 1), none, none]) (S' := []) (by exact rfl) (zcn (by exact rfl))) ?_
  refine Eq.trans (zY_step (by exact rfl) (by exact dX3_looksRound_161) (by exact rfl) (pc' := 163) (S' := [zI x9]) (by exact rfl) (zcn (by exact rfl))) ?_
  exact zY_S (by exact rfl) (by exact dX3_looksRound_163) (by exact rfl) (by exact Or.inl rfl) (as := [zI x9]) (S' := []) (by exact rfl) (by exact rfl) (by exact Nat.le_of_ble_eq_true rfl) (by exact Nat.le_of_ble_eq_true rfl) (zcn (by exact rfl))
theorem b_X3_looksRound_166 (d : Nat) (y0 x1 x2 x3 x4 x5 x7 x9 x10 : Int) (σ : zS) : zq d mX3_looksRound 166 [some (zR (some 36)), some (zI x1), some (zI x2), some (zI x3), some (zI x4), some (zJ x5), none, some (zJ x7), none, some (zI x9), some (zJ x10), none, none] [zI y0] σ = zq d mX3_looksRound 168 [some (zR (some 36)), some (zI x1), some (zI x2), some (zI x3), some (zI x4), some (zJ x5), none, some (zJ x7), none, some (zI x9), some (zJ x10), none, some (zI y0)] [] σ := by
  exact zY_step (by exact rfl) (by exact dX3_looksRound_166) (by exact rfl) (pc' := 168) (L' := [some (zR (some 36)), some (zI x1), some (zI x2), some (zI x3), some (zI x4), some (zJ x5), none, some (zJ x7), none, some (zI x9), some (zJ x10), none, some (zI y0)]) (S' := []) (by exact rfl) (zcn (by exact rfl))
theorem b_X3_looksRound_168 (d : Nat) (x1 x2 x3 x4 x5 x7 x9 x10 x12 : Int) (σ : zS) : zq (d + 1) mX3_looksRound 168 [some (zR (some 36)), some (zI x1), some (zI x2), some (zI x3), some (zI x4), some (zJ x5), none, some (zJ x7), none, some (zI x9), some (zJ x10), none, some (zI x12)] [] σ = (zc d mX3_bits [zI x4] σ).bind fun r => zq (d + 1) mX3_looksRound 175 [some (zR (some 36)), some (zI x1), some (zI x2), some (zI x3), some (zI x4), some (zJ x5), none, some (zJ x7), none, some (zI x9), some (zJ x10), none, some (zI x12)] (r.1.toList ++ [zI x12]) r.2 := by
  refine Eq.trans (zY_step (by exact rfl) (by exact dX3_looksRound_168) (by exact rfl) (pc' := 170) (S' := [zI x12]) (by exact rfl) (zcn (by exact rfl))) ?_
  refine Eq.trans (zY_step (by exact rfl) (by exact dX3_looksRound_170) (by exact rfl) (pc' := 172) (S' := [zI x4, zI x12]) (by exact rfl) (zcn (by exact rfl))) ?_
  exact zY_S (by exact rfl) (by exact dX3_looksRound_172) (by exact rfl) (by exact Or.inl rfl) (as := [zI x4]) (S' := [zI x12]) (by exact rfl) (by exact rfl) (by exact Nat.le_of_ble_eq_true rfl) (by exact Nat.le_of_ble_eq_true rfl) (zcn (by exact rfl))
theorem b_X3_looksRound_175 (d : Nat) (y0 y1 x1 x2 x3 x4 x5 x7 x9 x10 x12 : Int) (σ : zS) : zq (d + 1) mX3_looksRound 175 [some (zR (some 36)), some (zI x1), some (zI x2), some (zI x3), some (zI x4), some (zJ x5), none, some (zJ x7), none, some (zI x9), some (zJ x10), none, some (zI x12)] [zI y0, zI y1] σ = (if nrm y0 ≤ nrm y1 then (zc d mX3_tipsAll [zR (some 38)] σ).bind fun r => zq (d + 1) mX3_looksRound 202 [some (zR (some 36)), some (zI x1), some (zI x2), some (zI x3), some (zI x4), some (zJ x5), none, some (zJ x7), none, some (zI x9), some (zJ x10), none, some (zI x12)] (r.1.toList ++ [zJ x5]) r.2 else zq (d + 1) mX3_looksRound 168 [some (zR (some 36)), some (zI x1), some (zI x2), some (zI x3), some (zI x4), some (zJ x5), none, some (zJ x7), none, some (zI x9), some (zJ (x10 * (nrm (x1 - 1)))), none, some (zI (x12 + 1))] [] σ) := by
  refine Eq.trans (zY_ic_ge (by exact rfl) (by exact dX3_looksRound_175) (t := 193) (by exact rfl) (a2 := nrm y1) (b2 := nrm y0) (by exact rfl) (by exact rfl) (zcn (by exact rfl)) (zcn (by exact rfl))) (zif ?_ ?_)
  · refine Eq.trans (zY_step (by exact rfl) (by exact dX3_looksRound_193) (by exact rfl) (pc' := 195) (S' := [zJ x5]) (by exact rfl) (zcn (by exact rfl))) ?_
    refine Eq.trans (zY_step (by exact rfl) (by exact dX3_looksRound_195) (by exact rfl) (pc' := 196) (S' := [zR (some 36), zJ x5]) (by exact rfl) (zcn (by exact rfl))) ?_
    refine Eq.trans (zY_getR (by exact rfl) (by exact dX3_looksRound_196) (by exact rfl) (by exact rfl) (t := 38) (by exact rfl) (zcn (by exact rfl))) ?_
    exact zY_S (by exact rfl) (by exact dX3_looksRound_199) (by exact rfl) (by exact Or.inl rfl) (as := [zR (some 38)]) (S' := [zJ x5]) (by exact rfl) (by exact rfl) (by exact Nat.le_of_ble_eq_true rfl) (by exact Nat.le_of_ble_eq_true rfl) (zcn (by exact rfl))
  · refine Eq.trans (zY_step (by exact rfl) (by exact dX3_looksRound_178) (by exact rfl) (pc' := 180) (S' := [zJ x10]) (by exact rfl) (zcn (by exact rfl))) ?_
    refine Eq.trans (zY_step (by exact rfl) (by exact dX3_looksRound_180) (by exact rfl) (pc' := 181) (S' := [zI x1, zJ x10]) (by exact rfl) (zcn (by exact rfl))) ?_
    refine Eq.trans (zY_step (by exact rfl) (by exact dX3_looksRound_181) (by exact rfl) (pc' := 182) (S' := [zI 1, zI x1, zJ x10]) (by exact rfl) (zcn (by exact rfl))) ?_
    refine Eq.trans (zY_step (by exact rfl) (by exact dX3_looksRound_182) (by exact rfl) (pc' := 183) (S' := [zI (x1 - 1), zJ x10]) (by exact rfl) (zcn (by exact rfl))) ?_
    refine Eq.trans (zY_step (by exact rfl) (by exact dX3_looksRound_183) (by exact rfl) (pc' := 184) (S' := [zJ (nrm (x1 - 1)), zJ x10]) (by exact rfl) (zcn (by exact rfl))) ?_
    refine Eq.trans (zY_step (by exact rfl) (by exact dX3_looksRound_184) (by exact rfl) (pc' := 185) (S' := [zJ (x10 * (nrm (x1 - 1)))]) (by exact rfl) (zcn (by exact rfl))) ?_
    refine Eq.trans (zY_step (by exact rfl) (by exact dX3_looksRound_185) (by exact rfl) (pc' := 187) (L' := [some (zR (some 36)), some (zI x1), some (zI x2), some (zI x3), some (zI x4), some (zJ x5), none, some (zJ x7), none, some (zI x9), some (zJ (x10 * (nrm (x1 - 1)))), none, some (zI x12)]) (S' := []) (by exact rfl) (zcn (by exact rfl))) ?_
    refine Eq.trans (zY_step (by exact rfl) (by exact dX3_looksRound_187) (by exact rfl) (pc' := 190) (L' := [some (zR (some 36)), some (zI x1), some (zI x2), some (zI x3), some (zI x4), some (zJ x5), none, some (zJ x7), none, some (zI x9), some (zJ (x10 * (nrm (x1 - 1)))), none, some (zI (x12 + 1))]) (S' := []) (by exact rfl) (zcn (by exact rfl))) ?_
    exact zY_step (by exact rfl) (by exact dX3_looksRound_190) (by exact rfl) (pc' := 168) (S' := []) (by exact rfl) (zcn (by exact rfl))
theorem b_X3_looksRound_202 (d : Nat) (y0 y1 x1 x2 x3 x4 x5 x7 x9 x10 x12 : Int) (σ : zS) : zq d mX3_looksRound 202 [some (zR (some 36)), some (zI x1), some (zI x2), some (zI x3), some (zI x4), some (zJ x5), none, some (zJ x7), none, some (zI x9), some (zJ x10), none, some (zI x12)] [zI y0, zJ y1] σ = (if nrm x2 < nrm y0 then zq d mX3_looksRound 212 [some (zR (some 36)), some (zI x1), some (zI x2), some (zI x3), some (zI x4), none, none, some (zJ x7), none, some (zI x9), none, none, none] [zJ 0, zJ y1] σ else zq d mX3_looksRound 212 [some (zR (some 36)), some (zI x1), some (zI x2), some (zI x3), some (zI x4), none, none, some (zJ x7), none, some (zI x9), none, none, none] [zJ x10, zJ y1] σ) := by
  refine Eq.trans (zY_step (by exact rfl) (by exact dX3_looksRound_202) (by exact rfl) (pc' := 203) (S' := [zI x2, zI y0, zJ y1]) (by exact rfl) (zcn (by exact rfl))) ?_
  refine Eq.trans (zY_ic_gt (by exact rfl) (by exact dX3_looksRound_203) (t := 211) (by exact rfl) (a2 := nrm y0) (b2 := nrm x2) (by exact rfl) (by exact rfl) (zcn (by exact rfl)) (zcn (by exact rfl))) (zif ?_ ?_)
  · exact zY_step (by exact rfl) (by exact dX3_looksRound_211) (by exact rfl) (pc' := 212) (S' := [zJ 0, zJ y1]) (L2 := [some (zR (some 36)), some (zI x1), some (zI x2), some (zI x3), some (zI x4), none, none, some (zJ x7), none, some (zI x9), none, none, none]) (by exact rfl) (by exact rfl)
  · refine Eq.trans (zY_step (by exact rfl) (by exact dX3_looksRound_206) (by exact rfl) (pc' := 208) (S' := [zJ x10, zJ y1]) (by exact rfl) (zcn (by exact rfl))) ?_
    exact zY_step (by exact rfl) (by exact dX3_looksRound_208) (by exact rfl) (pc' := 212) (S' := [zJ x10, zJ y1]) (L2 := [some (zR (some 36)), some (zI x1), some (zI x2), some (zI x3), some (zI x4), none, none, some (zJ x7), none, some (zI x9), none, none, none]) (by exact rfl) (by exact rfl)
theorem b_X3_looksRound_212 (d : Nat) (y0 y1 x1 x2 x3 x4 x7 x9 : Int) (σ : zS) : zq d mX3_looksRound 212 [some (zR (some 36)), some (zI x1), some (zI x2), some (zI x3), some (zI x4), none, none, some (zJ x7), none, some (zI x9), none, none, none] [zJ y0, zJ y1] σ = zq d mX3_looksRound 215 [some (zR (some 36)), some (zI x1), some (zI x2), some (zI x3), some (zI x4), some (zJ (y1 + y0)), none, some (zJ x7), none, some (zI x9), none, none, none] [] σ := by
  refine Eq.trans (zY_step (by exact rfl) (by exact dX3_looksRound_212) (by exact rfl) (pc' := 213) (S' := [zJ (y1 + y0)]) (by exact rfl) (zcn (by exact rfl))) ?_
  exact zY_step (by exact rfl) (by exact dX3_looksRound_213) (by exact rfl) (pc' := 215) (L' := [some (zR (some 36)), some (zI x1), some (zI x2), some (zI x3), some (zI x4), some (zJ (y1 + y0)), none, some (zJ x7), none, some (zI x9), none, none, none]) (S' := []) (by exact rfl) (zcn (by exact rfl))
theorem e_X3_leastOf (d : Nat) (x0 : Int) (σ : zS) : zc d mX3_leastOf [zI x0] σ = (if ¬ nrm x0 = 0 then (if ¬ nrm x0 = 1 then some (some (zI ((-2147483648))), σ) else some (some (zI ((-32768))), σ)) else some (some (zI ((-128))), σ)) := by
  refine Eq.trans (zc_zq (L := [some (zI x0)]) (by exact rfl)) ?_
  refine Eq.trans (zY_step (by exact rfl) (by exact dX3_leastOf_0) (by exact rfl) (pc' := 1) (S' := [zI x0]) (by exact rfl) (zcn (by exact rfl))) ?_
  refine Eq.trans (zY_if_ne (by exact rfl) (by exact dX3_leastOf_1) (t := 9) (by exact rfl) (a2 := nrm x0) (by exact rfl) (zcn (by exact rfl)) (zcn (by exact rfl))) (zif ?_ ?_)
  · refine Eq.trans (zY_step (by exact rfl) (by exact dX3_leastOf_9) (by exact rfl) (pc' := 10) (S' := [zI x0]) (by exact rfl) (zcn (by exact rfl))) ?_
    refine Eq.trans (zY_step (by exact rfl) (by exact dX3_leastOf_10) (by exact rfl) (pc' := 11) (S' := [zI 1, zI x0]) (by exact rfl) (zcn (by exact rfl))) ?_
    refine Eq.trans (zY_ic_ne (by exact rfl) (by exact dX3_leastOf_11) (t := 20) (by exact rfl) (a2 := nrm x0) (b2 := 1) (by exact rfl) (by decide) (zcn (by exact rfl)) (zcn (by exact rfl))) (zif ?_ ?_)
    · refine Eq.trans (zY_step (by exact rfl) (by exact dX3_leastOf_20) (by exact rfl) (pc' := 22) (S' := [zI ((-2147483648))]) (L2 := [none]) (by exact rfl) (by exact rfl)) ?_
      exact zq_ret (by exact dX3_leastOf_22) (by exact rfl) (rv := some (zI ((-2147483648)))) (by exact rfl)
    · refine Eq.trans (zY_step (by exact rfl) (by exact dX3_leastOf_14) (by exact rfl) (pc' := 17) (S' := [zI ((-32768))]) (by exact rfl) (zcn (by exact rfl))) ?_
      refine Eq.trans (zY_step (by exact rfl) (by exact dX3_leastOf_17) (by exact rfl) (pc' := 22) (S' := [zI ((-32768))]) (L2 := [none]) (by exact rfl) (by exact rfl)) ?_
      exact zq_ret (by exact dX3_leastOf_22) (by exact rfl) (rv := some (zI ((-32768)))) (by exact rfl)
  · refine Eq.trans (zY_step (by exact rfl) (by exact dX3_leastOf_4) (by exact rfl) (pc' := 6) (S' := [zI ((-128))]) (by exact rfl) (zcn (by exact rfl))) ?_
    refine Eq.trans (zY_step (by exact rfl) (by exact dX3_leastOf_6) (by exact rfl) (pc' := 22) (S' := [zI ((-128))]) (L2 := [none]) (by exact rfl) (by exact rfl)) ?_
    exact zq_ret (by exact dX3_leastOf_22) (by exact rfl) (rv := some (zI ((-128)))) (by exact rfl)
theorem e_X3_isTold (d : Nat) (x1 x2 : Int) (σ : zS) : zc d mX3_isTold [zR (some 36), zI x1, zI x2] σ = zq d mX3_isTold 2 [some (zR (some 36)), some (zI x1), some (zI x2), some (zI 0), none] [] σ := by
  refine Eq.trans (zc_zq (L := [some (zR (some 36)), some (zI x1), some (zI x2), none, none]) (by exact rfl)) ?_
  refine Eq.trans (zY_step (by exact rfl) (by exact dX3_isTold_0) (by exact rfl) (pc' := 1) (S' := [zI 0]) (by exact rfl) (zcn (by exact rfl))) ?_
  exact zY_step (by exact rfl) (by exact dX3_isTold_1) (by exact rfl) (pc' := 2) (L' := [some (zR (some 36)), some (zI x1), some (zI x2), some (zI 0), none]) (S' := []) (by exact rfl) (zcn (by exact rfl))
theorem b_X3_isTold_2 (d : Nat) (x1 x2 x3 : Int) (σ : zS) : zq (d + 1) mX3_isTold 2 [some (zR (some 36)), some (zI x1), some (zI x2), some (zI x3), none] [] σ = (if zix x1 8 then (if nrm (σ 49 (nrm x1).toNat) ≤ nrm x3 then some (some (zI 1), σ) else (if zix ((100 * x1) + x3) 800 then (if zix x1 8 then (zc d mX3_leastOf [zI (σ 48 (nrm x1).toNat)] σ).bind fun r => zq (d + 1) mX3_isTold 36 [some (zR (some 36)), some (zI x1), some (zI x2), some (zI x3), some (zI (σ 50 (nrm ((100 * x1) + x3)).toNat))] (r.1.toList ++ [zI (σ 50 (nrm ((100 * x1) + x3)).toNat)]) r.2 else none) else none)) else none) := by
  refine Eq.trans (zY_step (by exact rfl) (by exact dX3_isTold_2) (by exact rfl) (pc' := 3) (S' := [zI x3]) (by exact rfl) (zcn (by exact rfl))) ?_
  refine Eq.trans (zY_step (by exact rfl) (by exact dX3_isTold_3) (by exact rfl) (pc' := 4) (S' := [zR (some 36), zI x3]) (by exact rfl) (zcn (by exact rfl))) ?_
  refine Eq.trans (zY_getR (by exact rfl) (by exact dX3_isTold_4) (by exact rfl) (by exact rfl) (t := 49) (by exact rfl) (zcn (by exact rfl))) ?_
  refine Eq.trans (zY_step (by exact rfl) (by exact dX3_isTold_7) (by exact rfl) (pc' := 8) (S' := [zI x1, zR (some 49), zI x3]) (by exact rfl) (zcn (by exact rfl))) ?_
  refine Eq.trans (zY_iald (by exact rfl) (by exact dX3_isTold_8) (by exact rfl) (by exact rfl) (zcn (by exact rfl))) (zif ?_ rfl)
  · refine Eq.trans (zY_ic_ge (by exact rfl) (by exact dX3_isTold_9) (t := 71) (by exact rfl) (a2 := nrm x3) (b2 := nrm (σ 49 (nrm x1).toNat)) (by exact rfl) (by exact rfl) (zcn (by exact rfl)) (zcn (by exact rfl))) (zif ?_ ?_)
    · refine Eq.trans (zY_step (by exact rfl) (by exact dX3_isTold_71) (by exact rfl) (pc' := 72) (S' := [zI 1]) (by exact rfl) (zcn (by exact rfl))) ?_
      exact zq_ret (by exact dX3_isTold_72) (by exact rfl) (rv := some (zI 1)) (by exact rfl)
    · refine Eq.trans (zY_step (by exact rfl) (by exact dX3_isTold_12) (by exact rfl) (pc' := 13) (S' := [zR (some 36)]) (by exact rfl) (zcn (by exact rfl))) ?_
      refine Eq.trans (zY_getR (by exact rfl) (by exact dX3_isTold_13) (by exact rfl) (by exact rfl) (t := 50) (by exact rfl) (zcn (by exact rfl))) ?_
      refine Eq.trans (zY_step (by exact rfl) (by exact dX3_isTold_16) (by exact rfl) (pc' := 18) (S' := [zI 100, zR (some 50)]) (by exact rfl) (zcn (by exact rfl))) ?_
      refine Eq.trans (zY_step (by exact rfl) (by exact dX3_isTold_18) (by exact rfl) (pc' := 19) (S' := [zI x1, zI 100, zR (some 50)]) (by exact rfl) (zcn (by exact rfl))) ?_
      refine Eq.trans (zY_step (by exact rfl) (by exact dX3_isTold_19) (by exact rfl) (pc' := 20) (S' := [zI (100 * x1), zR (some 50)]) (by exact rfl) (zcn (by exact rfl))) ?_
      refine Eq.trans (zY_step (by exact rfl) (by exact dX3_isTold_20) (by exact rfl) (pc' := 21) (S' := [zI x3, zI (100 * x1), zR (some 50)]) (by exact rfl) (zcn (by exact rfl))) ?_
      refine Eq.trans (zY_step (by exact rfl) (by exact dX3_isTold_21) (by exact rfl) (pc' := 22) (S' := [zI ((100 * x1) + x3), zR (some 50)]) (by exact rfl) (zcn (by exact rfl))) ?_
      refine Eq.trans (zY_iald (by exact rfl) (by exact dX3_isTold_22) (by exact rfl) (by exact rfl) (zcn (by exact rfl))) (zif ?_ rfl)
      · refine Eq.trans (zY_step (by exact rfl) (by exact dX3_isTold_23) (by exact rfl) (pc' := 25) (L' := [some (zR (some 36)), some (zI x1), some (zI x2), some (zI x3), some (zI (σ 50 (nrm ((100 * x1) + x3)).toNat))]) (S' := []) (by exact rfl) (zcn (by exact rfl))) ?_
        refine Eq.trans (zY_step (by exact rfl) (by exact dX3_isTold_25) (by exact rfl) (pc' := 27) (S' := [zI (σ 50 (nrm ((100 * x1) + x3)).toNat)]) (by exact rfl) (zcn (by exact rfl))) ?_
        refine Eq.trans (zY_step (by exact rfl) (by exact dX3_isTold_27) (by exact rfl) (pc' := 28) (S' := [zR (some 36), zI (σ 50 (nrm ((100 * x1) + x3)).toNat)]) (by exact rfl) (zcn (by exact rfl))) ?_
        refine Eq.trans (zY_getR (by exact rfl) (by exact dX3_isTold_28) (by exact rfl) (by exact rfl) (t := 48) (by exact rfl) (zcn (by exact rfl))) ?_
        refine Eq.trans (zY_step (by exact rfl) (by exact dX3_isTold_31) (by exact rfl) (pc' := 32) (S' := [zI x1, zR (some 48), zI (σ 50 (nrm ((100 * x1) + x3)).toNat)]) (by exact rfl) (zcn (by exact rfl))) ?_
        refine Eq.trans (zY_iald (by exact rfl) (by exact dX3_isTold_32) (by exact rfl) (by exact rfl) (zcn (by exact rfl))) (zif ?_ rfl)
        · exact zY_S (by exact rfl) (by exact dX3_isTold_33) (by exact rfl) (by exact Or.inl rfl) (as := [zI (σ 48 (nrm x1).toNat)]) (S' := [zI (σ 50 (nrm ((100 * x1) + x3)).toNat)]) (by exact rfl) (by exact rfl) (by exact Nat.le_of_ble_eq_true rfl) (by exact Nat.le_of_ble_eq_true rfl) (zcn (by exact rfl))
theorem b_X3_isTold_36 (d : Nat) (y0 y1 x1 x2 x3 x4 : Int) (σ : zS) : zq (d + 1) mX3_isTold 36 [some (zR (some 36)), some (zI x1), some (zI x2), some (zI x3), some (zI x4)] [zI y0, zI y1] σ = (if nrm y1 = nrm y0 then zq (d + 1) mX3_isTold 56 [some (zR (some 36)), some (zI x1), some (zI x2), some (zI x3), none] [] σ else (zc d mX3_of [zI x2, zI 2] σ).bind fun r => zq (d + 1) mX3_isTold 50 [some (zR (some 36)), some (zI x1), some (zI x2), some (zI x3), some (zI x4)] (r.1.toList ++ [zR (some 38), zI x4]) r.2) := by
  refine Eq.trans (zY_ic_eq (by exact rfl) (by exact dX3_isTold_36) (t := 56) (by exact rfl) (a2 := nrm y1) (b2 := nrm y0) (by exact rfl) (by exact rfl) (L1 := [some (zR (some 36)), some (zI x1), some (zI x2), some (zI x3), none]) (by exact rfl) (zcn (by exact rfl))) (zif ?_ ?_)
  · exact rfl
  · refine Eq.trans (zY_step (by exact rfl) (by exact dX3_isTold_39) (by exact rfl) (pc' := 41) (S' := [zI x4]) (by exact rfl) (zcn (by exact rfl))) ?_
    refine Eq.trans (zY_step (by exact rfl) (by exact dX3_isTold_41) (by exact rfl) (pc' := 42) (S' := [zR (some 36), zI x4]) (by exact rfl) (zcn (by exact rfl))) ?_
    refine Eq.trans (zY_getR (by exact rfl) (by exact dX3_isTold_42) (by exact rfl) (by exact rfl) (t := 38) (by exact rfl) (zcn (by exact rfl))) ?_
    refine Eq.trans (zY_step (by exact rfl) (by exact dX3_isTold_45) (by exact rfl) (pc' := 46) (S' := [zI x2, zR (some 38), zI x4]) (by exact rfl) (zcn (by exact rfl))) ?_
    refine Eq.trans (zY_step (by exact rfl) (by exact dX3_isTold_46) (by exact rfl) (pc' := 47) (S' := [zI 2, zI x2, zR (some 38), zI x4]) (by exact rfl) (zcn (by exact rfl))) ?_
    exact zY_S (by exact rfl) (by exact dX3_isTold_47) (by exact rfl) (by exact Or.inl rfl) (as := [zI x2, zI 2]) (S' := [zR (some 38), zI x4]) (by exact rfl) (by exact rfl) (by exact Nat.le_of_ble_eq_true rfl) (by exact Nat.le_of_ble_eq_true rfl) (zcn (by exact rfl))
theorem b_X3_isTold_56 (d : Nat) (x1 x2 x3 : Int) (σ : zS) : zq (d + 1) mX3_isTold 56 [some (zR (some 36)), some (zI x1), some (zI x2), some (zI x3), none] [] σ = (zc d mX3_round [zR (some 36), zR (some 38), zI 0] σ).bind fun r => zq (d + 1) mX3_isTold 65 [some (zR (some 36)), some (zI x1), some (zI x2), some (zI x3), none] (r.1.toList ++ []) r.2 := by
  refine Eq.trans (zY_step (by exact rfl) (by exact dX3_isTold_56) (by exact rfl) (pc' := 57) (S' := [zR (some 36)]) (by exact rfl) (zcn (by exact rfl))) ?_
  refine Eq.trans (zY_step (by exact rfl) (by exact dX3_isTold_57) (by exact rfl) (pc' := 58) (S' := [zR (some 36), zR (some 36)]) (by exact rfl) (zcn (by exact rfl))) ?_
  refine Eq.trans (zY_getR (by exact rfl) (by exact dX3_isTold_58) (by exact rfl) (by exact rfl) (t := 38) (by exact rfl) (zcn (by exact rfl))) ?_
  refine Eq.trans (zY_step (by exact rfl) (by exact dX3_isTold_61) (by exact rfl) (pc' := 62) (S' := [zI 0, zR (some 38), zR (some 36)]) (by exact rfl) (zcn (by exact rfl))) ?_
  exact zY_V (by exact rfl) (by exact dX3_isTold_62) (by exact rfl) (as := [zR (some 38), zI 0]) (S' := []) (by exact rfl) (by exact rfl) (by exact rfl) (by exact Nat.le_of_ble_eq_true rfl) (by exact Nat.le_of_ble_eq_true rfl) (by exact Nat.le_of_ble_eq_true rfl) (zcn (by exact rfl))
theorem b_X3_isTold_50 (d : Nat) (y0 y2 x1 x2 x3 x4 : Int) (σ : zS) : zq d mX3_isTold 50 [some (zR (some 36)), some (zI x1), some (zI x2), some (zI x3), some (zI x4)] [zI y0, zR (some 38), zI y2] σ = (if zix y0 35 then (if nrm y2 = nrm (σ 38 (nrm y0).toNat) then zq d mX3_isTold 56 [some (zR (some 36)), some (zI x1), some (zI x2), some (zI x3), none] [] σ else some (some (zI 0), σ)) else none) := by
  refine Eq.trans (zY_iald (by exact rfl) (by exact dX3_isTold_50) (by exact rfl) (by exact rfl) (zcn (by exact rfl))) (zif ?_ rfl)
  · refine Eq.trans (zY_ic_eq (by exact rfl) (by exact dX3_isTold_51) (t := 56) (by exact rfl) (a2 := nrm y2) (b2 := nrm (σ 38 (nrm y0).toNat)) (by exact rfl) (by exact rfl) (L1 := [some (zR (some 36)), some (zI x1), some (zI x2), some (zI x3), none]) (by exact rfl) (zcn (by exact rfl))) (zif ?_ ?_)
    · exact rfl
    · refine Eq.trans (zY_step (by exact rfl) (by exact dX3_isTold_54) (by exact rfl) (pc' := 55) (S' := [zI 0]) (by exact rfl) (zcn (by exact rfl))) ?_
      exact zq_ret (by exact dX3_isTold_55) (by exact rfl) (rv := some (zI 0)) (by exact rfl)
theorem b_X3_isTold_65 (d : Nat) (x1 x2 x3 : Int) (σ : zS) : zq d mX3_isTold 65 [some (zR (some 36)), some (zI x1), some (zI x2), some (zI x3), none] [] σ = zq d mX3_isTold 2 [some (zR (some 36)), some (zI x1), some (zI x2), some (zI (x3 + 1)), none] [] σ := by
  refine Eq.trans (zY_step (by exact rfl) (by exact dX3_isTold_65) (by exact rfl) (pc' := 68) (L' := [some (zR (some 36)), some (zI x1), some (zI x2), some (zI (x3 + 1)), none]) (S' := []) (by exact rfl) (zcn (by exact rfl))) ?_
  exact zY_step (by exact rfl) (by exact dX3_isTold_68) (by exact rfl) (pc' := 2) (S' := []) (by exact rfl) (zcn (by exact rfl))
theorem e_X3_whatIs (d : Nat) (x1 x2 x3 : Int) (σ : zS) : zc (d + 1) mX3_whatIs [zR (some 36), zI x1, zI x2, zI x3] σ = (zc d mX3_isRow [zR (some 36), zI x2] σ).bind fun r => zq (d + 1) mX3_whatIs 5 [some (zR (some 36)), some (zI x1), some (zI x2), some (zI x3), none, none, none] (r.1.toList ++ []) r.2 := by
  refine Eq.trans (zc_zq (L := [some (zR (some 36)), some (zI x1), some (zI x2), some (zI x3), none, none, none]) (by exact rfl)) ?_
  refine Eq.trans (zY_step (by exact rfl) (by exact dX3_whatIs_0) (by exact rfl) (pc' := 1) (S' := [zR (some 36)]) (by exact rfl) (zcn (by exact rfl))) ?_
  refine Eq.trans (zY_step (by exact rfl) (by exact dX3_whatIs_1) (by exact rfl) (pc' := 2) (S' := [zI x2, zR (some 36)]) (by exact rfl) (zcn (by exact rfl))) ?_
  exact zY_V (by exact rfl) (by exact dX3_whatIs_2) (by exact rfl) (as := [zI x2]) (S' := []) (by exact rfl) (by exact rfl) (by exact rfl) (by exact Nat.le_of_ble_eq_true rfl) (by exact Nat.le_of_ble_eq_true rfl) (by exact Nat.le_of_ble_eq_true rfl) (zcn (by exact rfl))
theorem b_X3_whatIs_5 (d : Nat) (y0 x1 x2 x3 : Int) (σ : zS) : zq (d + 1) mX3_whatIs 5 [some (zR (some 36)), some (zI x1), some (zI x2), some (zI x3), none, none, none] [zI y0] σ = (if nrm y0 = 0 then some (some (zI ((-1))), σ) else (zc d mX3_isIn [zI x3, zI 0, zI 1] σ).bind fun r => zq (d + 1) mX3_whatIs 14 [some (zR (some 36)), some (zI x1), some (zI x2), some (zI x3), none, none, none] (r.1.toList ++ []) r.2) := by
  refine Eq.trans (zY_if_eq (by exact rfl) (by exact dX3_whatIs_5) (t := 17) (by exact rfl) (a2 := nrm y0) (by exact rfl) (L1 := [none, none, none, none, none, none, none]) (by exact rfl) (zcn (by exact rfl))) (zif ?_ ?_)
  · refine Eq.trans (zY_step (by exact rfl) (by exact dX3_whatIs_17) (by exact rfl) (pc' := 18) (S' := [zI ((-1))]) (by exact rfl) (zcn (by exact rfl))) ?_
    exact zq_ret (by exact dX3_whatIs_18) (by exact rfl) (rv := some (zI ((-1)))) (by exact rfl)
  · refine Eq.trans (zY_step (by exact rfl) (by exact dX3_whatIs_8) (by exact rfl) (pc' := 9) (S' := [zI x3]) (by exact rfl) (zcn (by exact rfl))) ?_
    refine Eq.trans (zY_step (by exact rfl) (by exact dX3_whatIs_9) (by exact rfl) (pc' := 10) (S' := [zI 0, zI x3]) (by exact rfl) (zcn (by exact rfl))) ?_
    refine Eq.trans (zY_step (by exact rfl) (by exact dX3_whatIs_10) (by exact rfl) (pc' := 11) (S' := [zI 1, zI 0, zI x3]) (by exact rfl) (zcn (by exact rfl))) ?_
    exact zY_S (by exact rfl) (by exact dX3_whatIs_11) (by exact rfl) (by exact Or.inl rfl) (as := [zI x3, zI 0, zI 1]) (S' := []) (by exact rfl) (by exact rfl) (by exact Nat.le_of_ble_eq_true rfl) (by exact Nat.le_of_ble_eq_true rfl) (zcn (by exact rfl))
theorem b_X3_whatIs_14 (d : Nat) (y0 x1 x2 x3 : Int) (σ : zS) : zq (d + 1) mX3_whatIs 14 [some (zR (some 36)), some (zI x1), some (zI x2), some (zI x3), none, none, none] [zI y0] σ = (if ¬ nrm y0 = 0 then (zc d mX3_wrongRow [zR (some 36), zI x1, zI ((-1))] σ).bind fun r => zq (d + 1) mX3_whatIs 25 [some (zR (some 36)), some (zI x1), some (zI x2), some (zI x3), none, none, none] (r.1.toList ++ []) r.2 else some (some (zI ((-1))), σ)) := by
  refine Eq.trans (zY_if_ne (by exact rfl) (by exact dX3_whatIs_14) (t := 19) (by exact rfl) (a2 := nrm y0) (by exact rfl) (L2 := [none, none, none, none, none, none, none]) (zcn (by exact rfl)) (by exact rfl)) (zif ?_ ?_)
  · refine Eq.trans (zY_step (by exact rfl) (by exact dX3_whatIs_19) (by exact rfl) (pc' := 20) (S' := [zR (some 36)]) (by exact rfl) (zcn (by exact rfl))) ?_
    refine Eq.trans (zY_step (by exact rfl) (by exact dX3_whatIs_20) (by exact rfl) (pc' := 21) (S' := [zI x1, zR (some 36)]) (by exact rfl) (zcn (by exact rfl))) ?_
    refine Eq.trans (zY_step (by exact rfl) (by exact dX3_whatIs_21) (by exact rfl) (pc' := 22) (S' := [zI ((-1)), zI x1, zR (some 36)]) (by exact rfl) (zcn (by exact rfl))) ?_
    exact zY_V (by exact rfl) (by exact dX3_whatIs_22) (by exact rfl) (as := [zI x1, zI ((-1))]) (S' := []) (by exact rfl) (by exact rfl) (by exact rfl) (by exact Nat.le_of_ble_eq_true rfl) (by exact Nat.le_of_ble_eq_true rfl) (by exact Nat.le_of_ble_eq_true rfl) (zcn (by exact rfl))
  · refine Eq.trans (zY_step (by exact rfl) (by exact dX3_whatIs_17) (by exact rfl) (pc' := 18) (S' := [zI ((-1))]) (by exact rfl) (zcn (by exact rfl))) ?_
    exact zq_ret (by exact dX3_whatIs_18) (by exact rfl) (rv := some (zI ((-1)))) (by exact rfl)
theorem b_X3_whatIs_25 (d : Nat) (y0 x1 x2 x3 : Int) (σ : zS) : zq d mX3_whatIs 25 [some (zR (some 36)), some (zI x1), some (zI x2), some (zI x3), none, none, none] [zI y0] σ = (if nrm y0 = 0 then zq d mX3_whatIs 41 [some (zR (some 36)), some (zI x1), some (zI x2), some (zI x3), none, some (zI 0), some (zI 0)] [] σ else some (some (zI y0), σ)) := by
  refine Eq.trans (zY_step (by exact rfl) (by exact dX3_whatIs_25) (by exact rfl) (pc' := 27) (L' := [some (zR (some 36)), some (zI x1), some (zI x2), some (zI x3), some (zI y0), none, none]) (S' := []) (by exact rfl) (zcn (by exact rfl))) ?_
  refine Eq.trans (zY_step (by exact rfl) (by exact dX3_whatIs_27) (by exact rfl) (pc' := 29) (S' := [zI y0]) (by exact rfl) (zcn (by exact rfl))) ?_
  refine Eq.trans (zY_if_eq (by exact rfl) (by exact dX3_whatIs_29) (t := 35) (by exact rfl) (a2 := nrm y0) (by exact rfl) (zcn (by exact rfl)) (zcn (by exact rfl))) (zif ?_ ?_)
  · refine Eq.trans (zY_step (by exact rfl) (by exact dX3_whatIs_35) (by exact rfl) (pc' := 36) (S' := [zI 0]) (by exact rfl) (zcn (by exact rfl))) ?_
    refine Eq.trans (zY_step (by exact rfl) (by exact dX3_whatIs_36) (by exact rfl) (pc' := 38) (L' := [some (zR (some 36)), some (zI x1), some (zI x2), some (zI x3), some (zI y0), some (zI 0), none]) (S' := []) (by exact rfl) (zcn (by exact rfl))) ?_
    refine Eq.trans (zY_step (by exact rfl) (by exact dX3_whatIs_38) (by exact rfl) (pc' := 39) (S' := [zI 0]) (by exact rfl) (zcn (by exact rfl))) ?_
    exact zY_step (by exact rfl) (by exact dX3_whatIs_39) (by exact rfl) (pc' := 41) (L' := [some (zR (some 36)), some (zI x1), some (zI x2), some (zI x3), some (zI y0), some (zI 0), some (zI 0)]) (S' := []) (L2 := [some (zR (some 36)), some (zI x1), some (zI x2), some (zI x3), none, some (zI 0), some (zI 0)]) (by exact rfl) (by exact rfl)
  · refine Eq.trans (zY_step (by exact rfl) (by exact dX3_whatIs_32) (by exact rfl) (pc' := 34) (S' := [zI y0]) (by exact rfl) (zcn (by exact rfl))) ?_
    exact zq_ret (by exact dX3_whatIs_34) (by exact rfl) (rv := some (zI y0)) (by exact rfl)
theorem b_X3_whatIs_41 (d : Nat) (x1 x2 x3 x5 x6 : Int) (σ : zS) : zq d mX3_whatIs 41 [some (zR (some 36)), some (zI x1), some (zI x2), some (zI x3), none, some (zI x5), some (zI x6)] [] σ = (if ¬ nrm x3 = 0 then zq d mX3_whatIs 54 [some (zR (some 36)), some (zI x1), some (zI x2), some (zI x3), none, some (zI x5), some (zI x6)] [zI 10, zI x6] σ else zq d mX3_whatIs 54 [some (zR (some 36)), some (zI x1), some (zI x2), some (zI x3), none, some (zI x5), some (zI x6)] [zI 8, zI x6] σ) := by
  refine Eq.trans (zY_step (by exact rfl) (by exact dX3_whatIs_41) (by exact rfl) (pc' := 43) (S' := [zI x6]) (by exact rfl) (zcn (by exact rfl))) ?_
  refine Eq.trans (zY_step (by exact rfl) (by exact dX3_whatIs_43) (by exact rfl) (pc' := 44) (S' := [zI x3, zI x6]) (by exact rfl) (zcn (by exact rfl))) ?_
  refine Eq.trans (zY_if_ne (by exact rfl) (by exact dX3_whatIs_44) (t := 52) (by exact rfl) (a2 := nrm x3) (by exact rfl) (zcn (by exact rfl)) (zcn (by exact rfl))) (zif ?_ ?_)
  · exact zY_step (by exact rfl) (by exact dX3_whatIs_52) (by exact rfl) (pc' := 54) (S' := [zI 10, zI x6]) (by exact rfl) (zcn (by exact rfl))
  · refine Eq.trans (zY_step (by exact rfl) (by exact dX3_whatIs_47) (by exact rfl) (pc' := 49) (S' := [zI 8, zI x6]) (by exact rfl) (zcn (by exact rfl))) ?_
    exact zY_step (by exact rfl) (by exact dX3_whatIs_49) (by exact rfl) (pc' := 54) (S' := [zI 8, zI x6]) (by exact rfl) (zcn (by exact rfl))
theorem b_X3_whatIs_54 (d : Nat) (y0 y1 x1 x2 x3 x5 x6 : Int) (σ : zS) : zq (d + 1) mX3_whatIs 54 [some (zR (some 36)), some (zI x1), some (zI x2), some (zI x3), none, some (zI x5), some (zI x6)] [zI y0, zI y1] σ = (if nrm y0 ≤ nrm y1 then some (some (zI x5), σ) else (zc d mX3_copies [zR (some 37), zR (some 38)] σ).bind fun r => zq (d + 1) mX3_whatIs 68 [some (zR (some 36)), some (zI x1), some (zI x2), some (zI x3), none, some (zI x5), some (zI x6)] (r.1.toList ++ []) r.2) := by
  refine Eq.trans (zY_ic_ge (by exact rfl) (by exact dX3_whatIs_54) (t := 108) (by exact rfl) (a2 := nrm y1) (b2 := nrm y0) (by exact rfl) (by exact rfl) (zcn (by exact rfl)) (zcn (by exact rfl))) (zif ?_ ?_)
  · refine Eq.trans (zY_step (by exact rfl) (by exact dX3_whatIs_108) (by exact rfl) (pc' := 110) (S' := [zI x5]) (by exact rfl) (zcn (by exact rfl))) ?_
    exact zq_ret (by exact dX3_whatIs_110) (by exact rfl) (rv := some (zI x5)) (by exact rfl)
  · refine Eq.trans (zY_step (by exact rfl) (by exact dX3_whatIs_57) (by exact rfl) (pc' := 58) (S' := [zR (some 36)]) (by exact rfl) (zcn (by exact rfl))) ?_
    refine Eq.trans (zY_getR (by exact rfl) (by exact dX3_whatIs_58) (by exact rfl) (by exact rfl) (t := 37) (by exact rfl) (zcn (by exact rfl))) ?_
    refine Eq.trans (zY_step (by exact rfl) (by exact dX3_whatIs_61) (by exact rfl) (pc' := 62) (S' := [zR (some 36), zR (some 37)]) (by exact rfl) (zcn (by exact rfl))) ?_
    refine Eq.trans (zY_getR (by exact rfl) (by exact dX3_whatIs_62) (by exact rfl) (by exact rfl) (t := 38) (by exact rfl) (zcn (by exact rfl))) ?_
    exact zY_S (by exact rfl) (by exact dX3_whatIs_65) (by exact rfl) (by exact Or.inl rfl) (as := [zR (some 37), zR (some 38)]) (S' := []) (by exact rfl) (by exact rfl) (by exact Nat.le_of_ble_eq_true rfl) (by exact Nat.le_of_ble_eq_true rfl) (zcn (by exact rfl))
theorem b_X3_whatIs_68 (d : Nat) (x1 x2 x3 x5 x6 : Int) (σ : zS) : zq (d + 1) mX3_whatIs 68 [some (zR (some 36)), some (zI x1), some (zI x2), some (zI x3), none, some (zI x5), some (zI x6)] [] σ = (zc d mX3_of [zI x2, zI x3] σ).bind fun r => zq (d + 1) mX3_whatIs 77 [some (zR (some 36)), some (zI x1), some (zI x2), some (zI x3), none, some (zI x5), some (zI x6)] (r.1.toList ++ [zR (some 38)]) r.2 := by
  refine Eq.trans (zY_step (by exact rfl) (by exact dX3_whatIs_68) (by exact rfl) (pc' := 69) (S' := [zR (some 36)]) (by exact rfl) (zcn (by exact rfl))) ?_
  refine Eq.trans (zY_getR (by exact rfl) (by exact dX3_whatIs_69) (by exact rfl) (by exact rfl) (t := 38) (by exact rfl) (zcn (by exact rfl))) ?_
  refine Eq.trans (zY_step (by exact rfl) (by exact dX3_whatIs_72) (by exact rfl) (pc' := 73) (S' := [zI x2, zR (some 38)]) (by exact rfl) (zcn (by exact rfl))) ?_
  refine Eq.trans (zY_step (by exact rfl) (by exact dX3_whatIs_73) (by exact rfl) (pc' := 74) (S' := [zI x3, zI x2, zR (some 38)]) (by exact rfl) (zcn (by exact rfl))) ?_
  exact zY_S (by exact rfl) (by exact dX3_whatIs_74) (by exact rfl) (by exact Or.inl rfl) (as := [zI x2, zI x3]) (S' := [zR (some 38)]) (by exact rfl) (by exact rfl) (by exact Nat.le_of_ble_eq_true rfl) (by exact Nat.le_of_ble_eq_true rfl) (zcn (by exact rfl))
theorem b_X3_whatIs_77 (d : Nat) (y0 x1 x2 x3 x5 x6 : Int) (σ : zS) : zq (d + 1) mX3_whatIs 77 [some (zR (some 36)), some (zI x1), some (zI x2), some (zI x3), none, some (zI x5), some (zI x6)] [zI y0, zR (some 38)] σ = (if zix y0 35 then (zc d mX3_isTold [zR (some 36), zI x1, zI x2] (zup σ 38 (nrm y0).toNat x6)).bind fun r => zq (d + 1) mX3_whatIs 88 [some (zR (some 36)), some (zI x1), some (zI x2), some (zI x3), none, some (zI x5), some (zI x6)] (r.1.toList ++ [zI x5]) r.2 else none) := by
  refine Eq.trans (zY_step (by exact rfl) (by exact dX3_whatIs_77) (by exact rfl) (pc' := 79) (S' := [zI x6, zI y0, zR (some 38)]) (by exact rfl) (zcn (by exact rfl))) ?_
  refine Eq.trans (zY_iast (by exact rfl) (by exact dX3_whatIs_79) (by exact rfl) (by exact rfl) (zcn (by exact rfl))) (zif ?_ rfl)
  · refine Eq.trans (zY_step (by exact rfl) (by exact dX3_whatIs_80) (by exact rfl) (pc' := 82) (S' := [zI x5]) (by exact rfl) (zcn (by exact rfl))) ?_
    refine Eq.trans (zY_step (by exact rfl) (by exact dX3_whatIs_82) (by exact rfl) (pc' := 83) (S' := [zR (some 36), zI x5]) (by exact rfl) (zcn (by exact rfl))) ?_
    refine Eq.trans (zY_step (by exact rfl) (by exact dX3_whatIs_83) (by exact rfl) (pc' := 84) (S' := [zI x1, zR (some 36), zI x5]) (by exact rfl) (zcn (by exact rfl))) ?_
    refine Eq.trans (zY_step (by exact rfl) (by exact dX3_whatIs_84) (by exact rfl) (pc' := 85) (S' := [zI x2, zI x1, zR (some 36), zI x5]) (by exact rfl) (zcn (by exact rfl))) ?_
    exact zY_V (by exact rfl) (by exact dX3_whatIs_85) (by exact rfl) (as := [zI x1, zI x2]) (S' := [zI x5]) (by exact rfl) (by exact rfl) (by exact rfl) (by exact Nat.le_of_ble_eq_true rfl) (by exact Nat.le_of_ble_eq_true rfl) (by exact Nat.le_of_ble_eq_true rfl) (zcn (by exact rfl))
theorem b_X3_whatIs_88 (d : Nat) (y0 y1 x1 x2 x3 x5 x6 : Int) (σ : zS) : zq d mX3_whatIs 88 [some (zR (some 36)), some (zI x1), some (zI x2), some (zI x3), none, some (zI x5), some (zI x6)] [zI y0, zI y1] σ = (if nrm y0 = 0 then zq d mX3_whatIs 99 [some (zR (some 36)), some (zI x1), some (zI x2), some (zI x3), none, none, some (zI x6)] [zI 0, zI y1] σ else zq d mX3_whatIs 99 [some (zR (some 36)), some (zI x1), some (zI x2), some (zI x3), none, none, some (zI x6)] [zI (zshl 1 x6), zI y1] σ) := by
  refine Eq.trans (zY_if_eq (by exact rfl) (by exact dX3_whatIs_88) (t := 98) (by exact rfl) (a2 := nrm y0) (by exact rfl) (zcn (by exact rfl)) (zcn (by exact rfl))) (zif ?_ ?_)
  · exact zY_step (by exact rfl) (by exact dX3_whatIs_98) (by exact rfl) (pc' := 99) (S' := [zI 0, zI y1]) (L2 := [some (zR (some 36)), some (zI x1), some (zI x2), some (zI x3), none, none, some (zI x6)]) (by exact rfl) (by exact rfl)
  · refine Eq.trans (zY_step (by exact rfl) (by exact dX3_whatIs_91) (by exact rfl) (pc' := 92) (S' := [zI 1, zI y1]) (by exact rfl) (zcn (by exact rfl))) ?_
    refine Eq.trans (zY_step (by exact rfl) (by exact dX3_whatIs_92) (by exact rfl) (pc' := 94) (S' := [zI x6, zI 1, zI y1]) (by exact rfl) (zcn (by exact rfl))) ?_
    refine Eq.trans (zY_step (by exact rfl) (by exact dX3_whatIs_94) (by exact rfl) (pc' := 95) (S' := [zI (zshl 1 x6), zI y1]) (by exact rfl) (zcn (by exact rfl))) ?_
    exact zY_step (by exact rfl) (by exact dX3_whatIs_95) (by exact rfl) (pc' := 99) (S' := [zI (zshl 1 x6), zI y1]) (L2 := [some (zR (some 36)), some (zI x1), some (zI x2), some (zI x3), none, none, some (zI x6)]) (by exact rfl) (by exact rfl)
theorem b_X3_whatIs_99 (d : Nat) (y0 y1 x1 x2 x3 x6 : Int) (σ : zS) : zq d mX3_whatIs 99 [some (zR (some 36)), some (zI x1), some (zI x2), some (zI x3), none, none, some (zI x6)] [zI y0, zI y1] σ = zq d mX3_whatIs 41 [some (zR (some 36)), some (zI x1), some (zI x2), some (zI x3), none, some (zI (zor y1 y0)), some (zI (x6 + 1))] [] σ := by
  refine Eq.trans (zY_step (by exact rfl) (by exact dX3_whatIs_99) (by exact rfl) (pc' := 100) (S' := [zI (zor y1 y0)]) (by exact rfl) (zcn (by exact rfl))) ?_
  refine Eq.trans (zY_step (by exact rfl) (by exact dX3_whatIs_100) (by exact rfl) (pc' := 102) (L' := [some (zR (some 36)), some (zI x1), some (zI x2), some (zI x3), none, some (zI (zor y1 y0)), some (zI x6)]) (S' := []) (by exact rfl) (zcn (by exact rfl))) ?_
  refine Eq.trans (zY_step (by exact rfl) (by exact dX3_whatIs_102) (by exact rfl) (pc' := 105) (L' := [some (zR (some 36)), some (zI x1), some (zI x2), some (zI x3), none, some (zI (zor y1 y0)), some (zI (x6 + 1))]) (S' := []) (by exact rfl) (zcn (by exact rfl))) ?_
  exact zY_step (by exact rfl) (by exact dX3_whatIs_105) (by exact rfl) (pc' := 41) (S' := []) (L2 := [some (zR (some 36)), some (zI x1), some (zI x2), some (zI x3), none, some (zI (zor y1 y0)), some (zI (x6 + 1))]) (by exact rfl) (by exact rfl)
theorem e_X3_roomAll (d : Nat) (σ : zS) : zc d mX3_roomAll [zR (some 36)] σ = zq d mX3_roomAll 4 [some (zR (some 36)), some (zI 0), some (zI 0)] [] σ := by
  refine Eq.trans (zc_zq (L := [some (zR (some 36)), none, none]) (by exact rfl)) ?_
  refine Eq.trans (zY_step (by exact rfl) (by exact dX3_roomAll_0) (by exact rfl) (pc' := 1) (S' := [zI 0]) (by exact rfl) (zcn (by exact rfl))) ?_
  refine Eq.trans (zY_step (by exact rfl) (by exact dX3_roomAll_1) (by exact rfl) (pc' := 2) (L' := [some (zR (some 36)), some (zI 0), none]) (S' := []) (by exact rfl) (zcn (by exact rfl))) ?_
  refine Eq.trans (zY_step (by exact rfl) (by exact dX3_roomAll_2) (by exact rfl) (pc' := 3) (S' := [zI 0]) (by exact rfl) (zcn (by exact rfl))) ?_
  exact zY_step (by exact rfl) (by exact dX3_roomAll_3) (by exact rfl) (pc' := 4) (L' := [some (zR (some 36)), some (zI 0), some (zI 0)]) (S' := []) (by exact rfl) (zcn (by exact rfl))
theorem b_X3_roomAll_4 (d : Nat) (x1 x2 : Int) (σ : zS) : zq (d + 1) mX3_roomAll 4 [some (zR (some 36)), some (zI x1), some (zI x2)] [] σ = (if nrm (σ 37 0) ≤ nrm x2 then some (some (zI x1), σ) else (zc d mX3_room [zR (some 37), zI x2] σ).bind fun r => zq (d + 1) mX3_roomAll 23 [some (zR (some 36)), some (zI x1), some (zI x2)] (r.1.toList ++ [zI x1]) r.2) := by
  refine Eq.trans (zY_step (by exact rfl) (by exact dX3_roomAll_4) (by exact rfl) (pc' := 5) (S' := [zI x2]) (by exact rfl) (zcn (by exact rfl))) ?_
  refine Eq.trans (zY_step (by exact rfl) (by exact dX3_roomAll_5) (by exact rfl) (pc' := 6) (S' := [zR (some 36), zI x2]) (by exact rfl) (zcn (by exact rfl))) ?_
  refine Eq.trans (zY_getR (by exact rfl) (by exact dX3_roomAll_6) (by exact rfl) (by exact rfl) (t := 37) (by exact rfl) (zcn (by exact rfl))) ?_
  refine Eq.trans (zY_step (by exact rfl) (by exact dX3_roomAll_9) (by exact rfl) (pc' := 10) (S' := [zI 0, zR (some 37), zI x2]) (by exact rfl) (zcn (by exact rfl))) ?_
  refine Eq.trans (zY_ialdc (by exact rfl) (by exact dX3_roomAll_10) (by exact rfl) (by exact rfl) (j := 0) (by decide) (by decide) (zcn (by exact rfl))) ?_
  refine Eq.trans (zY_ic_ge (by exact rfl) (by exact dX3_roomAll_11) (t := 31) (by exact rfl) (a2 := nrm x2) (b2 := nrm (σ 37 0)) (by exact rfl) (by exact rfl) (zcn (by exact rfl)) (zcn (by exact rfl))) (zif ?_ ?_)
  · refine Eq.trans (zY_step (by exact rfl) (by exact dX3_roomAll_31) (by exact rfl) (pc' := 32) (S' := [zI x1]) (by exact rfl) (zcn (by exact rfl))) ?_
    exact zq_ret (by exact dX3_roomAll_32) (by exact rfl) (rv := some (zI x1)) (by exact rfl)
  · refine Eq.trans (zY_step (by exact rfl) (by exact dX3_roomAll_14) (by exact rfl) (pc' := 15) (S' := [zI x1]) (by exact rfl) (zcn (by exact rfl))) ?_
    refine Eq.trans (zY_step (by exact rfl) (by exact dX3_roomAll_15) (by exact rfl) (pc' := 16) (S' := [zR (some 36), zI x1]) (by exact rfl) (zcn (by exact rfl))) ?_
    refine Eq.trans (zY_getR (by exact rfl) (by exact dX3_roomAll_16) (by exact rfl) (by exact rfl) (t := 37) (by exact rfl) (zcn (by exact rfl))) ?_
    refine Eq.trans (zY_step (by exact rfl) (by exact dX3_roomAll_19) (by exact rfl) (pc' := 20) (S' := [zI x2, zR (some 37), zI x1]) (by exact rfl) (zcn (by exact rfl))) ?_
    exact zY_S (by exact rfl) (by exact dX3_roomAll_20) (by exact rfl) (by exact Or.inl rfl) (as := [zR (some 37), zI x2]) (S' := [zI x1]) (by exact rfl) (by exact rfl) (by exact Nat.le_of_ble_eq_true rfl) (by exact Nat.le_of_ble_eq_true rfl) (zcn (by exact rfl))
theorem b_X3_roomAll_23 (d : Nat) (y0 y1 x1 x2 : Int) (σ : zS) : zq d mX3_roomAll 23 [some (zR (some 36)), some (zI x1), some (zI x2)] [zI y0, zI y1] σ = zq d mX3_roomAll 4 [some (zR (some 36)), some (zI (y1 + y0)), some (zI (x2 + 1))] [] σ := by
  refine Eq.trans (zY_step (by exact rfl) (by exact dX3_roomAll_23) (by exact rfl) (pc' := 24) (S' := [zI (y1 + y0)]) (by exact rfl) (zcn (by exact rfl))) ?_
  refine Eq.trans (zY_step (by exact rfl) (by exact dX3_roomAll_24) (by exact rfl) (pc' := 25) (L' := [some (zR (some 36)), some (zI (y1 + y0)), some (zI x2)]) (S' := []) (by exact rfl) (zcn (by exact rfl))) ?_
  refine Eq.trans (zY_step (by exact rfl) (by exact dX3_roomAll_25) (by exact rfl) (pc' := 28) (L' := [some (zR (some 36)), some (zI (y1 + y0)), some (zI (x2 + 1))]) (S' := []) (by exact rfl) (zcn (by exact rfl))) ?_
  exact zY_step (by exact rfl) (by exact dX3_roomAll_28) (by exact rfl) (pc' := 4) (S' := []) (by exact rfl) (zcn (by exact rfl))
theorem e_X3_mean (d : Nat) (x1 : Int) (σ : zS) : zc (d + 1) mX3_mean [zR (some 36), zI x1] σ = (zc d mX3_isIn [zI x1, zI 0, zI 1] σ).bind fun r => zq (d + 1) mX3_mean 6 [some (zR (some 36)), some (zI x1)] (r.1.toList ++ []) r.2 := by
  refine Eq.trans (zc_zq (L := [some (zR (some 36)), some (zI x1)]) (by exact rfl)) ?_
  refine Eq.trans (zY_step (by exact rfl) (by exact dX3_mean_0) (by exact rfl) (pc' := 1) (S' := [zI x1]) (by exact rfl) (zcn (by exact rfl))) ?_
  refine Eq.trans (zY_step (by exact rfl) (by exact dX3_mean_1) (by exact rfl) (pc' := 2) (S' := [zI 0, zI x1]) (by exact rfl) (zcn (by exact rfl))) ?_
  refine Eq.trans (zY_step (by exact rfl) (by exact dX3_mean_2) (by exact rfl) (pc' := 3) (S' := [zI 1, zI 0, zI x1]) (by exact rfl) (zcn (by exact rfl))) ?_
  exact zY_S (by exact rfl) (by exact dX3_mean_3) (by exact rfl) (by exact Or.inl rfl) (as := [zI x1, zI 0, zI 1]) (S' := []) (by exact rfl) (by exact rfl) (by exact Nat.le_of_ble_eq_true rfl) (by exact Nat.le_of_ble_eq_true rfl) (zcn (by exact rfl))
theorem b_X3_mean_6 (d : Nat) (y0 x1 : Int) (σ : zS) : zq (d + 1) mX3_mean 6 [some (zR (some 36)), some (zI x1)] [zI y0] σ = (if nrm y0 = 0 then some (some (zJ 1000000001), σ) else (zc d mX3_roomAll [zR (some 36)] σ).bind fun r => zq (d + 1) mX3_mean 13 [some (zR (some 36)), some (zI x1)] (r.1.toList ++ []) r.2) := by
  refine Eq.trans (zY_if_eq (by exact rfl) (by exact dX3_mean_6) (t := 28) (by exact rfl) (a2 := nrm y0) (by exact rfl) (zcn (by exact rfl)) (zcn (by exact rfl))) (zif ?_ ?_)
  · refine Eq.trans (zY_step (by exact rfl) (by exact dX3_mean_28) (by exact rfl) (pc' := 31) (S' := [zJ 1000000001]) (L2 := [none, none]) (by exact rfl) (by exact rfl)) ?_
    exact zq_ret (by exact dX3_mean_31) (by exact rfl) (rv := some (zJ 1000000001)) (by exact rfl)
  · refine Eq.trans (zY_step (by exact rfl) (by exact dX3_mean_9) (by exact rfl) (pc' := 10) (S' := [zR (some 36)]) (by exact rfl) (zcn (by exact rfl))) ?_
    exact zY_V (by exact rfl) (by exact dX3_mean_10) (by exact rfl) (as := []) (S' := []) (by exact rfl) (by exact rfl) (by exact rfl) (by exact Nat.le_of_ble_eq_true rfl) (by exact Nat.le_of_ble_eq_true rfl) (by exact Nat.le_of_ble_eq_true rfl) (zcn (by exact rfl))
theorem b_X3_mean_13 (d : Nat) (y0 x1 : Int) (σ : zS) : zq (d + 1) mX3_mean 13 [some (zR (some 36)), some (zI x1)] [zI y0] σ = (zc d mX3_partOf [zJ (nrm y0), zJ (nrm (σ 37 0)), zI x1] σ).bind fun r => zq (d + 1) mX3_mean 25 [some (zR (some 36)), some (zI x1)] (r.1.toList ++ []) r.2 := by
  refine Eq.trans (zY_step (by exact rfl) (by exact dX3_mean_13) (by exact rfl) (pc' := 14) (S' := [zJ (nrm y0)]) (by exact rfl) (zcn (by exact rfl))) ?_
  refine Eq.trans (zY_step (by exact rfl) (by exact dX3_mean_14) (by exact rfl) (pc' := 15) (S' := [zR (some 36), zJ (nrm y0)]) (by exact rfl) (zcn (by exact rfl))) ?_
  refine Eq.trans (zY_getR (by exact rfl) (by exact dX3_mean_15) (by exact rfl) (by exact rfl) (t := 37) (by exact rfl) (zcn (by exact rfl))) ?_
  refine Eq.trans (zY_step (by exact rfl) (by exact dX3_mean_18) (by exact rfl) (pc' := 19) (S' := [zI 0, zR (some 37), zJ (nrm y0)]) (by exact rfl) (zcn (by exact rfl))) ?_
  refine Eq.trans (zY_ialdc (by exact rfl) (by exact dX3_mean_19) (by exact rfl) (by exact rfl) (j := 0) (by decide) (by decide) (zcn (by exact rfl))) ?_
  refine Eq.trans (zY_step (by exact rfl) (by exact dX3_mean_20) (by exact rfl) (pc' := 21) (S' := [zJ (nrm (σ 37 0)), zJ (nrm y0)]) (by exact rfl) (zcn (by exact rfl))) ?_
  refine Eq.trans (zY_step (by exact rfl) (by exact dX3_mean_21) (by exact rfl) (pc' := 22) (S' := [zI x1, zJ (nrm (σ 37 0)), zJ (nrm y0)]) (by exact rfl) (zcn (by exact rfl))) ?_
  exact zY_S (by exact rfl) (by exact dX3_mean_22) (by exact rfl) (by exact Or.inl rfl) (as := [zJ (nrm y0), zJ (nrm (σ 37 0)), zI x1]) (S' := []) (by exact rfl) (by exact rfl) (by exact Nat.le_of_ble_eq_true rfl) (by exact Nat.le_of_ble_eq_true rfl) (zcn (by exact rfl))
theorem b_X3_mean_25 (d : Nat) (y0 x1 : Int) (σ : zS) : zq d mX3_mean 25 [some (zR (some 36)), some (zI x1)] [zJ y0] σ = some (some (zJ y0), σ) := by
  refine Eq.trans (zY_step (by exact rfl) (by exact dX3_mean_25) (by exact rfl) (pc' := 31) (S' := [zJ y0]) (L2 := [none, none]) (by exact rfl) (by exact rfl)) ?_
  exact zq_ret (by exact dX3_mean_31) (by exact rfl) (rv := some (zJ y0)) (by exact rfl)
theorem e_X3_tightest (d : Nat) (x1 : Int) (σ : zS) : zc (d + 1) mX3_tightest [zR (some 36), zI x1] σ = (zc d mX3_isIn [zI x1, zI 0, zI 1] σ).bind fun r => zq (d + 1) mX3_tightest 6 [some (zR (some 36)), some (zI x1), none, none] (r.1.toList ++ []) r.2 := by
  refine Eq.trans (zc_zq (L := [some (zR (some 36)), some (zI x1), none, none]) (by exact rfl)) ?_
  refine Eq.trans (zY_step (by exact rfl) (by exact dX3_tightest_0) (by exact rfl) (pc' := 1) (S' := [zI x1]) (by exact rfl) (zcn (by exact rfl))) ?_
  refine Eq.trans (zY_step (by exact rfl) (by exact dX3_tightest_1) (by exact rfl) (pc' := 2) (S' := [zI 0, zI x1]) (by exact rfl) (zcn (by exact rfl))) ?_
  refine Eq.trans (zY_step (by exact rfl) (by exact dX3_tightest_2) (by exact rfl) (pc' := 3) (S' := [zI 1, zI 0, zI x1]) (by exact rfl) (zcn (by exact rfl))) ?_
  exact zY_S (by exact rfl) (by exact dX3_tightest_3) (by exact rfl) (by exact Or.inl rfl) (as := [zI x1, zI 0, zI 1]) (S' := []) (by exact rfl) (by exact rfl) (by exact Nat.le_of_ble_eq_true rfl) (by exact Nat.le_of_ble_eq_true rfl) (zcn (by exact rfl))
theorem b_X3_tightest_6 (d : Nat) (y0 x1 : Int) (σ : zS) : zq d mX3_tightest 6 [some (zR (some 36)), some (zI x1), none, none] [zI y0] σ = (if ¬ nrm y0 = 0 then zq d mX3_tightest 16 [some (zR (some 36)), some (zI x1), some (zI ((-4))), some (zI 0)] [] σ else some (some (zI ((-1))), σ)) := by
  refine Eq.trans (zY_if_ne (by exact rfl) (by exact dX3_tightest_6) (t := 11) (by exact rfl) (a2 := nrm y0) (by exact rfl) (zcn (by exact rfl)) (zcn (by exact rfl))) (zif ?_ ?_)
  · refine Eq.trans (zY_step (by exact rfl) (by exact dX3_tightest_11) (by exact rfl) (pc' := 13) (S' := [zI ((-4))]) (by exact rfl) (zcn (by exact rfl))) ?_
    refine Eq.trans (zY_step (by exact rfl) (by exact dX3_tightest_13) (by exact rfl) (pc' := 14) (L' := [some (zR (some 36)), some (zI x1), some (zI ((-4))), none]) (S' := []) (by exact rfl) (zcn (by exact rfl))) ?_
    refine Eq.trans (zY_step (by exact rfl) (by exact dX3_tightest_14) (by exact rfl) (pc' := 15) (S' := [zI 0]) (by exact rfl) (zcn (by exact rfl))) ?_
    exact zY_step (by exact rfl) (by exact dX3_tightest_15) (by exact rfl) (pc' := 16) (L' := [some (zR (some 36)), some (zI x1), some (zI ((-4))), some (zI 0)]) (S' := []) (by exact rfl) (zcn (by exact rfl))
  · refine Eq.trans (zY_step (by exact rfl) (by exact dX3_tightest_9) (by exact rfl) (pc' := 10) (S' := [zI ((-1))]) (by exact rfl) (zcn (by exact rfl))) ?_
    exact zq_ret (by exact dX3_tightest_10) (by exact rfl) (rv := some (zI ((-1)))) (by exact rfl)
theorem b_X3_tightest_16 (d : Nat) (x1 x2 x3 : Int) (σ : zS) : zq (d + 1) mX3_tightest 16 [some (zR (some 36)), some (zI x1), some (zI x2), some (zI x3)] [] σ = (if nrm (σ 37 0) ≤ nrm x3 then (if nrm x2 < 0 then zq (d + 1) mX3_tightest 65 [none, none, some (zI x2), none] [] σ else (if ¬ nrm x1 = 0 then (zc d mX3_room [zR (some 37), zI x2] σ).bind fun r => zq (d + 1) mX3_tightest 77 [none, none, none, none] (r.1.toList ++ []) r.2 else zq (d + 1) mX3_tightest 65 [none, none, some (zI x2), none] [] σ)) else (if nrm x2 < 0 then zq (d + 1) mX3_tightest 49 [some (zR (some 36)), some (zI x1), none, some (zI x3)] [] σ else (zc d mX3_room [zR (some 37), zI x3] σ).bind fun r => zq (d + 1) mX3_tightest 38 [some (zR (some 36)), some (zI x1), some (zI x2), some (zI x3)] (r.1.toList ++ []) r.2)) := by
  refine Eq.trans (zY_step (by exact rfl) (by exact dX3_tightest_16) (by exact rfl) (pc' := 17) (S' := [zI x3]) (by exact rfl) (zcn (by exact rfl))) ?_
  refine Eq.trans (zY_step (by exact rfl) (by exact dX3_tightest_17) (by exact rfl) (pc' := 18) (S' := [zR (some 36), zI x3]) (by exact rfl) (zcn (by exact rfl))) ?_
  refine Eq.trans (zY_getR (by exact rfl) (by exact dX3_tightest_18) (by exact rfl) (by exact rfl) (t := 37) (by exact rfl) (zcn (by exact rfl))) ?_
  refine Eq.trans (zY_step (by exact rfl) (by exact dX3_tightest_21) (by exact rfl) (pc' := 22) (S' := [zI 0, zR (some 37), zI x3]) (by exact rfl) (zcn (by exact rfl))) ?_
  refine Eq.trans (zY_ialdc (by exact rfl) (by exact dX3_tightest_22) (by exact rfl) (by exact rfl) (j := 0) (by decide) (by decide) (zcn (by exact rfl))) ?_
  refine Eq.trans (zY_ic_ge (by exact rfl) (by exact dX3_tightest_23) (t := 57) (by exact rfl) (a2 := nrm x3) (b2 := nrm (σ 37 0)) (by exact rfl) (by exact rfl) (zcn (by exact rfl)) (zcn (by exact rfl))) (zif ?_ ?_)
  · refine Eq.trans (zY_step (by exact rfl) (by exact dX3_tightest_57) (by exact rfl) (pc' := 58) (S' := [zI x2]) (by exact rfl) (zcn (by exact rfl))) ?_
    refine Eq.trans (zY_if_lt (by exact rfl) (by exact dX3_tightest_58) (t := 65) (by exact rfl) (a2 := nrm x2) (by exact rfl) (L1 := [none, none, some (zI x2), none]) (by exact rfl) (zcn (by exact rfl))) (zif ?_ ?_)
    · exact rfl
    · refine Eq.trans (zY_step (by exact rfl) (by exact dX3_tightest_61) (by exact rfl) (pc' := 62) (S' := [zI x1]) (by exact rfl) (zcn (by exact rfl))) ?_
      refine Eq.trans (zY_if_ne (by exact rfl) (by exact dX3_tightest_62) (t := 69) (by exact rfl) (a2 := nrm x1) (by exact rfl) (L2 := [none, none, some (zI x2), none]) (zcn (by exact rfl)) (by exact rfl)) (zif ?_ ?_)
      · refine Eq.trans (zY_step (by exact rfl) (by exact dX3_tightest_69) (by exact rfl) (pc' := 70) (S' := [zR (some 36)]) (by exact rfl) (zcn (by exact rfl))) ?_
        refine Eq.trans (zY_getR (by exact rfl) (by exact dX3_tightest_70) (by exact rfl) (by exact rfl) (t := 37) (by exact rfl) (zcn (by exact rfl))) ?_
        refine Eq.trans (zY_step (by exact rfl) (by exact dX3_tightest_73) (by exact rfl) (pc' := 74) (S' := [zI x2, zR (some 37)]) (by exact rfl) (zcn (by exact rfl))) ?_
        exact zY_S (by exact rfl) (by exact dX3_tightest_74) (by exact rfl) (by exact Or.inl rfl) (as := [zR (some 37), zI x2]) (S' := []) (by exact rfl) (by exact rfl) (by exact Nat.le_of_ble_eq_true rfl) (by exact Nat.le_of_ble_eq_true rfl) (L2 := [none, none, none, none]) (by exact rfl)
      · exact rfl
  · refine Eq.trans (zY_step (by exact rfl) (by exact dX3_tightest_26) (by exact rfl) (pc' := 27) (S' := [zI x2]) (by exact rfl) (zcn (by exact rfl))) ?_
    refine Eq.trans (zY_if_lt (by exact rfl) (by exact dX3_tightest_27) (t := 49) (by exact rfl) (a2 := nrm x2) (by exact rfl) (L1 := [some (zR (some 36)), some (zI x1), none, some (zI x3)]) (by exact rfl) (zcn (by exact rfl))) (zif ?_ ?_)
    · exact rfl
    · refine Eq.trans (zY_step (by exact rfl) (by exact dX3_tightest_30) (by exact rfl) (pc' := 31) (S' := [zR (some 36)]) (by exact rfl) (zcn (by exact rfl))) ?_
      refine Eq.trans (zY_getR (by exact rfl) (by exact dX3_tightest_31) (by exact rfl) (by exact rfl) (t := 37) (by exact rfl) (zcn (by exact rfl))) ?_
      refine Eq.trans (zY_step (by exact rfl) (by exact dX3_tightest_34) (by exact rfl) (pc' := 35) (S' := [zI x3, zR (some 37)]) (by exact rfl) (zcn (by exact rfl))) ?_
      exact zY_S (by exact rfl) (by exact dX3_tightest_35) (by exact rfl) (by exact Or.inl rfl) (as := [zR (some 37), zI x3]) (S' := []) (by exact rfl) (by exact rfl) (by exact Nat.le_of_ble_eq_true rfl) (by exact Nat.le_of_ble_eq_true rfl) (zcn (by exact rfl))
theorem b_X3_tightest_65 (d : Nat) (x2 : Int) (σ : zS) : zq d mX3_tightest 65 [none, none, some (zI x2), none] [] σ = some (some (zI x2), σ) := by
  refine Eq.trans (zY_step (by exact rfl) (by exact dX3_tightest_65) (by exact rfl) (pc' := 66) (S' := [zI x2]) (by exact rfl) (zcn (by exact rfl))) ?_
  refine Eq.trans (zY_step (by exact rfl) (by exact dX3_tightest_66) (by exact rfl) (pc' := 77) (S' := [zI x2]) (L2 := [none, none, none, none]) (by exact rfl) (by exact rfl)) ?_
  exact zq_ret (by exact dX3_tightest_77) (by exact rfl) (rv := some (zI x2)) (by exact rfl)
theorem b_X3_tightest_77 (d : Nat) (y0 : Int) (σ : zS) : zq d mX3_tightest 77 [none, none, none, none] [zI y0] σ = some (some (zI y0), σ) := by
  exact zq_ret (by exact dX3_tightest_77) (by exact rfl) (rv := some (zI y0)) (by exact rfl)
theorem b_X3_tightest_49 (d : Nat) (x1 x3 : Int) (σ : zS) : zq d mX3_tightest 49 [some (zR (some 36)), some (zI x1), none, some (zI x3)] [] σ = zq d mX3_tightest 51 [some (zR (some 36)), some (zI x1), some (zI x3), some (zI x3)] [] σ := by
  refine Eq.trans (zY_step (by exact rfl) (by exact dX3_tightest_49) (by exact rfl) (pc' := 50) (S' := [zI x3]) (by exact rfl) (zcn (by exact rfl))) ?_
  exact zY_step (by exact rfl) (by exact dX3_tightest_50) (by exact rfl) (pc' := 51) (L' := [some (zR (some 36)), some (zI x1), some (zI x3), some (zI x3)]) (S' := []) (by exact rfl) (zcn (by exact rfl))
theorem b_X3_tightest_38 (d : Nat) (y0 x1 x2 x3 : Int) (σ : zS) : zq (d + 1) mX3_tightest 38 [some (zR (some 36)), some (zI x1), some (zI x2), some (zI x3)] [zI y0] σ = (zc d mX3_room [zR (some 37), zI x2] σ).bind fun r => zq (d + 1) mX3_tightest 46 [some (zR (some 36)), some (zI x1), some (zI x2), some (zI x3)] (r.1.toList ++ [zI y0]) r.2 := by
  refine Eq.trans (zY_step (by exact rfl) (by exact dX3_tightest_38) (by exact rfl) (pc' := 39) (S' := [zR (some 36), zI y0]) (by exact rfl) (zcn (by exact rfl))) ?_
  refine Eq.trans (zY_getR (by exact rfl) (by exact dX3_tightest_39) (by exact rfl) (by exact rfl) (t := 37) (by exact rfl) (zcn (by exact rfl))) ?_
  refine Eq.trans (zY_step (by exact rfl) (by exact dX3_tightest_42) (by exact rfl) (pc' := 43) (S' := [zI x2, zR (some 37), zI y0]) (by exact rfl) (zcn (by exact rfl))) ?_
  exact zY_S (by exact rfl) (by exact dX3_tightest_43) (by exact rfl) (by exact Or.inl rfl) (as := [zR (some 37), zI x2]) (S' := [zI y0]) (by exact rfl) (by exact rfl) (by exact Nat.le_of_ble_eq_true rfl) (by exact Nat.le_of_ble_eq_true rfl) (zcn (by exact rfl))
theorem b_X3_tightest_51 (d : Nat) (x1 x2 x3 : Int) (σ : zS) : zq d mX3_tightest 51 [some (zR (some 36)), some (zI x1), some (zI x2), some (zI x3)] [] σ = zq d mX3_tightest 16 [some (zR (some 36)), some (zI x1), some (zI x2), some (zI (x3 + 1))] [] σ := by
  refine Eq.trans (zY_step (by exact rfl) (by exact dX3_tightest_51) (by exact rfl) (pc' := 54) (L' := [some (zR (some 36)), some (zI x1), some (zI x2), some (zI (x3 + 1))]) (S' := []) (by exact rfl) (zcn (by exact rfl))) ?_
  exact zY_step (by exact rfl) (by exact dX3_tightest_54) (by exact rfl) (pc' := 16) (S' := []) (by exact rfl) (zcn (by exact rfl))
theorem b_X3_tightest_46 (d : Nat) (y0 y1 x1 x2 x3 : Int) (σ : zS) : zq d mX3_tightest 46 [some (zR (some 36)), some (zI x1), some (zI x2), some (zI x3)] [zI y0, zI y1] σ = (if nrm y0 ≤ nrm y1 then zq d mX3_tightest 51 [some (zR (some 36)), some (zI x1), some (zI x2), some (zI x3)] [] σ else zq d mX3_tightest 49 [some (zR (some 36)), some (zI x1), none, some (zI x3)] [] σ) := by
  refine Eq.trans (zY_ic_ge (by exact rfl) (by exact dX3_tightest_46) (t := 51) (by exact rfl) (a2 := nrm y1) (b2 := nrm y0) (by exact rfl) (by exact rfl) (L2 := [some (zR (some 36)), some (zI x1), none, some (zI x3)]) (zcn (by exact rfl)) (by exact rfl)) (zif ?_ ?_)
  · exact rfl
  · exact rfl
theorem e_X3_forged (d : Nat) (x1 : Int) (σ : zS) : zc (d + 1) mX3_forged [zR (some 36), zI x1] σ = (zc d mX3_wrongRow [zR (some 36), zI x1, zI ((-1))] σ).bind fun r => zq (d + 1) mX3_forged 6 [some (zR (some 36)), some (zI x1), none, none] (r.1.toList ++ []) r.2 := by
  refine Eq.trans (zc_zq (L := [some (zR (some 36)), some (zI x1), none, none]) (by exact rfl)) ?_
  refine Eq.trans (zY_step (by exact rfl) (by exact dX3_forged_0) (by exact rfl) (pc' := 1) (S' := [zR (some 36)]) (by exact rfl) (zcn (by exact rfl))) ?_
  refine Eq.trans (zY_step (by exact rfl) (by exact dX3_forged_1) (by exact rfl) (pc' := 2) (S' := [zI x1, zR (some 36)]) (by exact rfl) (zcn (by exact rfl))) ?_
  refine Eq.trans (zY_step (by exact rfl) (by exact dX3_forged_2) (by exact rfl) (pc' := 3) (S' := [zI ((-1)), zI x1, zR (some 36)]) (by exact rfl) (zcn (by exact rfl))) ?_
  exact zY_V (by exact rfl) (by exact dX3_forged_3) (by exact rfl) (as := [zI x1, zI ((-1))]) (S' := []) (by exact rfl) (by exact rfl) (by exact rfl) (by exact Nat.le_of_ble_eq_true rfl) (by exact Nat.le_of_ble_eq_true rfl) (by exact Nat.le_of_ble_eq_true rfl) (zcn (by exact rfl))
theorem b_X3_forged_6 (d : Nat) (y0 x1 : Int) (σ : zS) : zq d mX3_forged 6 [some (zR (some 36)), some (zI x1), none, none] [zI y0] σ = (if nrm y0 = 0 then zq d mX3_forged 15 [some (zR (some 36)), some (zI x1), none, some (zI 0)] [] σ else some (some (zI y0), σ)) := by
  refine Eq.trans (zY_step (by exact rfl) (by exact dX3_forged_6) (by exact rfl) (pc' := 7) (L' := [some (zR (some 36)), some (zI x1), some (zI y0), none]) (S' := []) (by exact rfl) (zcn (by exact rfl))) ?_
  refine Eq.trans (zY_step (by exact rfl) (by exact dX3_forged_7) (by exact rfl) (pc' := 8) (S' := [zI y0]) (by exact rfl) (zcn (by exact rfl))) ?_
  refine Eq.trans (zY_if_eq (by exact rfl) (by exact dX3_forged_8) (t := 13) (by exact rfl) (a2 := nrm y0) (by exact rfl) (zcn (by exact rfl)) (zcn (by exact rfl))) (zif ?_ ?_)
  · refine Eq.trans (zY_step (by exact rfl) (by exact dX3_forged_13) (by exact rfl) (pc' := 14) (S' := [zI 0]) (by exact rfl) (zcn (by exact rfl))) ?_
    exact zY_step (by exact rfl) (by exact dX3_forged_14) (by exact rfl) (pc' := 15) (L' := [some (zR (some 36)), some (zI x1), some (zI y0), some (zI 0)]) (S' := []) (L2 := [some (zR (some 36)), some (zI x1), none, some (zI 0)]) (by exact rfl) (by exact rfl)
  · refine Eq.trans (zY_step (by exact rfl) (by exact dX3_forged_11) (by exact rfl) (pc' := 12) (S' := [zI y0]) (by exact rfl) (zcn (by exact rfl))) ?_
    exact zq_ret (by exact dX3_forged_12) (by exact rfl) (rv := some (zI y0)) (by exact rfl)
theorem b_X3_forged_15 (d : Nat) (x1 x3 : Int) (σ : zS) : zq (d + 1) mX3_forged 15 [some (zR (some 36)), some (zI x1), none, some (zI x3)] [] σ = (if zix x1 8 then (if nrm (σ 49 (nrm x1).toNat) ≤ nrm x3 then some (some (zI ((-4))), σ) else (zc d mX3_isRow [zR (some 36), zI x3] σ).bind fun r => zq (d + 1) mX3_forged 30 [some (zR (some 36)), some (zI x1), none, some (zI x3)] (r.1.toList ++ []) r.2) else none) := by
  refine Eq.trans (zY_step (by exact rfl) (by exact dX3_forged_15) (by exact rfl) (pc' := 16) (S' := [zI x3]) (by exact rfl) (zcn (by exact rfl))) ?_
  refine Eq.trans (zY_step (by exact rfl) (by exact dX3_forged_16) (by exact rfl) (pc' := 17) (S' := [zR (some 36), zI x3]) (by exact rfl) (zcn (by exact rfl))) ?_
  refine Eq.trans (zY_getR (by exact rfl) (by exact dX3_forged_17) (by exact rfl) (by exact rfl) (t := 49) (by exact rfl) (zcn (by exact rfl))) ?_
  refine Eq.trans (zY_step (by exact rfl) (by exact dX3_forged_20) (by exact rfl) (pc' := 21) (S' := [zI x1, zR (some 49), zI x3]) (by exact rfl) (zcn (by exact rfl))) ?_
  refine Eq.trans (zY_iald (by exact rfl) (by exact dX3_forged_21) (by exact rfl) (by exact rfl) (zcn (by exact rfl))) (zif ?_ rfl)
  · refine Eq.trans (zY_ic_ge (by exact rfl) (by exact dX3_forged_22) (t := 67) (by exact rfl) (a2 := nrm x3) (b2 := nrm (σ 49 (nrm x1).toNat)) (by exact rfl) (by exact rfl) (zcn (by exact rfl)) (zcn (by exact rfl))) (zif ?_ ?_)
    · refine Eq.trans (zY_step (by exact rfl) (by exact dX3_forged_67) (by exact rfl) (pc' := 69) (S' := [zI ((-4))]) (by exact rfl) (zcn (by exact rfl))) ?_
      exact zq_ret (by exact dX3_forged_69) (by exact rfl) (rv := some (zI ((-4)))) (by exact rfl)
    · refine Eq.trans (zY_step (by exact rfl) (by exact dX3_forged_25) (by exact rfl) (pc' := 26) (S' := [zR (some 36)]) (by exact rfl) (zcn (by exact rfl))) ?_
      refine Eq.trans (zY_step (by exact rfl) (by exact dX3_forged_26) (by exact rfl) (pc' := 27) (S' := [zI x3, zR (some 36)]) (by exact rfl) (zcn (by exact rfl))) ?_
      exact zY_V (by exact rfl) (by exact dX3_forged_27) (by exact rfl) (as := [zI x3]) (S' := []) (by exact rfl) (by exact rfl) (by exact rfl) (by exact Nat.le_of_ble_eq_true rfl) (by exact Nat.le_of_ble_eq_true rfl) (by exact Nat.le_of_ble_eq_true rfl) (zcn (by exact rfl))
theorem b_X3_forged_30 (d : Nat) (y0 x1 x3 : Int) (σ : zS) : zq (d + 1) mX3_forged 30 [some (zR (some 36)), some (zI x1), none, some (zI x3)] [zI y0] σ = (if nrm y0 = 0 then some (some (zI x3), σ) else (if zix ((100 * x1) + x3) 800 then (zc d mX3_can [zR (some 37), zI x3] σ).bind fun r => zq (d + 1) mX3_forged 53 [some (zR (some 36)), some (zI x1), none, some (zI x3)] (r.1.toList ++ [zI 0, zI (σ 50 (nrm ((100 * x1) + x3)).toNat)]) r.2 else none)) := by
  refine Eq.trans (zY_if_eq (by exact rfl) (by exact dX3_forged_30) (t := 59) (by exact rfl) (a2 := nrm y0) (by exact rfl) (L1 := [none, none, none, some (zI x3)]) (by exact rfl) (zcn (by exact rfl))) (zif ?_ ?_)
  · refine Eq.trans (zY_step (by exact rfl) (by exact dX3_forged_59) (by exact rfl) (pc' := 60) (S' := [zI x3]) (by exact rfl) (zcn (by exact rfl))) ?_
    exact zq_ret (by exact dX3_forged_60) (by exact rfl) (rv := some (zI x3)) (by exact rfl)
  · refine Eq.trans (zY_step (by exact rfl) (by exact dX3_forged_33) (by exact rfl) (pc' := 34) (S' := [zR (some 36)]) (by exact rfl) (zcn (by exact rfl))) ?_
    refine Eq.trans (zY_getR (by exact rfl) (by exact dX3_forged_34) (by exact rfl) (by exact rfl) (t := 50) (by exact rfl) (zcn (by exact rfl))) ?_
    refine Eq.trans (zY_step (by exact rfl) (by exact dX3_forged_37) (by exact rfl) (pc' := 39) (S' := [zI 100, zR (some 50)]) (by exact rfl) (zcn (by exact rfl))) ?_
    refine Eq.trans (zY_step (by exact rfl) (by exact dX3_forged_39) (by exact rfl) (pc' := 40) (S' := [zI x1, zI 100, zR (some 50)]) (by exact rfl) (zcn (by exact rfl))) ?_
    refine Eq.trans (zY_step (by exact rfl) (by exact dX3_forged_40) (by exact rfl) (pc' := 41) (S' := [zI (100 * x1), zR (some 50)]) (by exact rfl) (zcn (by exact rfl))) ?_
    refine Eq.trans (zY_step (by exact rfl) (by exact dX3_forged_41) (by exact rfl) (pc' := 42) (S' := [zI x3, zI (100 * x1), zR (some 50)]) (by exact rfl) (zcn (by exact rfl))) ?_
    refine Eq.trans (zY_step (by exact rfl) (by exact dX3_forged_42) (by exact rfl) (pc' := 43) (S' := [zI ((100 * x1) + x3), zR (some 50)]) (by exact rfl) (zcn (by exact rfl))) ?_
    refine Eq.trans (zY_iald (by exact rfl) (by exact dX3_forged_43) (by exact rfl) (by exact rfl) (zcn (by exact rfl))) (zif ?_ rfl)
    · refine Eq.trans (zY_step (by exact rfl) (by exact dX3_forged_44) (by exact rfl) (pc' := 45) (S' := [zI 0, zI (σ 50 (nrm ((100 * x1) + x3)).toNat)]) (by exact rfl) (zcn (by exact rfl))) ?_
      refine Eq.trans (zY_step (by exact rfl) (by exact dX3_forged_45) (by exact rfl) (pc' := 46) (S' := [zR (some 36), zI 0, zI (σ 50 (nrm ((100 * x1) + x3)).toNat)]) (by exact rfl) (zcn (by exact rfl))) ?_
      refine Eq.trans (zY_getR (by exact rfl) (by exact dX3_forged_46) (by exact rfl) (by exact rfl) (t := 37) (by exact rfl) (zcn (by exact rfl))) ?_
      refine Eq.trans (zY_step (by exact rfl) (by exact dX3_forged_49) (by exact rfl) (pc' := 50) (S' := [zI x3, zR (some 37), zI 0, zI (σ 50 (nrm ((100 * x1) + x3)).toNat)]) (by exact rfl) (zcn (by exact rfl))) ?_
      exact zY_S (by exact rfl) (by exact dX3_forged_50) (by exact rfl) (by exact Or.inl rfl) (as := [zR (some 37), zI x3]) (S' := [zI 0, zI (σ 50 (nrm ((100 * x1) + x3)).toNat)]) (by exact rfl) (by exact rfl) (by exact Nat.le_of_ble_eq_true rfl) (by exact Nat.le_of_ble_eq_true rfl) (zcn (by exact rfl))
theorem b_X3_forged_53 (d : Nat) (y0 y1 y2 x1 x3 : Int) (σ : zS) : zq (d + 1) mX3_forged 53 [some (zR (some 36)), some (zI x1), none, some (zI x3)] [zI y0, zI y1, zI y2] σ = (zc d mX3_isIn [zI y2, zI y1, zI y0] σ).bind fun r => zq (d + 1) mX3_forged 56 [some (zR (some 36)), some (zI x1), none, some (zI x3)] (r.1.toList ++ []) r.2 := by
  exact zY_S (by exact rfl) (by exact dX3_forged_53) (by exact rfl) (by exact Or.inl rfl) (as := [zI y2, zI y1, zI y0]) (S' := []) (by exact rfl) (by exact rfl) (by exact Nat.le_of_ble_eq_true rfl) (by exact Nat.le_of_ble_eq_true rfl) (zcn (by exact rfl))
theorem b_X3_forged_56 (d : Nat) (y0 x1 x3 : Int) (σ : zS) : zq d mX3_forged 56 [some (zR (some 36)), some (zI x1), none, some (zI x3)] [zI y0] σ = (if ¬ nrm y0 = 0 then zq d mX3_forged 15 [some (zR (some 36)), some (zI x1), none, some (zI (x3 + 1))] [] σ else some (some (zI x3), σ)) := by
  refine Eq.trans (zY_if_ne (by exact rfl) (by exact dX3_forged_56) (t := 61) (by exact rfl) (a2 := nrm y0) (by exact rfl) (L2 := [none, none, none, some (zI x3)]) (zcn (by exact rfl)) (by exact rfl)) (zif ?_ ?_)
  · refine Eq.trans (zY_step (by exact rfl) (by exact dX3_forged_61) (by exact rfl) (pc' := 64) (L' := [some (zR (some 36)), some (zI x1), none, some (zI (x3 + 1))]) (S' := []) (by exact rfl) (zcn (by exact rfl))) ?_
    exact zY_step (by exact rfl) (by exact dX3_forged_64) (by exact rfl) (pc' := 15) (S' := []) (L2 := [some (zR (some 36)), some (zI x1), none, some (zI (x3 + 1))]) (by exact rfl) (by exact rfl)
  · refine Eq.trans (zY_step (by exact rfl) (by exact dX3_forged_59) (by exact rfl) (pc' := 60) (S' := [zI x3]) (by exact rfl) (zcn (by exact rfl))) ?_
    exact zq_ret (by exact dX3_forged_60) (by exact rfl) (rv := some (zI x3)) (by exact rfl)
theorem e_X3_judge (d : Nat) (x1 : Int) (σ : zS) : zc (d + 1) mX3_judge [zR (some 36), zI x1] σ = (zc d mX3_wrongRow [zR (some 36), zI x1, zI ((-1))] σ).bind fun r => zq (d + 1) mX3_judge 6 [some (zR (some 36)), some (zI x1), none, none, none] (r.1.toList ++ []) r.2 := by
  refine Eq.trans (zc_zq (L := [some (zR (some 36)), some (zI x1), none, none, none]) (by exact rfl)) ?_
  refine Eq.trans (zY_step (by exact rfl) (by exact dX3_judge_0) (by exact rfl) (pc' := 1) (S' := [zR (some 36)]) (by exact rfl) (zcn (by exact rfl))) ?_
  refine Eq.trans (zY_step (by exact rfl) (by exact dX3_judge_1) (by exact rfl) (pc' := 2) (S' := [zI x1, zR (some 36)]) (by exact rfl) (zcn (by exact rfl))) ?_
  refine Eq.trans (zY_step (by exact rfl) (by exact dX3_judge_2) (by exact rfl) (pc' := 3) (S' := [zI ((-1)), zI x1, zR (some 36)]) (by exact rfl) (zcn (by exact rfl))) ?_
  exact zY_V (by exact rfl) (by exact dX3_judge_3) (by exact rfl) (as := [zI x1, zI ((-1))]) (S' := []) (by exact rfl) (by exact rfl) (by exact rfl) (by exact Nat.le_of_ble_eq_true rfl) (by exact Nat.le_of_ble_eq_true rfl) (by exact Nat.le_of_ble_eq_true rfl) (zcn (by exact rfl))
theorem b_X3_judge_6 (d : Nat) (y0 x1 : Int) (σ : zS) : zq (d + 1) mX3_judge 6 [some (zR (some 36)), some (zI x1), none, none, none] [zI y0] σ = (if nrm y0 = 0 then (zc d mX3_copies [zR (some 37), zR (some 38)] σ).bind fun r => zq (d + 1) mX3_judge 24 [some (zR (some 36)), some (zI x1), some (zI y0), none, none] (r.1.toList ++ []) r.2 else some (some (zI y0), σ)) := by
  refine Eq.trans (zY_step (by exact rfl) (by exact dX3_judge_6) (by exact rfl) (pc' := 7) (L' := [some (zR (some 36)), some (zI x1), some (zI y0), none, none]) (S' := []) (by exact rfl) (zcn (by exact rfl))) ?_
  refine Eq.trans (zY_step (by exact rfl) (by exact dX3_judge_7) (by exact rfl) (pc' := 8) (S' := [zI y0]) (by exact rfl) (zcn (by exact rfl))) ?_
  refine Eq.trans (zY_if_eq (by exact rfl) (by exact dX3_judge_8) (t := 13) (by exact rfl) (a2 := nrm y0) (by exact rfl) (zcn (by exact rfl)) (zcn (by exact rfl))) (zif ?_ ?_)
  · refine Eq.trans (zY_step (by exact rfl) (by exact dX3_judge_13) (by exact rfl) (pc' := 14) (S' := [zR (some 36)]) (by exact rfl) (zcn (by exact rfl))) ?_
    refine Eq.trans (zY_getR (by exact rfl) (by exact dX3_judge_14) (by exact rfl) (by exact rfl) (t := 37) (by exact rfl) (zcn (by exact rfl))) ?_
    refine Eq.trans (zY_step (by exact rfl) (by exact dX3_judge_17) (by exact rfl) (pc' := 18) (S' := [zR (some 36), zR (some 37)]) (by exact rfl) (zcn (by exact rfl))) ?_
    refine Eq.trans (zY_getR (by exact rfl) (by exact dX3_judge_18) (by exact rfl) (by exact rfl) (t := 38) (by exact rfl) (zcn (by exact rfl))) ?_
    exact zY_S (by exact rfl) (by exact dX3_judge_21) (by exact rfl) (by exact Or.inl rfl) (as := [zR (some 37), zR (some 38)]) (S' := []) (by exact rfl) (by exact rfl) (by exact Nat.le_of_ble_eq_true rfl) (by exact Nat.le_of_ble_eq_true rfl) (zcn (by exact rfl))
  · refine Eq.trans (zY_step (by exact rfl) (by exact dX3_judge_11) (by exact rfl) (pc' := 12) (S' := [zI y0]) (by exact rfl) (zcn (by exact rfl))) ?_
    exact zq_ret (by exact dX3_judge_12) (by exact rfl) (rv := some (zI y0)) (by exact rfl)
theorem b_X3_judge_24 (d : Nat) (x1 x2 : Int) (σ : zS) : zq d mX3_judge 24 [some (zR (some 36)), some (zI x1), some (zI x2), none, none] [] σ = zq d mX3_judge 26 [some (zR (some 36)), some (zI x1), none, some (zI 0), none] [] σ := by
  refine Eq.trans (zY_step (by exact rfl) (by exact dX3_judge_24) (by exact rfl) (pc' := 25) (S' := [zI 0]) (by exact rfl) (zcn (by exact rfl))) ?_
  exact zY_step (by exact rfl) (by exact dX3_judge_25) (by exact rfl) (pc' := 26) (L' := [some (zR (some 36)), some (zI x1), some (zI x2), some (zI 0), none]) (S' := []) (L2 := [some (zR (some 36)), some (zI x1), none, some (zI 0), none]) (by exact rfl) (by exact rfl)
theorem b_X3_judge_26 (d : Nat) (x1 x3 : Int) (σ : zS) : zq (d + 1) mX3_judge 26 [some (zR (some 36)), some (zI x1), none, some (zI x3), none] [] σ = (if zix x1 8 then (if nrm (σ 49 (nrm x1).toNat) ≤ nrm x3 then some (some (zI ((-4))), σ) else (if zix ((100 * x1) + x3) 800 then (if zix x1 8 then (zc d mX3_leastOf [zI (σ 48 (nrm x1).toNat)] σ).bind fun r => zq (d + 1) mX3_judge 60 [some (zR (some 36)), some (zI x1), none, some (zI x3), some (zI (σ 50 (nrm ((100 * x1) + x3)).toNat))] (r.1.toList ++ [zI (σ 50 (nrm ((100 * x1) + x3)).toNat)]) r.2 else none) else none)) else none) := by
  refine Eq.trans (zY_step (by exact rfl) (by exact dX3_judge_26) (by exact rfl) (pc' := 27) (S' := [zI x3]) (by exact rfl) (zcn (by exact rfl))) ?_
  refine Eq.trans (zY_step (by exact rfl) (by exact dX3_judge_27) (by exact rfl) (pc' := 28) (S' := [zR (some 36), zI x3]) (by exact rfl) (zcn (by exact rfl))) ?_
  refine Eq.trans (zY_getR (by exact rfl) (by exact dX3_judge_28) (by exact rfl) (by exact rfl) (t := 49) (by exact rfl) (zcn (by exact rfl))) ?_
  refine Eq.trans (zY_step (by exact rfl) (by exact dX3_judge_31) (by exact rfl) (pc' := 32) (S' := [zI x1, zR (some 49), zI x3]) (by exact rfl) (zcn (by exact rfl))) ?_
  refine Eq.trans (zY_iald (by exact rfl) (by exact dX3_judge_32) (by exact rfl) (by exact rfl) (zcn (by exact rfl))) (zif ?_ rfl)
  · refine Eq.trans (zY_ic_ge (by exact rfl) (by exact dX3_judge_33) (t := 92) (by exact rfl) (a2 := nrm x3) (b2 := nrm (σ 49 (nrm x1).toNat)) (by exact rfl) (by exact rfl) (zcn (by exact rfl)) (zcn (by exact rfl))) (zif ?_ ?_)
    · refine Eq.trans (zY_step (by exact rfl) (by exact dX3_judge_92) (by exact rfl) (pc' := 94) (S' := [zI ((-4))]) (by exact rfl) (zcn (by exact rfl))) ?_
      exact zq_ret (by exact dX3_judge_94) (by exact rfl) (rv := some (zI ((-4)))) (by exact rfl)
    · refine Eq.trans (zY_step (by exact rfl) (by exact dX3_judge_36) (by exact rfl) (pc' := 37) (S' := [zR (some 36)]) (by exact rfl) (zcn (by exact rfl))) ?_
      refine Eq.trans (zY_getR (by exact rfl) (by exact dX3_judge_37) (by exact rfl) (by exact rfl) (t := 50) (by exact rfl) (zcn (by exact rfl))) ?_
      refine Eq.trans (zY_step (by exact rfl) (by exact dX3_judge_40) (by exact rfl) (pc' := 42) (S' := [zI 100, zR (some 50)]) (by exact rfl) (zcn (by exact rfl))) ?_
      refine Eq.trans (zY_step (by exact rfl) (by exact dX3_judge_42) (by exact rfl) (pc' := 43) (S' := [zI x1, zI 100, zR (some 50)]) (by exact rfl) (zcn (by exact rfl))) ?_
      refine Eq.trans (zY_step (by exact rfl) (by exact dX3_judge_43) (by exact rfl) (pc' := 44) (S' := [zI (100 * x1), zR (some 50)]) (by exact rfl) (zcn (by exact rfl))) ?_
      refine Eq.trans (zY_step (by exact rfl) (by exact dX3_judge_44) (by exact rfl) (pc' := 45) (S' := [zI x3, zI (100 * x1), zR (some 50)]) (by exact rfl) (zcn (by exact rfl))) ?_
      refine Eq.trans (zY_step (by exact rfl) (by exact dX3_judge_45) (by exact rfl) (pc' := 46) (S' := [zI ((100 * x1) + x3), zR (some 50)]) (by exact rfl) (zcn (by exact rfl))) ?_
      refine Eq.trans (zY_iald (by exact rfl) (by exact dX3_judge_46) (by exact rfl) (by exact rfl) (zcn (by exact rfl))) (zif ?_ rfl)
      · refine Eq.trans (zY_step (by exact rfl) (by exact dX3_judge_47) (by exact rfl) (pc' := 49) (L' := [some (zR (some 36)), some (zI x1), none, some (zI x3), some (zI (σ 50 (nrm ((100 * x1) + x3)).toNat))]) (S' := []) (by exact rfl) (zcn (by exact rfl))) ?_
        refine Eq.trans (zY_step (by exact rfl) (by exact dX3_judge_49) (by exact rfl) (pc' := 51) (S' := [zI (σ 50 (nrm ((100 * x1) + x3)).toNat)]) (by exact rfl) (zcn (by exact rfl))) ?_
        refine Eq.trans (zY_step (by exact rfl) (by exact dX3_judge_51) (by exact rfl) (pc' := 52) (S' := [zR (some 36), zI (σ 50 (nrm ((100 * x1) + x3)).toNat)]) (by exact rfl) (zcn (by exact rfl))) ?_
        refine Eq.trans (zY_getR (by exact rfl) (by exact dX3_judge_52) (by exact rfl) (by exact rfl) (t := 48) (by exact rfl) (zcn (by exact rfl))) ?_
        refine Eq.trans (zY_step (by exact rfl) (by exact dX3_judge_55) (by exact rfl) (pc' := 56) (S' := [zI x1, zR (some 48), zI (σ 50 (nrm ((100 * x1) + x3)).toNat)]) (by exact rfl) (zcn (by exact rfl))) ?_
        refine Eq.trans (zY_iald (by exact rfl) (by exact dX3_judge_56) (by exact rfl) (by exact rfl) (zcn (by exact rfl))) (zif ?_ rfl)
        · exact zY_S (by exact rfl) (by exact dX3_judge_57) (by exact rfl) (by exact Or.inl rfl) (as := [zI (σ 48 (nrm x1).toNat)]) (S' := [zI (σ 50 (nrm ((100 * x1) + x3)).toNat)]) (by exact rfl) (by exact rfl) (by exact Nat.le_of_ble_eq_true rfl) (by exact Nat.le_of_ble_eq_true rfl) (zcn (by exact rfl))
theorem b_X3_judge_60 (d : Nat) (y0 y1 x1 x3 x4 : Int) (σ : zS) : zq (d + 1) mX3_judge 60 [some (zR (some 36)), some (zI x1), none, some (zI x3), some (zI x4)] [zI y0, zI y1] σ = (if nrm y1 = nrm y0 then zq (d + 1) mX3_judge 77 [some (zR (some 36)), some (zI x1), none, some (zI x3), none] [] σ else (zc d mX3_tipsAll [zR (some 38)] σ).bind fun r => zq (d + 1) mX3_judge 72 [some (zR (some 36)), some (zI x1), none, some (zI x3), some (zI x4)] (r.1.toList ++ [zI x4]) r.2) := by
  refine Eq.trans (zY_ic_eq (by exact rfl) (by exact dX3_judge_60) (t := 77) (by exact rfl) (a2 := nrm y1) (b2 := nrm y0) (by exact rfl) (by exact rfl) (L1 := [some (zR (some 36)), some (zI x1), none, some (zI x3), none]) (by exact rfl) (zcn (by exact rfl))) (zif ?_ ?_)
  · exact rfl
  · refine Eq.trans (zY_step (by exact rfl) (by exact dX3_judge_63) (by exact rfl) (pc' := 65) (S' := [zI x4]) (by exact rfl) (zcn (by exact rfl))) ?_
    refine Eq.trans (zY_step (by exact rfl) (by exact dX3_judge_65) (by exact rfl) (pc' := 66) (S' := [zR (some 36), zI x4]) (by exact rfl) (zcn (by exact rfl))) ?_
    refine Eq.trans (zY_getR (by exact rfl) (by exact dX3_judge_66) (by exact rfl) (by exact rfl) (t := 38) (by exact rfl) (zcn (by exact rfl))) ?_
    exact zY_S (by exact rfl) (by exact dX3_judge_69) (by exact rfl) (by exact Or.inl rfl) (as := [zR (some 38)]) (S' := [zI x4]) (by exact rfl) (by exact rfl) (by exact Nat.le_of_ble_eq_true rfl) (by exact Nat.le_of_ble_eq_true rfl) (zcn (by exact rfl))
theorem b_X3_judge_77 (d : Nat) (x1 x3 : Int) (σ : zS) : zq (d + 1) mX3_judge 77 [some (zR (some 36)), some (zI x1), none, some (zI x3), none] [] σ = (zc d mX3_round [zR (some 36), zR (some 38), zI 0] σ).bind fun r => zq (d + 1) mX3_judge 86 [some (zR (some 36)), some (zI x1), none, some (zI x3), none] (r.1.toList ++ []) r.2 := by
  refine Eq.trans (zY_step (by exact rfl) (by exact dX3_judge_77) (by exact rfl) (pc' := 78) (S' := [zR (some 36)]) (by exact rfl) (zcn (by exact rfl))) ?_
  refine Eq.trans (zY_step (by exact rfl) (by exact dX3_judge_78) (by exact rfl) (pc' := 79) (S' := [zR (some 36), zR (some 36)]) (by exact rfl) (zcn (by exact rfl))) ?_
  refine Eq.trans (zY_getR (by exact rfl) (by exact dX3_judge_79) (by exact rfl) (by exact rfl) (t := 38) (by exact rfl) (zcn (by exact rfl))) ?_
  refine Eq.trans (zY_step (by exact rfl) (by exact dX3_judge_82) (by exact rfl) (pc' := 83) (S' := [zI 0, zR (some 38), zR (some 36)]) (by exact rfl) (zcn (by exact rfl))) ?_
  exact zY_V (by exact rfl) (by exact dX3_judge_83) (by exact rfl) (as := [zR (some 38), zI 0]) (S' := []) (by exact rfl) (by exact rfl) (by exact rfl) (by exact Nat.le_of_ble_eq_true rfl) (by exact Nat.le_of_ble_eq_true rfl) (by exact Nat.le_of_ble_eq_true rfl) (zcn (by exact rfl))
theorem b_X3_judge_72 (d : Nat) (y0 y1 x1 x3 x4 : Int) (σ : zS) : zq d mX3_judge 72 [some (zR (some 36)), some (zI x1), none, some (zI x3), some (zI x4)] [zI y0, zI y1] σ = (if nrm y1 = nrm y0 then zq d mX3_judge 77 [some (zR (some 36)), some (zI x1), none, some (zI x3), none] [] σ else some (some (zI x3), σ)) := by
  refine Eq.trans (zY_ic_eq (by exact rfl) (by exact dX3_judge_72) (t := 77) (by exact rfl) (a2 := nrm y1) (b2 := nrm y0) (by exact rfl) (by exact rfl) (L1 := [some (zR (some 36)), some (zI x1), none, some (zI x3), none]) (by exact rfl) (zcn (by exact rfl))) (zif ?_ ?_)
  · exact rfl
  · refine Eq.trans (zY_step (by exact rfl) (by exact dX3_judge_75) (by exact rfl) (pc' := 76) (S' := [zI x3]) (by exact rfl) (zcn (by exact rfl))) ?_
    exact zq_ret (by exact dX3_judge_76) (by exact rfl) (rv := some (zI x3)) (by exact rfl)
theorem b_X3_judge_86 (d : Nat) (x1 x3 : Int) (σ : zS) : zq d mX3_judge 86 [some (zR (some 36)), some (zI x1), none, some (zI x3), none] [] σ = zq d mX3_judge 26 [some (zR (some 36)), some (zI x1), none, some (zI (x3 + 1)), none] [] σ := by
  refine Eq.trans (zY_step (by exact rfl) (by exact dX3_judge_86) (by exact rfl) (pc' := 89) (L' := [some (zR (some 36)), some (zI x1), none, some (zI (x3 + 1)), none]) (S' := []) (by exact rfl) (zcn (by exact rfl))) ?_
  exact zY_step (by exact rfl) (by exact dX3_judge_89) (by exact rfl) (pc' := 26) (S' := []) (L2 := [some (zR (some 36)), some (zI x1), none, some (zI (x3 + 1)), none]) (by exact rfl) (by exact rfl)
theorem e_X3_drawn (d : Nat) (x1 : Int) (σ : zS) : zc d mX3_drawn [zR (some 36), zI x1] σ = (if nrm x1 = 0 then none else some (some (zI ((nrm ((nrm (zand ((zup σ 36 13 (((σ 36 13) * 1103515245) + 12345)) 36 13) 2147483647)).tdiv 65536)).tmod (nrm x1))), zup σ 36 13 (((σ 36 13) * 1103515245) + 12345))) := by
  refine Eq.trans (zc_zq (L := [some (zR (some 36)), some (zI x1)]) (by exact rfl)) ?_
  refine Eq.trans (zY_step (by exact rfl) (by exact dX3_drawn_0) (by exact rfl) (pc' := 1) (S' := [zR (some 36)]) (by exact rfl) (zcn (by exact rfl))) ?_
  refine Eq.trans (zY_step (by exact rfl) (by exact dX3_drawn_1) (by exact rfl) (pc' := 2) (S' := [zR (some 36), zR (some 36)]) (by exact rfl) (zcn (by exact rfl))) ?_
  refine Eq.trans (zY_getI (by exact rfl) (by exact dX3_drawn_2) (by exact rfl) (by exact rfl) (by exact rfl) (zcn (by exact rfl))) ?_
  refine Eq.trans (zY_step (by exact rfl) (by exact dX3_drawn_5) (by exact rfl) (pc' := 7) (S' := [zI 1103515245, zI (σ 36 13), zR (some 36)]) (by exact rfl) (zcn (by exact rfl))) ?_
  refine Eq.trans (zY_step (by exact rfl) (by exact dX3_drawn_7) (by exact rfl) (pc' := 8) (S' := [zI ((σ 36 13) * 1103515245), zR (some 36)]) (by exact rfl) (zcn (by exact rfl))) ?_
  refine Eq.trans (zY_step (by exact rfl) (by exact dX3_drawn_8) (by exact rfl) (pc' := 11) (S' := [zI 12345, zI ((σ 36 13) * 1103515245), zR (some 36)]) (by exact rfl) (zcn (by exact rfl))) ?_
  refine Eq.trans (zY_step (by exact rfl) (by exact dX3_drawn_11) (by exact rfl) (pc' := 12) (S' := [zI (((σ 36 13) * 1103515245) + 12345), zR (some 36)]) (by exact rfl) (zcn (by exact rfl))) ?_
  refine Eq.trans (zY_putI (by exact rfl) (by exact dX3_drawn_12) (by exact rfl) (by exact rfl) (by exact rfl) (by exact fun h => absurd h (by decide)) (zcn (by exact rfl))) ?_
  refine Eq.trans (zY_step (by exact rfl) (by exact dX3_drawn_15) (by exact rfl) (pc' := 16) (S' := [zR (some 36)]) (by exact rfl) (zcn (by exact rfl))) ?_
  refine Eq.trans (zY_getI (by exact rfl) (by exact dX3_drawn_16) (by exact rfl) (by exact rfl) (by exact rfl) (zcn (by exact rfl))) ?_
  refine Eq.trans (zY_step (by exact rfl) (by exact dX3_drawn_19) (by exact rfl) (pc' := 21) (S' := [zI 2147483647, zI ((zup σ 36 13 (((σ 36 13) * 1103515245) + 12345)) 36 13)]) (by exact rfl) (zcn (by exact rfl))) ?_
  refine Eq.trans (zY_step (by exact rfl) (by exact dX3_drawn_21) (by exact rfl) (pc' := 22) (S' := [zI (zand ((zup σ 36 13 (((σ 36 13) * 1103515245) + 12345)) 36 13) 2147483647)]) (by exact rfl) (zcn (by exact rfl))) ?_
  refine Eq.trans (zY_step (by exact rfl) (by exact dX3_drawn_22) (by exact rfl) (pc' := 24) (S' := [zI 65536, zI (zand ((zup σ 36 13 (((σ 36 13) * 1103515245) + 12345)) 36 13) 2147483647)]) (by exact rfl) (zcn (by exact rfl))) ?_
  refine Eq.trans (zY_divc (by exact rfl) (by exact dX3_drawn_24) (c := 65536) (by decide) (by decide) (zcn (by exact rfl))) ?_
  refine Eq.trans (zY_step (by exact rfl) (by exact dX3_drawn_25) (by exact rfl) (pc' := 26) (S' := [zI x1, zI ((nrm (zand ((zup σ 36 13 (((σ 36 13) * 1103515245) + 12345)) 36 13) 2147483647)).tdiv 65536)]) (by exact rfl) (zcn (by exact rfl))) ?_
  refine Eq.trans (zY_rem (by exact rfl) (by exact dX3_drawn_26) (zcn (by exact rfl))) (zif rfl ?_)
  · exact zq_ret (by exact dX3_drawn_27) (by exact rfl) (rv := some (zI ((nrm ((nrm (zand ((zup σ 36 13 (((σ 36 13) * 1103515245) + 12345)) 36 13) 2147483647)).tdiv 65536)).tmod (nrm x1)))) (by exact rfl)
theorem e_X3_trips (d : Nat) (x1 x2 x3 : Int) (σ : zS) : zc (d + 1) mX3_trips [zR (some 36), zI x1, zI x2, zI x3] σ = (zc d mX3_isIn [zI x1, zI 1, zI 20] σ).bind fun r => zq (d + 1) mX3_trips 7 [some (zR (some 36)), some (zI x1), some (zI x2), some (zI x3), none, none, none] (r.1.toList ++ []) r.2 := by
  refine Eq.trans (zc_zq (L := [some (zR (some 36)), some (zI x1), some (zI x2), some (zI x3), none, none, none]) (by exact rfl)) ?_
  refine Eq.trans (zY_step (by exact rfl) (by exact dX3_trips_0) (by exact rfl) (pc' := 1) (S' := [zI x1]) (by exact rfl) (zcn (by exact rfl))) ?_
  refine Eq.trans (zY_step (by exact rfl) (by exact dX3_trips_1) (by exact rfl) (pc' := 2) (S' := [zI 1, zI x1]) (by exact rfl) (zcn (by exact rfl))) ?_
  refine Eq.trans (zY_step (by exact rfl) (by exact dX3_trips_2) (by exact rfl) (pc' := 4) (S' := [zI 20, zI 1, zI x1]) (by exact rfl) (zcn (by exact rfl))) ?_
  exact zY_S (by exact rfl) (by exact dX3_trips_4) (by exact rfl) (by exact Or.inl rfl) (as := [zI x1, zI 1, zI 20]) (S' := []) (by exact rfl) (by exact rfl) (by exact Nat.le_of_ble_eq_true rfl) (by exact Nat.le_of_ble_eq_true rfl) (zcn (by exact rfl))
theorem b_X3_trips_7 (d : Nat) (y0 x1 x2 x3 : Int) (σ : zS) : zq (d + 1) mX3_trips 7 [some (zR (some 36)), some (zI x1), some (zI x2), some (zI x3), none, none, none] [zI y0] σ = (if nrm y0 = 0 then some (some (zI ((-1))), σ) else (zc d mX3_isIn [zI x3, zI 0, zI 1] σ).bind fun r => zq (d + 1) mX3_trips 16 [some (zR (some 36)), some (zI x1), some (zI x2), some (zI x3), none, none, none] (r.1.toList ++ []) r.2) := by
  refine Eq.trans (zY_if_eq (by exact rfl) (by exact dX3_trips_7) (t := 19) (by exact rfl) (a2 := nrm y0) (by exact rfl) (L1 := [none, none, none, none, none, none, none]) (by exact rfl) (zcn (by exact rfl))) (zif ?_ ?_)
  · refine Eq.trans (zY_step (by exact rfl) (by exact dX3_trips_19) (by exact rfl) (pc' := 20) (S' := [zI ((-1))]) (by exact rfl) (zcn (by exact rfl))) ?_
    exact zq_ret (by exact dX3_trips_20) (by exact rfl) (rv := some (zI ((-1)))) (by exact rfl)
  · refine Eq.trans (zY_step (by exact rfl) (by exact dX3_trips_10) (by exact rfl) (pc' := 11) (S' := [zI x3]) (by exact rfl) (zcn (by exact rfl))) ?_
    refine Eq.trans (zY_step (by exact rfl) (by exact dX3_trips_11) (by exact rfl) (pc' := 12) (S' := [zI 0, zI x3]) (by exact rfl) (zcn (by exact rfl))) ?_
    refine Eq.trans (zY_step (by exact rfl) (by exact dX3_trips_12) (by exact rfl) (pc' := 13) (S' := [zI 1, zI 0, zI x3]) (by exact rfl) (zcn (by exact rfl))) ?_
    exact zY_S (by exact rfl) (by exact dX3_trips_13) (by exact rfl) (by exact Or.inl rfl) (as := [zI x3, zI 0, zI 1]) (S' := []) (by exact rfl) (by exact rfl) (by exact Nat.le_of_ble_eq_true rfl) (by exact Nat.le_of_ble_eq_true rfl) (zcn (by exact rfl))
theorem b_X3_trips_16 (d : Nat) (y0 x1 x2 x3 : Int) (σ : zS) : zq d mX3_trips 16 [some (zR (some 36)), some (zI x1), some (zI x2), some (zI x3), none, none, none] [zI y0] σ = (if ¬ nrm y0 = 0 then (if ¬ nrm (σ 37 0) = 0 then zq d mX3_trips 44 [some (zR (some 36)), some (zI x1), none, some (zI x3), some (zI 0), some (zI 0), none] [] (zup σ 36 13 x2) else some (some (zI ((-3))), σ)) else some (some (zI ((-1))), σ)) := by
  refine Eq.trans (zY_if_ne (by exact rfl) (by exact dX3_trips_16) (t := 21) (by exact rfl) (a2 := nrm y0) (by exact rfl) (L2 := [none, none, none, none, none, none, none]) (zcn (by exact rfl)) (by exact rfl)) (zif ?_ ?_)
  · refine Eq.trans (zY_step (by exact rfl) (by exact dX3_trips_21) (by exact rfl) (pc' := 22) (S' := [zR (some 36)]) (by exact rfl) (zcn (by exact rfl))) ?_
    refine Eq.trans (zY_getR (by exact rfl) (by exact dX3_trips_22) (by exact rfl) (by exact rfl) (t := 37) (by exact rfl) (zcn (by exact rfl))) ?_
    refine Eq.trans (zY_step (by exact rfl) (by exact dX3_trips_25) (by exact rfl) (pc' := 26) (S' := [zI 0, zR (some 37)]) (by exact rfl) (zcn (by exact rfl))) ?_
    refine Eq.trans (zY_ialdc (by exact rfl) (by exact dX3_trips_26) (by exact rfl) (by exact rfl) (j := 0) (by decide) (by decide) (zcn (by exact rfl))) ?_
    refine Eq.trans (zY_if_ne (by exact rfl) (by exact dX3_trips_27) (t := 33) (by exact rfl) (a2 := nrm (σ 37 0)) (by exact rfl) (zcn (by exact rfl)) (zcn (by exact rfl))) (zif ?_ ?_)
    · refine Eq.trans (zY_step (by exact rfl) (by exact dX3_trips_33) (by exact rfl) (pc' := 34) (S' := [zR (some 36)]) (by exact rfl) (zcn (by exact rfl))) ?_
      refine Eq.trans (zY_step (by exact rfl) (by exact dX3_trips_34) (by exact rfl) (pc' := 35) (S' := [zI x2, zR (some 36)]) (by exact rfl) (zcn (by exact rfl))) ?_
      refine Eq.trans (zY_putI (by exact rfl) (by exact dX3_trips_35) (by exact rfl) (by exact rfl) (by exact rfl) (by exact fun h => absurd h (by decide)) (zcn (by exact rfl))) ?_
      refine Eq.trans (zY_step (by exact rfl) (by exact dX3_trips_38) (by exact rfl) (pc' := 39) (S' := [zI 0]) (by exact rfl) (zcn (by exact rfl))) ?_
      refine Eq.trans (zY_step (by exact rfl) (by exact dX3_trips_39) (by exact rfl) (pc' := 41) (L' := [some (zR (some 36)), some (zI x1), some (zI x2), some (zI x3), some (zI 0), none, none]) (S' := []) (by exact rfl) (zcn (by exact rfl))) ?_
      refine Eq.trans (zY_step (by exact rfl) (by exact dX3_trips_41) (by exact rfl) (pc' := 42) (S' := [zI 0]) (by exact rfl) (zcn (by exact rfl))) ?_
      exact zY_step (by exact rfl) (by exact dX3_trips_42) (by exact rfl) (pc' := 44) (L' := [some (zR (some 36)), some (zI x1), some (zI x2), some (zI x3), some (zI 0), some (zI 0), none]) (S' := []) (L2 := [some (zR (some 36)), some (zI x1), none, some (zI x3), some (zI 0), some (zI 0), none]) (by exact rfl) (by exact rfl)
    · refine Eq.trans (zY_step (by exact rfl) (by exact dX3_trips_30) (by exact rfl) (pc' := 32) (S' := [zI ((-3))]) (by exact rfl) (zcn (by exact rfl))) ?_
      exact zq_ret (by exact dX3_trips_32) (by exact rfl) (rv := some (zI ((-3)))) (by exact rfl)
  · refine Eq.trans (zY_step (by exact rfl) (by exact dX3_trips_19) (by exact rfl) (pc' := 20) (S' := [zI ((-1))]) (by exact rfl) (zcn (by exact rfl))) ?_
    exact zq_ret (by exact dX3_trips_20) (by exact rfl) (rv := some (zI ((-1)))) (by exact rfl)
theorem b_X3_trips_44 (d : Nat) (x1 x3 x4 x5 : Int) (σ : zS) : zq (d + 1) mX3_trips 44 [some (zR (some 36)), some (zI x1), none, some (zI x3), some (zI x4), some (zI x5), none] [] σ = (if nrm x1 ≤ nrm x5 then some (some (zI x4), σ) else (zc d mX3_copies [zR (some 37), zR (some 38)] σ).bind fun r => zq (d + 1) mX3_trips 61 [some (zR (some 36)), some (zI x1), none, some (zI x3), some (zI x4), some (zI x5), none] (r.1.toList ++ []) r.2) := by
  refine Eq.trans (zY_step (by exact rfl) (by exact dX3_trips_44) (by exact rfl) (pc' := 46) (S' := [zI x5]) (by exact rfl) (zcn (by exact rfl))) ?_
  refine Eq.trans (zY_step (by exact rfl) (by exact dX3_trips_46) (by exact rfl) (pc' := 47) (S' := [zI x1, zI x5]) (by exact rfl) (zcn (by exact rfl))) ?_
  refine Eq.trans (zY_ic_ge (by exact rfl) (by exact dX3_trips_47) (t := 168) (by exact rfl) (a2 := nrm x5) (b2 := nrm x1) (by exact rfl) (by exact rfl) (zcn (by exact rfl)) (zcn (by exact rfl))) (zif ?_ ?_)
  · refine Eq.trans (zY_step (by exact rfl) (by exact dX3_trips_168) (by exact rfl) (pc' := 170) (S' := [zI x4]) (by exact rfl) (zcn (by exact rfl))) ?_
    exact zq_ret (by exact dX3_trips_170) (by exact rfl) (rv := some (zI x4)) (by exact rfl)
  · refine Eq.trans (zY_step (by exact rfl) (by exact dX3_trips_50) (by exact rfl) (pc' := 51) (S' := [zR (some 36)]) (by exact rfl) (zcn (by exact rfl))) ?_
    refine Eq.trans (zY_getR (by exact rfl) (by exact dX3_trips_51) (by exact rfl) (by exact rfl) (t := 37) (by exact rfl) (zcn (by exact rfl))) ?_
    refine Eq.trans (zY_step (by exact rfl) (by exact dX3_trips_54) (by exact rfl) (pc' := 55) (S' := [zR (some 36), zR (some 37)]) (by exact rfl) (zcn (by exact rfl))) ?_
    refine Eq.trans (zY_getR (by exact rfl) (by exact dX3_trips_55) (by exact rfl) (by exact rfl) (t := 38) (by exact rfl) (zcn (by exact rfl))) ?_
    exact zY_S (by exact rfl) (by exact dX3_trips_58) (by exact rfl) (by exact Or.inl rfl) (as := [zR (some 37), zR (some 38)]) (S' := []) (by exact rfl) (by exact rfl) (by exact Nat.le_of_ble_eq_true rfl) (by exact Nat.le_of_ble_eq_true rfl) (zcn (by exact rfl))
theorem b_X3_trips_61 (d : Nat) (x1 x3 x4 x5 : Int) (σ : zS) : zq (d + 1) mX3_trips 61 [some (zR (some 36)), some (zI x1), none, some (zI x3), some (zI x4), some (zI x5), none] [] σ = (zc d mX3_upright [zR (some 38)] σ).bind fun r => zq (d + 1) mX3_trips 68 [some (zR (some 36)), some (zI x1), none, some (zI x3), some (zI x4), some (zI x5), none] (r.1.toList ++ []) r.2 := by
  refine Eq.trans (zY_step (by exact rfl) (by exact dX3_trips_61) (by exact rfl) (pc' := 62) (S' := [zR (some 36)]) (by exact rfl) (zcn (by exact rfl))) ?_
  refine Eq.trans (zY_getR (by exact rfl) (by exact dX3_trips_62) (by exact rfl) (by exact rfl) (t := 38) (by exact rfl) (zcn (by exact rfl))) ?_
  exact zY_S (by exact rfl) (by exact dX3_trips_65) (by exact rfl) (by exact Or.inl rfl) (as := [zR (some 38)]) (S' := []) (by exact rfl) (by exact rfl) (by exact Nat.le_of_ble_eq_true rfl) (by exact Nat.le_of_ble_eq_true rfl) (zcn (by exact rfl))
theorem b_X3_trips_68 (d : Nat) (x1 x3 x4 x5 : Int) (σ : zS) : zq (d + 1) mX3_trips 68 [some (zR (some 36)), some (zI x1), none, some (zI x3), some (zI x4), some (zI x5), none] [] σ = (zc d mX3_drawn [zR (some 36), zI 24] σ).bind fun r => zq (d + 1) mX3_trips 79 [some (zR (some 36)), some (zI x1), none, some (zI x3), some (zI x4), some (zI x5), none] (r.1.toList ++ [zI 1, zR (some 38)]) r.2 := by
  refine Eq.trans (zY_step (by exact rfl) (by exact dX3_trips_68) (by exact rfl) (pc' := 69) (S' := [zR (some 36)]) (by exact rfl) (zcn (by exact rfl))) ?_
  refine Eq.trans (zY_getR (by exact rfl) (by exact dX3_trips_69) (by exact rfl) (by exact rfl) (t := 38) (by exact rfl) (zcn (by exact rfl))) ?_
  refine Eq.trans (zY_step (by exact rfl) (by exact dX3_trips_72) (by exact rfl) (pc' := 73) (S' := [zI 1, zR (some 38)]) (by exact rfl) (zcn (by exact rfl))) ?_
  refine Eq.trans (zY_step (by exact rfl) (by exact dX3_trips_73) (by exact rfl) (pc' := 74) (S' := [zR (some 36), zI 1, zR (some 38)]) (by exact rfl) (zcn (by exact rfl))) ?_
  refine Eq.trans (zY_step (by exact rfl) (by exact dX3_trips_74) (by exact rfl) (pc' := 76) (S' := [zI 24, zR (some 36), zI 1, zR (some 38)]) (by exact rfl) (zcn (by exact rfl))) ?_
  exact zY_V (by exact rfl) (by exact dX3_trips_76) (by exact rfl) (as := [zI 24]) (S' := [zI 1, zR (some 38)]) (by exact rfl) (by exact rfl) (by exact rfl) (by exact Nat.le_of_ble_eq_true rfl) (by exact Nat.le_of_ble_eq_true rfl) (by exact Nat.le_of_ble_eq_true rfl) (zcn (by exact rfl))
theorem b_X3_trips_79 (d : Nat) (y0 y1 x1 x3 x4 x5 : Int) (σ : zS) : zq d mX3_trips 79 [some (zR (some 36)), some (zI x1), none, some (zI x3), some (zI x4), some (zI x5), none] [zI y0, zI y1, zR (some 38)] σ = (if zix y1 35 then zq d mX3_trips 83 [some (zR (some 36)), some (zI x1), none, some (zI x3), some (zI x4), some (zI x5), some (zI 0)] [] (zup σ 38 (nrm y1).toNat y0) else none) := by
  refine Eq.trans (zY_iast (by exact rfl) (by exact dX3_trips_79) (by exact rfl) (by exact rfl) (zcn (by exact rfl))) (zif ?_ rfl)
  · refine Eq.trans (zY_step (by exact rfl) (by exact dX3_trips_80) (by exact rfl) (pc' := 81) (S' := [zI 0]) (by exact rfl) (zcn (by exact rfl))) ?_
    exact zY_step (by exact rfl) (by exact dX3_trips_81) (by exact rfl) (pc' := 83) (L' := [some (zR (some 36)), some (zI x1), none, some (zI x3), some (zI x4), some (zI x5), some (zI 0)]) (S' := []) (by exact rfl) (zcn (by exact rfl))
theorem b_X3_trips_83 (d : Nat) (x1 x3 x4 x5 x6 : Int) (σ : zS) : zq (d + 1) mX3_trips 83 [some (zR (some 36)), some (zI x1), none, some (zI x3), some (zI x4), some (zI x5), some (zI x6)] [] σ = (if nrm (σ 38 0) ≤ nrm x6 then (zc d mX3_roundsOn [zR (some 36), zR (some 38), zI 5] σ).bind fun r => zq (d + 1) mX3_trips 133 [some (zR (some 36)), some (zI x1), none, some (zI x3), some (zI x4), some (zI x5), some (zI x6)] (r.1.toList ++ []) r.2 else (zc d mX3_of [zI x6, zI 3] σ).bind fun r => zq (d + 1) mX3_trips 104 [some (zR (some 36)), some (zI x1), none, some (zI x3), some (zI x4), some (zI x5), some (zI x6)] (r.1.toList ++ [zR (some 38)]) r.2) := by
  refine Eq.trans (zY_step (by exact rfl) (by exact dX3_trips_83) (by exact rfl) (pc' := 85) (S' := [zI x6]) (by exact rfl) (zcn (by exact rfl))) ?_
  refine Eq.trans (zY_step (by exact rfl) (by exact dX3_trips_85) (by exact rfl) (pc' := 86) (S' := [zR (some 36), zI x6]) (by exact rfl) (zcn (by exact rfl))) ?_
  refine Eq.trans (zY_getR (by exact rfl) (by exact dX3_trips_86) (by exact rfl) (by exact rfl) (t := 38) (by exact rfl) (zcn (by exact rfl))) ?_
  refine Eq.trans (zY_step (by exact rfl) (by exact dX3_trips_89) (by exact rfl) (pc' := 90) (S' := [zI 0, zR (some 38), zI x6]) (by exact rfl) (zcn (by exact rfl))) ?_
  refine Eq.trans (zY_ialdc (by exact rfl) (by exact dX3_trips_90) (by exact rfl) (by exact rfl) (j := 0) (by decide) (by decide) (zcn (by exact rfl))) ?_
  refine Eq.trans (zY_ic_ge (by exact rfl) (by exact dX3_trips_91) (t := 124) (by exact rfl) (a2 := nrm x6) (b2 := nrm (σ 38 0)) (by exact rfl) (by exact rfl) (zcn (by exact rfl)) (zcn (by exact rfl))) (zif ?_ ?_)
  · refine Eq.trans (zY_step (by exact rfl) (by exact dX3_trips_124) (by exact rfl) (pc' := 125) (S' := [zR (some 36)]) (by exact rfl) (zcn (by exact rfl))) ?_
    refine Eq.trans (zY_step (by exact rfl) (by exact dX3_trips_125) (by exact rfl) (pc' := 126) (S' := [zR (some 36), zR (some 36)]) (by exact rfl) (zcn (by exact rfl))) ?_
    refine Eq.trans (zY_getR (by exact rfl) (by exact dX3_trips_126) (by exact rfl) (by exact rfl) (t := 38) (by exact rfl) (zcn (by exact rfl))) ?_
    refine Eq.trans (zY_step (by exact rfl) (by exact dX3_trips_129) (by exact rfl) (pc' := 130) (S' := [zI 5, zR (some 38), zR (some 36)]) (by exact rfl) (zcn (by exact rfl))) ?_
    exact zY_V (by exact rfl) (by exact dX3_trips_130) (by exact rfl) (as := [zR (some 38), zI 5]) (S' := []) (by exact rfl) (by exact rfl) (by exact rfl) (by exact Nat.le_of_ble_eq_true rfl) (by exact Nat.le_of_ble_eq_true rfl) (by exact Nat.le_of_ble_eq_true rfl) (zcn (by exact rfl))
  · refine Eq.trans (zY_step (by exact rfl) (by exact dX3_trips_94) (by exact rfl) (pc' := 95) (S' := [zR (some 36)]) (by exact rfl) (zcn (by exact rfl))) ?_
    refine Eq.trans (zY_getR (by exact rfl) (by exact dX3_trips_95) (by exact rfl) (by exact rfl) (t := 38) (by exact rfl) (zcn (by exact rfl))) ?_
    refine Eq.trans (zY_step (by exact rfl) (by exact dX3_trips_98) (by exact rfl) (pc' := 100) (S' := [zI x6, zR (some 38)]) (by exact rfl) (zcn (by exact rfl))) ?_
    refine Eq.trans (zY_step (by exact rfl) (by exact dX3_trips_100) (by exact rfl) (pc' := 101) (S' := [zI 3, zI x6, zR (some 38)]) (by exact rfl) (zcn (by exact rfl))) ?_
    exact zY_S (by exact rfl) (by exact dX3_trips_101) (by exact rfl) (by exact Or.inl rfl) (as := [zI x6, zI 3]) (S' := [zR (some 38)]) (by exact rfl) (by exact rfl) (by exact Nat.le_of_ble_eq_true rfl) (by exact Nat.le_of_ble_eq_true rfl) (zcn (by exact rfl))
theorem b_X3_trips_133 (d : Nat) (x1 x3 x4 x5 x6 : Int) (σ : zS) : zq (d + 1) mX3_trips 133 [some (zR (some 36)), some (zI x1), none, some (zI x3), some (zI x4), some (zI x5), some (zI x6)] [] σ = (if ¬ nrm x3 = 0 then (zc d mX3_tipping [zR (some 38)] σ).bind fun r => zq (d + 1) mX3_trips 156 [some (zR (some 36)), some (zI x1), none, some (zI x3), some (zI x4), some (zI x5), some (zI x6)] (r.1.toList ++ [zI x4]) r.2 else (zc d mX3_tipsAll [zR (some 38)] σ).bind fun r => zq (d + 1) mX3_trips 146 [some (zR (some 36)), some (zI x1), none, some (zI x3), some (zI x4), some (zI x5), some (zI x6)] (r.1.toList ++ [zI x4]) r.2) := by
  refine Eq.trans (zY_step (by exact rfl) (by exact dX3_trips_133) (by exact rfl) (pc' := 135) (S' := [zI x4]) (by exact rfl) (zcn (by exact rfl))) ?_
  refine Eq.trans (zY_step (by exact rfl) (by exact dX3_trips_135) (by exact rfl) (pc' := 136) (S' := [zI x3, zI x4]) (by exact rfl) (zcn (by exact rfl))) ?_
  refine Eq.trans (zY_if_ne (by exact rfl) (by exact dX3_trips_136) (t := 149) (by exact rfl) (a2 := nrm x3) (by exact rfl) (zcn (by exact rfl)) (zcn (by exact rfl))) (zif ?_ ?_)
  · refine Eq.trans (zY_step (by exact rfl) (by exact dX3_trips_149) (by exact rfl) (pc' := 150) (S' := [zR (some 36), zI x4]) (by exact rfl) (zcn (by exact rfl))) ?_
    refine Eq.trans (zY_getR (by exact rfl) (by exact dX3_trips_150) (by exact rfl) (by exact rfl) (t := 38) (by exact rfl) (zcn (by exact rfl))) ?_
    exact zY_S (by exact rfl) (by exact dX3_trips_153) (by exact rfl) (by exact Or.inl rfl) (as := [zR (some 38)]) (S' := [zI x4]) (by exact rfl) (by exact rfl) (by exact Nat.le_of_ble_eq_true rfl) (by exact Nat.le_of_ble_eq_true rfl) (zcn (by exact rfl))
  · refine Eq.trans (zY_step (by exact rfl) (by exact dX3_trips_139) (by exact rfl) (pc' := 140) (S' := [zR (some 36), zI x4]) (by exact rfl) (zcn (by exact rfl))) ?_
    refine Eq.trans (zY_getR (by exact rfl) (by exact dX3_trips_140) (by exact rfl) (by exact rfl) (t := 38) (by exact rfl) (zcn (by exact rfl))) ?_
    exact zY_S (by exact rfl) (by exact dX3_trips_143) (by exact rfl) (by exact Or.inl rfl) (as := [zR (some 38)]) (S' := [zI x4]) (by exact rfl) (by exact rfl) (by exact Nat.le_of_ble_eq_true rfl) (by exact Nat.le_of_ble_eq_true rfl) (zcn (by exact rfl))
theorem b_X3_trips_104 (d : Nat) (y0 x1 x3 x4 x5 x6 : Int) (σ : zS) : zq (d + 1) mX3_trips 104 [some (zR (some 36)), some (zI x1), none, some (zI x3), some (zI x4), some (zI x5), some (zI x6)] [zI y0, zR (some 38)] σ = (zc d mX3_drawn [zR (some 36), zI 5] σ).bind fun r => zq (d + 1) mX3_trips 109 [some (zR (some 36)), some (zI x1), none, some (zI x3), some (zI x4), some (zI x5), some (zI x6)] (r.1.toList ++ [zI y0, zR (some 38)]) r.2 := by
  refine Eq.trans (zY_step (by exact rfl) (by exact dX3_trips_104) (by exact rfl) (pc' := 105) (S' := [zR (some 36), zI y0, zR (some 38)]) (by exact rfl) (zcn (by exact rfl))) ?_
  refine Eq.trans (zY_step (by exact rfl) (by exact dX3_trips_105) (by exact rfl) (pc' := 106) (S' := [zI 5, zR (some 36), zI y0, zR (some 38)]) (by exact rfl) (zcn (by exact rfl))) ?_
  exact zY_V (by exact rfl) (by exact dX3_trips_106) (by exact rfl) (as := [zI 5]) (S' := [zI y0, zR (some 38)]) (by exact rfl) (by exact rfl) (by exact rfl) (by exact Nat.le_of_ble_eq_true rfl) (by exact Nat.le_of_ble_eq_true rfl) (by exact Nat.le_of_ble_eq_true rfl) (zcn (by exact rfl))
theorem b_X3_trips_156 (d : Nat) (y0 y1 x1 x3 x4 x5 x6 : Int) (σ : zS) : zq (d + 1) mX3_trips 156 [some (zR (some 36)), some (zI x1), none, some (zI x3), some (zI x4), some (zI x5), some (zI x6)] [zI y0, zI y1] σ = (zc d mX3_bits [zI y0] σ).bind fun r => zq (d + 1) mX3_trips 159 [some (zR (some 36)), some (zI x1), none, some (zI x3), none, some (zI x5), none] (r.1.toList ++ [zI y1]) r.2 := by
  exact zY_S (by exact rfl) (by exact dX3_trips_156) (by exact rfl) (by exact Or.inl rfl) (as := [zI y0]) (S' := [zI y1]) (by exact rfl) (by exact rfl) (by exact Nat.le_of_ble_eq_true rfl) (by exact Nat.le_of_ble_eq_true rfl) (L2 := [some (zR (some 36)), some (zI x1), none, some (zI x3), none, some (zI x5), none]) (by exact rfl)
theorem b_X3_trips_146 (d : Nat) (y0 y1 x1 x3 x4 x5 x6 : Int) (σ : zS) : zq d mX3_trips 146 [some (zR (some 36)), some (zI x1), none, some (zI x3), some (zI x4), some (zI x5), some (zI x6)] [zI y0, zI y1] σ = zq d mX3_trips 159 [some (zR (some 36)), some (zI x1), none, some (zI x3), none, some (zI x5), none] [zI y0, zI y1] σ := by
  exact zY_step (by exact rfl) (by exact dX3_trips_146) (by exact rfl) (pc' := 159) (S' := [zI y0, zI y1]) (L2 := [some (zR (some 36)), some (zI x1), none, some (zI x3), none, some (zI x5), none]) (by exact rfl) (by exact rfl)
theorem b_X3_trips_109 (d : Nat) (y0 y1 x1 x3 x4 x5 x6 : Int) (σ : zS) : zq d mX3_trips 109 [some (zR (some 36)), some (zI x1), none, some (zI x3), some (zI x4), some (zI x5), some (zI x6)] [zI y0, zI y1, zR (some 38)] σ = (if ¬ nrm y0 = 0 then zq d mX3_trips 117 [some (zR (some 36)), some (zI x1), none, some (zI x3), some (zI x4), some (zI x5), some (zI x6)] [zI 0, zI y1, zR (some 38)] σ else zq d mX3_trips 117 [some (zR (some 36)), some (zI x1), none, some (zI x3), some (zI x4), some (zI x5), some (zI x6)] [zI 1, zI y1, zR (some 38)] σ) := by
  refine Eq.trans (zY_if_ne (by exact rfl) (by exact dX3_trips_109) (t := 116) (by exact rfl) (a2 := nrm y0) (by exact rfl) (zcn (by exact rfl)) (zcn (by exact rfl))) (zif ?_ ?_)
  · exact zY_step (by exact rfl) (by exact dX3_trips_116) (by exact rfl) (pc' := 117) (S' := [zI 0, zI y1, zR (some 38)]) (by exact rfl) (zcn (by exact rfl))
  · refine Eq.trans (zY_step (by exact rfl) (by exact dX3_trips_112) (by exact rfl) (pc' := 113) (S' := [zI 1, zI y1, zR (some 38)]) (by exact rfl) (zcn (by exact rfl))) ?_
    exact zY_step (by exact rfl) (by exact dX3_trips_113) (by exact rfl) (pc' := 117) (S' := [zI 1, zI y1, zR (some 38)]) (by exact rfl) (zcn (by exact rfl))
theorem b_X3_trips_159 (d : Nat) (y0 y1 x1 x3 x5 : Int) (σ : zS) : zq d mX3_trips 159 [some (zR (some 36)), some (zI x1), none, some (zI x3), none, some (zI x5), none] [zI y0, zI y1] σ = zq d mX3_trips 44 [some (zR (some 36)), some (zI x1), none, some (zI x3), some (zI (y1 + y0)), some (zI (x5 + 1)), none] [] σ := by
  refine Eq.trans (zY_step (by exact rfl) (by exact dX3_trips_159) (by exact rfl) (pc' := 160) (S' := [zI (y1 + y0)]) (by exact rfl) (zcn (by exact rfl))) ?_
  refine Eq.trans (zY_step (by exact rfl) (by exact dX3_trips_160) (by exact rfl) (pc' := 162) (L' := [some (zR (some 36)), some (zI x1), none, some (zI x3), some (zI (y1 + y0)), some (zI x5), none]) (S' := []) (by exact rfl) (zcn (by exact rfl))) ?_
  refine Eq.trans (zY_step (by exact rfl) (by exact dX3_trips_162) (by exact rfl) (pc' := 165) (L' := [some (zR (some 36)), some (zI x1), none, some (zI x3), some (zI (y1 + y0)), some (zI (x5 + 1)), none]) (S' := []) (by exact rfl) (zcn (by exact rfl))) ?_
  exact zY_step (by exact rfl) (by exact dX3_trips_165) (by exact rfl) (pc' := 44) (S' := []) (L2 := [some (zR (some 36)), some (zI x1), none, some (zI x3), some (zI (y1 + y0)), some (zI (x5 + 1)), none]) (by exact rfl) (by exact rfl)
theorem b_X3_trips_117 (d : Nat) (y0 y1 x1 x3 x4 x5 x6 : Int) (σ : zS) : zq d mX3_trips 117 [some (zR (some 36)), some (zI x1), none, some (zI x3), some (zI x4), some (zI x5), some (zI x6)] [zI y0, zI y1, zR (some 38)] σ = (if zix y1 35 then zq d mX3_trips 83 [some (zR (some 36)), some (zI x1), none, some (zI x3), some (zI x4), some (zI x5), some (zI (x6 + 1))] [] (zup σ 38 (nrm y1).toNat y0) else none) := by
  refine Eq.trans (zY_iast (by exact rfl) (by exact dX3_trips_117) (by exact rfl) (by exact rfl) (zcn (by exact rfl))) (zif ?_ rfl)
  · refine Eq.trans (zY_step (by exact rfl) (by exact dX3_trips_118) (by exact rfl) (pc' := 121) (L' := [some (zR (some 36)), some (zI x1), none, some (zI x3), some (zI x4), some (zI x5), some (zI (x6 + 1))]) (S' := []) (by exact rfl) (zcn (by exact rfl))) ?_
    exact zY_step (by exact rfl) (by exact dX3_trips_121) (by exact rfl) (pc' := 83) (S' := []) (by exact rfl) (zcn (by exact rfl))
theorem e_X3_image (d : Nat) (σ : zS) : zc (d + 1) mX3_image [zR (some 36)] σ = (zc d mX3_copies [zR (some 37), zR (some 39)] σ).bind fun r => zq (d + 1) mX3_image 11 [some (zR (some 36))] (r.1.toList ++ []) r.2 := by
  refine Eq.trans (zc_zq (L := [some (zR (some 36))]) (by exact rfl)) ?_
  refine Eq.trans (zY_step (by exact rfl) (by exact dX3_image_0) (by exact rfl) (pc' := 1) (S' := [zR (some 36)]) (by exact rfl) (zcn (by exact rfl))) ?_
  refine Eq.trans (zY_getR (by exact rfl) (by exact dX3_image_1) (by exact rfl) (by exact rfl) (t := 37) (by exact rfl) (zcn (by exact rfl))) ?_
  refine Eq.trans (zY_step (by exact rfl) (by exact dX3_image_4) (by exact rfl) (pc' := 5) (S' := [zR (some 36), zR (some 37)]) (by exact rfl) (zcn (by exact rfl))) ?_
  refine Eq.trans (zY_getR (by exact rfl) (by exact dX3_image_5) (by exact rfl) (by exact rfl) (t := 39) (by exact rfl) (zcn (by exact rfl))) ?_
  exact zY_S (by exact rfl) (by exact dX3_image_8) (by exact rfl) (by exact Or.inl rfl) (as := [zR (some 37), zR (some 39)]) (S' := []) (by exact rfl) (by exact rfl) (by exact Nat.le_of_ble_eq_true rfl) (by exact Nat.le_of_ble_eq_true rfl) (zcn (by exact rfl))
theorem b_X3_image_11 (d : Nat) (σ : zS) : zq d mX3_image 11 [some (zR (some 36))] [] σ = some (some (zI ((zup σ 36 5 1) 37 2)), zup σ 36 5 1) := by
  refine Eq.trans (zY_step (by exact rfl) (by exact dX3_image_11) (by exact rfl) (pc' := 12) (S' := [zR (some 36)]) (by exact rfl) (zcn (by exact rfl))) ?_
  refine Eq.trans (zY_step (by exact rfl) (by exact dX3_image_12) (by exact rfl) (pc' := 13) (S' := [zI 1, zR (some 36)]) (by exact rfl) (zcn (by exact rfl))) ?_
  refine Eq.trans (zY_putI (by exact rfl) (by exact dX3_image_13) (by exact rfl) (by exact rfl) (by exact rfl) (by exact fun _ => by decide) (zcn (by exact rfl))) ?_
  refine Eq.trans (zY_step (by exact rfl) (by exact dX3_image_16) (by exact rfl) (pc' := 17) (S' := [zR (some 36)]) (by exact rfl) (zcn (by exact rfl))) ?_
  refine Eq.trans (zY_getR (by exact rfl) (by exact dX3_image_17) (by exact rfl) (by exact rfl) (t := 37) (by exact rfl) (zcn (by exact rfl))) ?_
  refine Eq.trans (zY_step (by exact rfl) (by exact dX3_image_20) (by exact rfl) (pc' := 21) (S' := [zI 2, zR (some 37)]) (by exact rfl) (zcn (by exact rfl))) ?_
  refine Eq.trans (zY_ialdc (by exact rfl) (by exact dX3_image_21) (by exact rfl) (by exact rfl) (j := 2) (by decide) (by decide) (zcn (by exact rfl))) ?_
  exact zq_ret (by exact dX3_image_22) (by exact rfl) (rv := some (zI ((zup σ 36 5 1) 37 2))) (by exact rfl)
theorem e_X3_restore (d : Nat) (σ : zS) : zc (d + 1) mX3_restore [zR (some 36)] σ = (if ¬ nrm (σ 36 5) = 0 then (zc d mX3_copies [zR (some 39), zR (some 37)] σ).bind fun r => zq (d + 1) mX3_restore 21 [some (zR (some 36))] (r.1.toList ++ []) r.2 else some (some (zI ((-3))), σ)) := by
  refine Eq.trans (zc_zq (L := [some (zR (some 36))]) (by exact rfl)) ?_
  refine Eq.trans (zY_step (by exact rfl) (by exact dX3_restore_0) (by exact rfl) (pc' := 1) (S' := [zR (some 36)]) (by exact rfl) (zcn (by exact rfl))) ?_
  refine Eq.trans (zY_getI (by exact rfl) (by exact dX3_restore_1) (by exact rfl) (by exact rfl) (by exact rfl) (zcn (by exact rfl))) ?_
  refine Eq.trans (zY_if_ne (by exact rfl) (by exact dX3_restore_4) (t := 10) (by exact rfl) (a2 := nrm (σ 36 5)) (by exact rfl) (zcn (by exact rfl)) (zcn (by exact rfl))) (zif ?_ ?_)
  · refine Eq.trans (zY_step (by exact rfl) (by exact dX3_restore_10) (by exact rfl) (pc' := 11) (S' := [zR (some 36)]) (by exact rfl) (zcn (by exact rfl))) ?_
    refine Eq.trans (zY_getR (by exact rfl) (by exact dX3_restore_11) (by exact rfl) (by exact rfl) (t := 39) (by exact rfl) (zcn (by exact rfl))) ?_
    refine Eq.trans (zY_step (by exact rfl) (by exact dX3_restore_14) (by exact rfl) (pc' := 15) (S' := [zR (some 36), zR (some 39)]) (by exact rfl) (zcn (by exact rfl))) ?_
    refine Eq.trans (zY_getR (by exact rfl) (by exact dX3_restore_15) (by exact rfl) (by exact rfl) (t := 37) (by exact rfl) (zcn (by exact rfl))) ?_
    exact zY_S (by exact rfl) (by exact dX3_restore_18) (by exact rfl) (by exact Or.inl rfl) (as := [zR (some 39), zR (some 37)]) (S' := []) (by exact rfl) (by exact rfl) (by exact Nat.le_of_ble_eq_true rfl) (by exact Nat.le_of_ble_eq_true rfl) (zcn (by exact rfl))
  · refine Eq.trans (zY_step (by exact rfl) (by exact dX3_restore_7) (by exact rfl) (pc' := 9) (S' := [zI ((-3))]) (by exact rfl) (zcn (by exact rfl))) ?_
    exact zq_ret (by exact dX3_restore_9) (by exact rfl) (rv := some (zI ((-3)))) (by exact rfl)
theorem b_X3_restore_21 (d : Nat) (σ : zS) : zq d mX3_restore 21 [some (zR (some 36))] [] σ = some (some (zI (σ 37 2)), σ) := by
  refine Eq.trans (zY_step (by exact rfl) (by exact dX3_restore_21) (by exact rfl) (pc' := 22) (S' := [zR (some 36)]) (by exact rfl) (zcn (by exact rfl))) ?_
  refine Eq.trans (zY_getR (by exact rfl) (by exact dX3_restore_22) (by exact rfl) (by exact rfl) (t := 37) (by exact rfl) (zcn (by exact rfl))) ?_
  refine Eq.trans (zY_step (by exact rfl) (by exact dX3_restore_25) (by exact rfl) (pc' := 26) (S' := [zI 2, zR (some 37)]) (by exact rfl) (zcn (by exact rfl))) ?_
  refine Eq.trans (zY_ialdc (by exact rfl) (by exact dX3_restore_26) (by exact rfl) (by exact rfl) (j := 2) (by decide) (by decide) (zcn (by exact rfl))) ?_
  exact zq_ret (by exact dX3_restore_27) (by exact rfl) (rv := some (zI (σ 37 2))) (by exact rfl)
theorem e_X3_count (d : Nat) (x1 : Int) (σ : zS) : zc (d + 1) mX3_count [zR (some 36), zI x1] σ = (zc d mX3_isIn [zI x1, zI 0, zI 2] σ).bind fun r => zq (d + 1) mX3_count 6 [some (zR (some 36)), some (zI x1), none, none] (r.1.toList ++ []) r.2 := by
  refine Eq.trans (zc_zq (L := [some (zR (some 36)), some (zI x1), none, none]) (by exact rfl)) ?_
  refine Eq.trans (zY_step (by exact rfl) (by exact dX3_count_0) (by exact rfl) (pc' := 1) (S' := [zI x1]) (by exact rfl) (zcn (by exact rfl))) ?_
  refine Eq.trans (zY_step (by exact rfl) (by exact dX3_count_1) (by exact rfl) (pc' := 2) (S' := [zI 0, zI x1]) (by exact rfl) (zcn (by exact rfl))) ?_
  refine Eq.trans (zY_step (by exact rfl) (by exact dX3_count_2) (by exact rfl) (pc' := 3) (S' := [zI 2, zI 0, zI x1]) (by exact rfl) (zcn (by exact rfl))) ?_
  exact zY_S (by exact rfl) (by exact dX3_count_3) (by exact rfl) (by exact Or.inl rfl) (as := [zI x1, zI 0, zI 2]) (S' := []) (by exact rfl) (by exact rfl) (by exact Nat.le_of_ble_eq_true rfl) (by exact Nat.le_of_ble_eq_true rfl) (zcn (by exact rfl))
theorem b_X3_count_6 (d : Nat) (y0 x1 : Int) (σ : zS) : zq (d + 1) mX3_count 6 [some (zR (some 36)), some (zI x1), none, none] [zI y0] σ = (if nrm y0 = 0 then (if nrm x1 = 3 then (zc d mX3_tipsAll [zR (some 37)] σ).bind fun r => zq (d + 1) mX3_count 55 [some (zR (some 36)), some (zI x1), some (zI 0), none] (r.1.toList ++ []) r.2 else (if nrm x1 = 4 then zq (d + 1) mX3_count 58 [some (zR (some 36)), none, some (zI 0), some (zI 0)] [] σ else (if nrm x1 = 5 then (zc d mX3_roomAll [zR (some 36)] σ).bind fun r => zq (d + 1) mX3_count 95 [some (zR (some 36)), some (zI x1), some (zI 0), none] (r.1.toList ++ []) r.2 else (if nrm x1 = 6 then (zc d mX3_tipping [zR (some 37)] σ).bind fun r => zq (d + 1) mX3_count 103 [some (zR (some 36)), some (zI x1), some (zI 0), none] (r.1.toList ++ []) r.2 else some (some (zI ((-1))), σ))))) else (if zix x1 35 then some (some (zI (σ 37 (nrm x1).toNat)), σ) else none)) := by
  refine Eq.trans (zY_if_eq (by exact rfl) (by exact dX3_count_6) (t := 16) (by exact rfl) (a2 := nrm y0) (by exact rfl) (zcn (by exact rfl)) (zcn (by exact rfl))) (zif ?_ ?_)
  · refine Eq.trans (zY_step (by exact rfl) (by exact dX3_count_16) (by exact rfl) (pc' := 17) (S' := [zI 0]) (by exact rfl) (zcn (by exact rfl))) ?_
    refine Eq.trans (zY_step (by exact rfl) (by exact dX3_count_17) (by exact rfl) (pc' := 18) (L' := [some (zR (some 36)), some (zI x1), some (zI 0), none]) (S' := []) (by exact rfl) (zcn (by exact rfl))) ?_
    refine Eq.trans (zY_step (by exact rfl) (by exact dX3_count_18) (by exact rfl) (pc' := 19) (S' := [zI x1]) (by exact rfl) (zcn (by exact rfl))) ?_
    refine Eq.trans (zY_tsw (by exact rfl) (by exact dX3_count_19) (by exact rfl) (dt := 104) (by exact rfl) (ts := [(3, 48), (4, 56), (5, 91), (6, 96)]) (by exact rfl)) ?_
    refine zif ?_ (zif ?_ (zif ?_ (zif ?_ (?_))))
    · refine Eq.trans (zY_at (L2 := [some (zR (some 36)), some (zI x1), some (zI 0), none]) (zcn (by exact rfl))) ?_
      refine Eq.trans (zY_step (by exact rfl) (by exact dX3_count_48) (by exact rfl) (pc' := 49) (S' := [zR (some 36)]) (by exact rfl) (zcn (by exact rfl))) ?_
      refine Eq.trans (zY_getR (by exact rfl) (by exact dX3_count_49) (by exact rfl) (by exact rfl) (t := 37) (by exact rfl) (zcn (by exact rfl))) ?_
      exact zY_S (by exact rfl) (by exact dX3_count_52) (by exact rfl) (by exact Or.inl rfl) (as := [zR (some 37)]) (S' := []) (by exact rfl) (by exact rfl) (by exact Nat.le_of_ble_eq_true rfl) (by exact Nat.le_of_ble_eq_true rfl) (zcn (by exact rfl))
    · refine Eq.trans (zY_at (L2 := [some (zR (some 36)), some (zI x1), some (zI 0), none]) (zcn (by exact rfl))) ?_
      refine Eq.trans (zY_step (by exact rfl) (by exact dX3_count_56) (by exact rfl) (pc' := 57) (S' := [zI 0]) (by exact rfl) (zcn (by exact rfl))) ?_
      exact zY_step (by exact rfl) (by exact dX3_count_57) (by exact rfl) (pc' := 58) (L' := [some (zR (some 36)), some (zI x1), some (zI 0), some (zI 0)]) (S' := []) (L2 := [some (zR (some 36)), none, some (zI 0), some (zI 0)]) (by exact rfl) (by exact rfl)
    · refine Eq.trans (zY_at (L2 := [some (zR (some 36)), some (zI x1), some (zI 0), none]) (zcn (by exact rfl))) ?_
      refine Eq.trans (zY_step (by exact rfl) (by exact dX3_count_91) (by exact rfl) (pc' := 92) (S' := [zR (some 36)]) (by exact rfl) (zcn (by exact rfl))) ?_
      exact zY_V (by exact rfl) (by exact dX3_count_92) (by exact rfl) (as := []) (S' := []) (by exact rfl) (by exact rfl) (by exact rfl) (by exact Nat.le_of_ble_eq_true rfl) (by exact Nat.le_of_ble_eq_true rfl) (by exact Nat.le_of_ble_eq_true rfl) (zcn (by exact rfl))
    · refine Eq.trans (zY_at (L2 := [some (zR (some 36)), some (zI x1), some (zI 0), none]) (zcn (by exact rfl))) ?_
      refine Eq.trans (zY_step (by exact rfl) (by exact dX3_count_96) (by exact rfl) (pc' := 97) (S' := [zR (some 36)]) (by exact rfl) (zcn (by exact rfl))) ?_
      refine Eq.trans (zY_getR (by exact rfl) (by exact dX3_count_97) (by exact rfl) (by exact rfl) (t := 37) (by exact rfl) (zcn (by exact rfl))) ?_
      exact zY_S (by exact rfl) (by exact dX3_count_100) (by exact rfl) (by exact Or.inl rfl) (as := [zR (some 37)]) (S' := []) (by exact rfl) (by exact rfl) (by exact Nat.le_of_ble_eq_true rfl) (by exact Nat.le_of_ble_eq_true rfl) (zcn (by exact rfl))
    · refine Eq.trans (zY_at (L2 := [some (zR (some 36)), some (zI x1), some (zI 0), none]) (zcn (by exact rfl))) ?_
      refine Eq.trans (zY_step (by exact rfl) (by exact dX3_count_104) (by exact rfl) (pc' := 105) (S' := [zI ((-1))]) (by exact rfl) (zcn (by exact rfl))) ?_
      exact zq_ret (by exact dX3_count_105) (by exact rfl) (rv := some (zI ((-1)))) (by exact rfl)
  · refine Eq.trans (zY_step (by exact rfl) (by exact dX3_count_9) (by exact rfl) (pc' := 10) (S' := [zR (some 36)]) (by exact rfl) (zcn (by exact rfl))) ?_
    refine Eq.trans (zY_getR (by exact rfl) (by exact dX3_count_10) (by exact rfl) (by exact rfl) (t := 37) (by exact rfl) (zcn (by exact rfl))) ?_
    refine Eq.trans (zY_step (by exact rfl) (by exact dX3_count_13) (by exact rfl) (pc' := 14) (S' := [zI x1, zR (some 37)]) (by exact rfl) (zcn (by exact rfl))) ?_
    refine Eq.trans (zY_iald (by exact rfl) (by exact dX3_count_14) (by exact rfl) (by exact rfl) (zcn (by exact rfl))) (zif ?_ rfl)
    · exact zq_ret (by exact dX3_count_15) (by exact rfl) (rv := some (zI (σ 37 (nrm x1).toNat))) (by exact rfl)
theorem b_X3_count_55 (d : Nat) (y0 x1 x2 : Int) (σ : zS) : zq d mX3_count 55 [some (zR (some 36)), some (zI x1), some (zI x2), none] [zI y0] σ = some (some (zI y0), σ) := by
  exact zq_ret (by exact dX3_count_55) (by exact rfl) (rv := some (zI y0)) (by exact rfl)
theorem b_X3_count_58 (d : Nat) (x2 x3 : Int) (σ : zS) : zq (d + 1) mX3_count 58 [some (zR (some 36)), none, some (zI x2), some (zI x3)] [] σ = (if nrm (σ 37 0) ≤ nrm x3 then some (some (zI x2), σ) else (zc d mX3_of [zI x3, zI 3] σ).bind fun r => zq (d + 1) mX3_count 78 [some (zR (some 36)), none, some (zI x2), some (zI x3)] (r.1.toList ++ [zR (some 37), zI x2]) r.2) := by
  refine Eq.trans (zY_step (by exact rfl) (by exact dX3_count_58) (by exact rfl) (pc' := 59) (S' := [zI x3]) (by exact rfl) (zcn (by exact rfl))) ?_
  refine Eq.trans (zY_step (by exact rfl) (by exact dX3_count_59) (by exact rfl) (pc' := 60) (S' := [zR (some 36), zI x3]) (by exact rfl) (zcn (by exact rfl))) ?_
  refine Eq.trans (zY_getR (by exact rfl) (by exact dX3_count_60) (by exact rfl) (by exact rfl) (t := 37) (by exact rfl) (zcn (by exact rfl))) ?_
  refine Eq.trans (zY_step (by exact rfl) (by exact dX3_count_63) (by exact rfl) (pc' := 64) (S' := [zI 0, zR (some 37), zI x3]) (by exact rfl) (zcn (by exact rfl))) ?_
  refine Eq.trans (zY_ialdc (by exact rfl) (by exact dX3_count_64) (by exact rfl) (by exact rfl) (j := 0) (by decide) (by decide) (zcn (by exact rfl))) ?_
  refine Eq.trans (zY_ic_ge (by exact rfl) (by exact dX3_count_65) (t := 89) (by exact rfl) (a2 := nrm x3) (b2 := nrm (σ 37 0)) (by exact rfl) (by exact rfl) (zcn (by exact rfl)) (zcn (by exact rfl))) (zif ?_ ?_)
  · refine Eq.trans (zY_step (by exact rfl) (by exact dX3_count_89) (by exact rfl) (pc' := 90) (S' := [zI x2]) (by exact rfl) (zcn (by exact rfl))) ?_
    exact zq_ret (by exact dX3_count_90) (by exact rfl) (rv := some (zI x2)) (by exact rfl)
  · refine Eq.trans (zY_step (by exact rfl) (by exact dX3_count_68) (by exact rfl) (pc' := 69) (S' := [zI x2]) (by exact rfl) (zcn (by exact rfl))) ?_
    refine Eq.trans (zY_step (by exact rfl) (by exact dX3_count_69) (by exact rfl) (pc' := 70) (S' := [zR (some 36), zI x2]) (by exact rfl) (zcn (by exact rfl))) ?_
    refine Eq.trans (zY_getR (by exact rfl) (by exact dX3_count_70) (by exact rfl) (by exact rfl) (t := 37) (by exact rfl) (zcn (by exact rfl))) ?_
    refine Eq.trans (zY_step (by exact rfl) (by exact dX3_count_73) (by exact rfl) (pc' := 74) (S' := [zI x3, zR (some 37), zI x2]) (by exact rfl) (zcn (by exact rfl))) ?_
    refine Eq.trans (zY_step (by exact rfl) (by exact dX3_count_74) (by exact rfl) (pc' := 75) (S' := [zI 3, zI x3, zR (some 37), zI x2]) (by exact rfl) (zcn (by exact rfl))) ?_
    exact zY_S (by exact rfl) (by exact dX3_count_75) (by exact rfl) (by exact Or.inl rfl) (as := [zI x3, zI 3]) (S' := [zR (some 37), zI x2]) (by exact rfl) (by exact rfl) (by exact Nat.le_of_ble_eq_true rfl) (by exact Nat.le_of_ble_eq_true rfl) (zcn (by exact rfl))
theorem b_X3_count_95 (d : Nat) (y0 x1 x2 : Int) (σ : zS) : zq d mX3_count 95 [some (zR (some 36)), some (zI x1), some (zI x2), none] [zI y0] σ = some (some (zI y0), σ) := by
  exact zq_ret (by exact dX3_count_95) (by exact rfl) (rv := some (zI y0)) (by exact rfl)
theorem b_X3_count_103 (d : Nat) (y0 x1 x2 : Int) (σ : zS) : zq d mX3_count 103 [some (zR (some 36)), some (zI x1), some (zI x2), none] [zI y0] σ = some (some (zI y0), σ) := by
  exact zq_ret (by exact dX3_count_103) (by exact rfl) (rv := some (zI y0)) (by exact rfl)
theorem b_X3_count_78 (d : Nat) (y0 y2 x2 x3 : Int) (σ : zS) : zq d mX3_count 78 [some (zR (some 36)), none, some (zI x2), some (zI x3)] [zI y0, zR (some 37), zI y2] σ = (if zix y0 35 then zq d mX3_count 58 [some (zR (some 36)), none, some (zI (zor y2 (zshl (σ 37 (nrm y0).toNat) x3))), some (zI (x3 + 1))] [] σ else none) := by
  refine Eq.trans (zY_iald (by exact rfl) (by exact dX3_count_78) (by exact rfl) (by exact rfl) (zcn (by exact rfl))) (zif ?_ rfl)
  · refine Eq.trans (zY_step (by exact rfl) (by exact dX3_count_79) (by exact rfl) (pc' := 80) (S' := [zI x3, zI (σ 37 (nrm y0).toNat), zI y2]) (by exact rfl) (zcn (by exact rfl))) ?_
    refine Eq.trans (zY_step (by exact rfl) (by exact dX3_count_80) (by exact rfl) (pc' := 81) (S' := [zI (zshl (σ 37 (nrm y0).toNat) x3), zI y2]) (by exact rfl) (zcn (by exact rfl))) ?_
    refine Eq.trans (zY_step (by exact rfl) (by exact dX3_count_81) (by exact rfl) (pc' := 82) (S' := [zI (zor y2 (zshl (σ 37 (nrm y0).toNat) x3))]) (by exact rfl) (zcn (by exact rfl))) ?_
    refine Eq.trans (zY_step (by exact rfl) (by exact dX3_count_82) (by exact rfl) (pc' := 83) (L' := [some (zR (some 36)), none, some (zI (zor y2 (zshl (σ 37 (nrm y0).toNat) x3))), some (zI x3)]) (S' := []) (by exact rfl) (zcn (by exact rfl))) ?_
    refine Eq.trans (zY_step (by exact rfl) (by exact dX3_count_83) (by exact rfl) (pc' := 86) (L' := [some (zR (some 36)), none, some (zI (zor y2 (zshl (σ 37 (nrm y0).toNat) x3))), some (zI (x3 + 1))]) (S' := []) (by exact rfl) (zcn (by exact rfl))) ?_
    exact zY_step (by exact rfl) (by exact dX3_count_86) (by exact rfl) (pc' := 58) (S' := []) (L2 := [some (zR (some 36)), none, some (zI (zor y2 (zshl (σ 37 (nrm y0).toNat) x3))), some (zI (x3 + 1))]) (by exact rfl) (by exact rfl)
theorem e_X3_thrown (d : Nat) (σ : zS) : zc d mX3_thrown [zR (some 36)] σ = some (some (zI (σ 36 20)), σ) := by
  refine Eq.trans (zc_zq (L := [some (zR (some 36))]) (by exact rfl)) ?_
  refine Eq.trans (zY_step (by exact rfl) (by exact dX3_thrown_0) (by exact rfl) (pc' := 1) (S' := [zR (some 36)]) (by exact rfl) (zcn (by exact rfl))) ?_
  refine Eq.trans (zY_getI (by exact rfl) (by exact dX3_thrown_1) (by exact rfl) (by exact rfl) (by exact rfl) (zcn (by exact rfl))) ?_
  exact zq_ret (by exact dX3_thrown_4) (by exact rfl) (rv := some (zI (σ 36 20))) (by exact rfl)
theorem e_X3_isShelf (d : Nat) (x0 : Int) (σ : zS) : zc (d + 1) mX3_isShelf [zI x0] σ = (zc d mX3_isIn [zI x0, zI 0, zI 7] σ).bind fun r => zq (d + 1) mX3_isShelf 7 [some (zI x0)] (r.1.toList ++ []) r.2 := by
  refine Eq.trans (zc_zq (L := [some (zI x0)]) (by exact rfl)) ?_
  refine Eq.trans (zY_step (by exact rfl) (by exact dX3_isShelf_0) (by exact rfl) (pc' := 1) (S' := [zI x0]) (by exact rfl) (zcn (by exact rfl))) ?_
  refine Eq.trans (zY_step (by exact rfl) (by exact dX3_isShelf_1) (by exact rfl) (pc' := 2) (S' := [zI 0, zI x0]) (by exact rfl) (zcn (by exact rfl))) ?_
  refine Eq.trans (zY_step (by exact rfl) (by exact dX3_isShelf_2) (by exact rfl) (pc' := 4) (S' := [zI 7, zI 0, zI x0]) (by exact rfl) (zcn (by exact rfl))) ?_
  exact zY_S (by exact rfl) (by exact dX3_isShelf_4) (by exact rfl) (by exact Or.inl rfl) (as := [zI x0, zI 0, zI 7]) (S' := []) (by exact rfl) (by exact rfl) (by exact Nat.le_of_ble_eq_true rfl) (by exact Nat.le_of_ble_eq_true rfl) (zcn (by exact rfl))
theorem b_X3_isShelf_7 (d : Nat) (y0 x0 : Int) (σ : zS) : zq d mX3_isShelf 7 [some (zI x0)] [zI y0] σ = (if nrm y0 = 0 ∨ nrm y0 = 1 then some (some (zI y0), σ) else none) := by
  exact zq_retb (by exact dX3_isShelf_7) (by exact rfl)
theorem e_X3_wrongRow (d : Nat) (x1 x2 : Int) (σ : zS) : zc (d + 1) mX3_wrongRow [zR (some 36), zI x1, zI x2] σ = (zc d mX3_isShelf [zI x1] σ).bind fun r => zq (d + 1) mX3_wrongRow 4 [some (zR (some 36)), some (zI x1), some (zI x2)] (r.1.toList ++ []) r.2 := by
  refine Eq.trans (zc_zq (L := [some (zR (some 36)), some (zI x1), some (zI x2)]) (by exact rfl)) ?_
  refine Eq.trans (zY_step (by exact rfl) (by exact dX3_wrongRow_0) (by exact rfl) (pc' := 1) (S' := [zI x1]) (by exact rfl) (zcn (by exact rfl))) ?_
  exact zY_S (by exact rfl) (by exact dX3_wrongRow_1) (by exact rfl) (by exact Or.inl rfl) (as := [zI x1]) (S' := []) (by exact rfl) (by exact rfl) (by exact Nat.le_of_ble_eq_true rfl) (by exact Nat.le_of_ble_eq_true rfl) (zcn (by exact rfl))
theorem b_X3_wrongRow_4 (d : Nat) (y0 x1 x2 : Int) (σ : zS) : zq d mX3_wrongRow 4 [some (zR (some 36)), some (zI x1), some (zI x2)] [zI y0] σ = (if ¬ nrm y0 = 0 then (if zix x1 8 then (if ¬ nrm (σ 45 (nrm x1).toNat) = 0 then (if zix x1 8 then (if ¬ nrm (σ 45 (nrm x1).toNat) = 2 then zq d mX3_wrongRow 49 [none, none, none] [] σ else (if nrm x2 < 0 then some (some (zI 0), σ) else (if zix x1 8 then (if nrm (σ 48 (nrm x1).toNat) = nrm x2 then some (some (zI 0), σ) else zq d mX3_wrongRow 49 [none, none, none] [] σ) else none))) else none) else some (some (zI ((-11))), σ)) else none) else some (some (zI ((-1))), σ)) := by
  refine Eq.trans (zY_if_ne (by exact rfl) (by exact dX3_wrongRow_4) (t := 11) (by exact rfl) (a2 := nrm y0) (by exact rfl) (zcn (by exact rfl)) (zcn (by exact rfl))) (zif ?_ ?_)
  · refine Eq.trans (zY_step (by exact rfl) (by exact dX3_wrongRow_11) (by exact rfl) (pc' := 12) (S' := [zR (some 36)]) (by exact rfl) (zcn (by exact rfl))) ?_
    refine Eq.trans (zY_getR (by exact rfl) (by exact dX3_wrongRow_12) (by exact rfl) (by exact rfl) (t := 45) (by exact rfl) (zcn (by exact rfl))) ?_
    refine Eq.trans (zY_step (by exact rfl) (by exact dX3_wrongRow_15) (by exact rfl) (pc' := 16) (S' := [zI x1, zR (some 45)]) (by exact rfl) (zcn (by exact rfl))) ?_
    refine Eq.trans (zY_iald (by exact rfl) (by exact dX3_wrongRow_16) (by exact rfl) (by exact rfl) (zcn (by exact rfl))) (zif ?_ rfl)
    · refine Eq.trans (zY_if_ne (by exact rfl) (by exact dX3_wrongRow_17) (t := 25) (by exact rfl) (a2 := nrm (σ 45 (nrm x1).toNat)) (by exact rfl) (zcn (by exact rfl)) (zcn (by exact rfl))) (zif ?_ ?_)
      · refine Eq.trans (zY_step (by exact rfl) (by exact dX3_wrongRow_25) (by exact rfl) (pc' := 26) (S' := [zR (some 36)]) (by exact rfl) (zcn (by exact rfl))) ?_
        refine Eq.trans (zY_getR (by exact rfl) (by exact dX3_wrongRow_26) (by exact rfl) (by exact rfl) (t := 45) (by exact rfl) (zcn (by exact rfl))) ?_
        refine Eq.trans (zY_step (by exact rfl) (by exact dX3_wrongRow_29) (by exact rfl) (pc' := 30) (S' := [zI x1, zR (some 45)]) (by exact rfl) (zcn (by exact rfl))) ?_
        refine Eq.trans (zY_iald (by exact rfl) (by exact dX3_wrongRow_30) (by exact rfl) (by exact rfl) (zcn (by exact rfl))) (zif ?_ rfl)
        · refine Eq.trans (zY_step (by exact rfl) (by exact dX3_wrongRow_31) (by exact rfl) (pc' := 32) (S' := [zI 2, zI (σ 45 (nrm x1).toNat)]) (by exact rfl) (zcn (by exact rfl))) ?_
          refine Eq.trans (zY_ic_ne (by exact rfl) (by exact dX3_wrongRow_32) (t := 49) (by exact rfl) (a2 := nrm (σ 45 (nrm x1).toNat)) (b2 := 2) (by exact rfl) (by decide) (L1 := [none, none, none]) (by exact rfl) (zcn (by exact rfl))) (zif ?_ ?_)
          · exact rfl
          · refine Eq.trans (zY_step (by exact rfl) (by exact dX3_wrongRow_35) (by exact rfl) (pc' := 36) (S' := [zI x2]) (by exact rfl) (zcn (by exact rfl))) ?_
            refine Eq.trans (zY_if_lt (by exact rfl) (by exact dX3_wrongRow_36) (t := 54) (by exact rfl) (a2 := nrm x2) (by exact rfl) (L1 := [none, none, none]) (by exact rfl) (zcn (by exact rfl))) (zif ?_ ?_)
            · refine Eq.trans (zY_step (by exact rfl) (by exact dX3_wrongRow_54) (by exact rfl) (pc' := 55) (S' := [zI 0]) (L2 := [none, none, none]) (by exact rfl) (by exact rfl)) ?_
              exact zq_ret (by exact dX3_wrongRow_55) (by exact rfl) (rv := some (zI 0)) (by exact rfl)
            · refine Eq.trans (zY_step (by exact rfl) (by exact dX3_wrongRow_39) (by exact rfl) (pc' := 40) (S' := [zR (some 36)]) (by exact rfl) (zcn (by exact rfl))) ?_
              refine Eq.trans (zY_getR (by exact rfl) (by exact dX3_wrongRow_40) (by exact rfl) (by exact rfl) (t := 48) (by exact rfl) (zcn (by exact rfl))) ?_
              refine Eq.trans (zY_step (by exact rfl) (by exact dX3_wrongRow_43) (by exact rfl) (pc' := 44) (S' := [zI x1, zR (some 48)]) (by exact rfl) (zcn (by exact rfl))) ?_
              refine Eq.trans (zY_iald (by exact rfl) (by exact dX3_wrongRow_44) (by exact rfl) (by exact rfl) (zcn (by exact rfl))) (zif ?_ rfl)
              · refine Eq.trans (zY_step (by exact rfl) (by exact dX3_wrongRow_45) (by exact rfl) (pc' := 46) (S' := [zI x2, zI (σ 48 (nrm x1).toNat)]) (by exact rfl) (zcn (by exact rfl))) ?_
                refine Eq.trans (zY_ic_eq (by exact rfl) (by exact dX3_wrongRow_46) (t := 54) (by exact rfl) (a2 := nrm (σ 48 (nrm x1).toNat)) (b2 := nrm x2) (by exact rfl) (by exact rfl) (L1 := [none, none, none]) (L2 := [none, none, none]) (by exact rfl) (by exact rfl)) (zif ?_ ?_)
                · refine Eq.trans (zY_step (by exact rfl) (by exact dX3_wrongRow_54) (by exact rfl) (pc' := 55) (S' := [zI 0]) (L2 := [none, none, none]) (by exact rfl) (by exact rfl)) ?_
                  exact zq_ret (by exact dX3_wrongRow_55) (by exact rfl) (rv := some (zI 0)) (by exact rfl)
                · exact rfl
      · refine Eq.trans (zY_step (by exact rfl) (by exact dX3_wrongRow_20) (by exact rfl) (pc' := 22) (S' := [zI ((-11))]) (by exact rfl) (zcn (by exact rfl))) ?_
        refine Eq.trans (zY_step (by exact rfl) (by exact dX3_wrongRow_22) (by exact rfl) (pc' := 55) (S' := [zI ((-11))]) (L2 := [none, none, none]) (by exact rfl) (by exact rfl)) ?_
        exact zq_ret (by exact dX3_wrongRow_55) (by exact rfl) (rv := some (zI ((-11)))) (by exact rfl)
  · refine Eq.trans (zY_step (by exact rfl) (by exact dX3_wrongRow_7) (by exact rfl) (pc' := 8) (S' := [zI ((-1))]) (by exact rfl) (zcn (by exact rfl))) ?_
    refine Eq.trans (zY_step (by exact rfl) (by exact dX3_wrongRow_8) (by exact rfl) (pc' := 55) (S' := [zI ((-1))]) (L2 := [none, none, none]) (by exact rfl) (by exact rfl)) ?_
    exact zq_ret (by exact dX3_wrongRow_55) (by exact rfl) (rv := some (zI ((-1)))) (by exact rfl)
theorem b_X3_wrongRow_49 (d : Nat) (σ : zS) : zq d mX3_wrongRow 49 [none, none, none] [] σ = some (some (zI ((-12))), σ) := by
  refine Eq.trans (zY_step (by exact rfl) (by exact dX3_wrongRow_49) (by exact rfl) (pc' := 51) (S' := [zI ((-12))]) (by exact rfl) (zcn (by exact rfl))) ?_
  refine Eq.trans (zY_step (by exact rfl) (by exact dX3_wrongRow_51) (by exact rfl) (pc' := 55) (S' := [zI ((-12))]) (L2 := [none, none, none]) (by exact rfl) (by exact rfl)) ?_
  exact zq_ret (by exact dX3_wrongRow_55) (by exact rfl) (rv := some (zI ((-12)))) (by exact rfl)
theorem e_X3_wrongKept (d : Nat) (x1 : Int) (σ : zS) : zc (d + 1) mX3_wrongKept [zR (some 36), zI x1] σ = (zc d mX3_isShelf [zI x1] σ).bind fun r => zq (d + 1) mX3_wrongKept 4 [some (zR (some 36)), some (zI x1)] (r.1.toList ++ []) r.2 := by
  refine Eq.trans (zc_zq (L := [some (zR (some 36)), some (zI x1)]) (by exact rfl)) ?_
  refine Eq.trans (zY_step (by exact rfl) (by exact dX3_wrongKept_0) (by exact rfl) (pc' := 1) (S' := [zI x1]) (by exact rfl) (zcn (by exact rfl))) ?_
  exact zY_S (by exact rfl) (by exact dX3_wrongKept_1) (by exact rfl) (by exact Or.inl rfl) (as := [zI x1]) (S' := []) (by exact rfl) (by exact rfl) (by exact Nat.le_of_ble_eq_true rfl) (by exact Nat.le_of_ble_eq_true rfl) (zcn (by exact rfl))
theorem b_X3_wrongKept_4 (d : Nat) (y0 x1 : Int) (σ : zS) : zq d mX3_wrongKept 4 [some (zR (some 36)), some (zI x1)] [zI y0] σ = (if ¬ nrm y0 = 0 then (if zix x1 8 then (if ¬ nrm (σ 45 (nrm x1).toNat) = 0 then (if zix x1 8 then (if ¬ nrm (σ 45 (nrm x1).toNat) = 2 then some (some (zI 0), σ) else some (some (zI ((-12))), σ)) else none) else some (some (zI ((-11))), σ)) else none) else some (some (zI ((-1))), σ)) := by
  refine Eq.trans (zY_if_ne (by exact rfl) (by exact dX3_wrongKept_4) (t := 11) (by exact rfl) (a2 := nrm y0) (by exact rfl) (zcn (by exact rfl)) (zcn (by exact rfl))) (zif ?_ ?_)
  · refine Eq.trans (zY_step (by exact rfl) (by exact dX3_wrongKept_11) (by exact rfl) (pc' := 12) (S' := [zR (some 36)]) (by exact rfl) (zcn (by exact rfl))) ?_
    refine Eq.trans (zY_getR (by exact rfl) (by exact dX3_wrongKept_12) (by exact rfl) (by exact rfl) (t := 45) (by exact rfl) (zcn (by exact rfl))) ?_
    refine Eq.trans (zY_step (by exact rfl) (by exact dX3_wrongKept_15) (by exact rfl) (pc' := 16) (S' := [zI x1, zR (some 45)]) (by exact rfl) (zcn (by exact rfl))) ?_
    refine Eq.trans (zY_iald (by exact rfl) (by exact dX3_wrongKept_16) (by exact rfl) (by exact rfl) (zcn (by exact rfl))) (zif ?_ rfl)
    · refine Eq.trans (zY_if_ne (by exact rfl) (by exact dX3_wrongKept_17) (t := 25) (by exact rfl) (a2 := nrm (σ 45 (nrm x1).toNat)) (by exact rfl) (zcn (by exact rfl)) (zcn (by exact rfl))) (zif ?_ ?_)
      · refine Eq.trans (zY_step (by exact rfl) (by exact dX3_wrongKept_25) (by exact rfl) (pc' := 26) (S' := [zR (some 36)]) (by exact rfl) (zcn (by exact rfl))) ?_
        refine Eq.trans (zY_getR (by exact rfl) (by exact dX3_wrongKept_26) (by exact rfl) (by exact rfl) (t := 45) (by exact rfl) (zcn (by exact rfl))) ?_
        refine Eq.trans (zY_step (by exact rfl) (by exact dX3_wrongKept_29) (by exact rfl) (pc' := 30) (S' := [zI x1, zR (some 45)]) (by exact rfl) (zcn (by exact rfl))) ?_
        refine Eq.trans (zY_iald (by exact rfl) (by exact dX3_wrongKept_30) (by exact rfl) (by exact rfl) (zcn (by exact rfl))) (zif ?_ rfl)
        · refine Eq.trans (zY_step (by exact rfl) (by exact dX3_wrongKept_31) (by exact rfl) (pc' := 32) (S' := [zI 2, zI (σ 45 (nrm x1).toNat)]) (by exact rfl) (zcn (by exact rfl))) ?_
          refine Eq.trans (zY_ic_ne (by exact rfl) (by exact dX3_wrongKept_32) (t := 40) (by exact rfl) (a2 := nrm (σ 45 (nrm x1).toNat)) (b2 := 2) (by exact rfl) (by decide) (zcn (by exact rfl)) (zcn (by exact rfl))) (zif ?_ ?_)
          · refine Eq.trans (zY_step (by exact rfl) (by exact dX3_wrongKept_40) (by exact rfl) (pc' := 41) (S' := [zI 0]) (L2 := [none, none]) (by exact rfl) (by exact rfl)) ?_
            exact zq_ret (by exact dX3_wrongKept_41) (by exact rfl) (rv := some (zI 0)) (by exact rfl)
          · refine Eq.trans (zY_step (by exact rfl) (by exact dX3_wrongKept_35) (by exact rfl) (pc' := 37) (S' := [zI ((-12))]) (by exact rfl) (zcn (by exact rfl))) ?_
            refine Eq.trans (zY_step (by exact rfl) (by exact dX3_wrongKept_37) (by exact rfl) (pc' := 41) (S' := [zI ((-12))]) (L2 := [none, none]) (by exact rfl) (by exact rfl)) ?_
            exact zq_ret (by exact dX3_wrongKept_41) (by exact rfl) (rv := some (zI ((-12)))) (by exact rfl)
      · refine Eq.trans (zY_step (by exact rfl) (by exact dX3_wrongKept_20) (by exact rfl) (pc' := 22) (S' := [zI ((-11))]) (by exact rfl) (zcn (by exact rfl))) ?_
        refine Eq.trans (zY_step (by exact rfl) (by exact dX3_wrongKept_22) (by exact rfl) (pc' := 41) (S' := [zI ((-11))]) (L2 := [none, none]) (by exact rfl) (by exact rfl)) ?_
        exact zq_ret (by exact dX3_wrongKept_41) (by exact rfl) (rv := some (zI ((-11)))) (by exact rfl)
  · refine Eq.trans (zY_step (by exact rfl) (by exact dX3_wrongKept_7) (by exact rfl) (pc' := 8) (S' := [zI ((-1))]) (by exact rfl) (zcn (by exact rfl))) ?_
    refine Eq.trans (zY_step (by exact rfl) (by exact dX3_wrongKept_8) (by exact rfl) (pc' := 41) (S' := [zI ((-1))]) (L2 := [none, none]) (by exact rfl) (by exact rfl)) ?_
    exact zq_ret (by exact dX3_wrongKept_41) (by exact rfl) (rv := some (zI ((-1)))) (by exact rfl)
theorem e_X3_keep (d : Nat) (x1 x2 x3 x4 : Int) (σ : zS) : zc (d + 1) mX3_keep [zR (some 36), zI x1, zI x2, zI x3, zI x4] σ = (zc d mX3_isShelf [zI x1] σ).bind fun r => zq (d + 1) mX3_keep 4 [some (zR (some 36)), some (zI x1), some (zI x2), some (zI x3), some (zI x4)] (r.1.toList ++ []) r.2 := by
  refine Eq.trans (zc_zq (L := [some (zR (some 36)), some (zI x1), some (zI x2), some (zI x3), some (zI x4)]) (by exact rfl)) ?_
  refine Eq.trans (zY_step (by exact rfl) (by exact dX3_keep_0) (by exact rfl) (pc' := 1) (S' := [zI x1]) (by exact rfl) (zcn (by exact rfl))) ?_
  exact zY_S (by exact rfl) (by exact dX3_keep_1) (by exact rfl) (by exact Or.inl rfl) (as := [zI x1]) (S' := []) (by exact rfl) (by exact rfl) (by exact Nat.le_of_ble_eq_true rfl) (by exact Nat.le_of_ble_eq_true rfl) (zcn (by exact rfl))
theorem b_X3_keep_4 (d : Nat) (y0 x1 x2 x3 x4 : Int) (σ : zS) : zq (d + 1) mX3_keep 4 [some (zR (some 36)), some (zI x1), some (zI x2), some (zI x3), some (zI x4)] [zI y0] σ = (if nrm y0 = 0 then some (some (zI ((-1))), σ) else (zc d mX3_isIn [zI x2, zI 0, zI 1] σ).bind fun r => zq (d + 1) mX3_keep 13 [some (zR (some 36)), some (zI x1), some (zI x2), some (zI x3), some (zI x4)] (r.1.toList ++ []) r.2) := by
  refine Eq.trans (zY_if_eq (by exact rfl) (by exact dX3_keep_4) (t := 42) (by exact rfl) (a2 := nrm y0) (by exact rfl) (L1 := [none, none, none, none, none]) (by exact rfl) (zcn (by exact rfl))) (zif ?_ ?_)
  · refine Eq.trans (zY_step (by exact rfl) (by exact dX3_keep_42) (by exact rfl) (pc' := 43) (S' := [zI ((-1))]) (by exact rfl) (zcn (by exact rfl))) ?_
    exact zq_ret (by exact dX3_keep_43) (by exact rfl) (rv := some (zI ((-1)))) (by exact rfl)
  · refine Eq.trans (zY_step (by exact rfl) (by exact dX3_keep_7) (by exact rfl) (pc' := 8) (S' := [zI x2]) (by exact rfl) (zcn (by exact rfl))) ?_
    refine Eq.trans (zY_step (by exact rfl) (by exact dX3_keep_8) (by exact rfl) (pc' := 9) (S' := [zI 0, zI x2]) (by exact rfl) (zcn (by exact rfl))) ?_
    refine Eq.trans (zY_step (by exact rfl) (by exact dX3_keep_9) (by exact rfl) (pc' := 10) (S' := [zI 1, zI 0, zI x2]) (by exact rfl) (zcn (by exact rfl))) ?_
    exact zY_S (by exact rfl) (by exact dX3_keep_10) (by exact rfl) (by exact Or.inl rfl) (as := [zI x2, zI 0, zI 1]) (S' := []) (by exact rfl) (by exact rfl) (by exact Nat.le_of_ble_eq_true rfl) (by exact Nat.le_of_ble_eq_true rfl) (zcn (by exact rfl))
theorem b_X3_keep_13 (d : Nat) (y0 x1 x2 x3 x4 : Int) (σ : zS) : zq (d + 1) mX3_keep 13 [some (zR (some 36)), some (zI x1), some (zI x2), some (zI x3), some (zI x4)] [zI y0] σ = (if nrm y0 = 0 then some (some (zI ((-1))), σ) else (if ¬ nrm x2 = 1 then zq (d + 1) mX3_keep 44 [some (zR (some 36)), some (zI x1), some (zI x2), some (zI x3), some (zI x4)] [] σ else (zc d mX3_isIn [zI x3, zI 0, zI 7] σ).bind fun r => zq (d + 1) mX3_keep 28 [some (zR (some 36)), some (zI x1), some (zI x2), some (zI x3), some (zI x4)] (r.1.toList ++ []) r.2)) := by
  refine Eq.trans (zY_if_eq (by exact rfl) (by exact dX3_keep_13) (t := 42) (by exact rfl) (a2 := nrm y0) (by exact rfl) (L1 := [none, none, none, none, none]) (by exact rfl) (zcn (by exact rfl))) (zif ?_ ?_)
  · refine Eq.trans (zY_step (by exact rfl) (by exact dX3_keep_42) (by exact rfl) (pc' := 43) (S' := [zI ((-1))]) (by exact rfl) (zcn (by exact rfl))) ?_
    exact zq_ret (by exact dX3_keep_43) (by exact rfl) (rv := some (zI ((-1)))) (by exact rfl)
  · refine Eq.trans (zY_step (by exact rfl) (by exact dX3_keep_16) (by exact rfl) (pc' := 17) (S' := [zI x2]) (by exact rfl) (zcn (by exact rfl))) ?_
    refine Eq.trans (zY_step (by exact rfl) (by exact dX3_keep_17) (by exact rfl) (pc' := 18) (S' := [zI 1, zI x2]) (by exact rfl) (zcn (by exact rfl))) ?_
    refine Eq.trans (zY_ic_ne (by exact rfl) (by exact dX3_keep_18) (t := 44) (by exact rfl) (a2 := nrm x2) (b2 := 1) (by exact rfl) (by decide) (zcn (by exact rfl)) (zcn (by exact rfl))) (zif ?_ ?_)
    · exact rfl
    · refine Eq.trans (zY_step (by exact rfl) (by exact dX3_keep_21) (by exact rfl) (pc' := 22) (S' := [zI x3]) (by exact rfl) (zcn (by exact rfl))) ?_
      refine Eq.trans (zY_step (by exact rfl) (by exact dX3_keep_22) (by exact rfl) (pc' := 23) (S' := [zI 0, zI x3]) (by exact rfl) (zcn (by exact rfl))) ?_
      refine Eq.trans (zY_step (by exact rfl) (by exact dX3_keep_23) (by exact rfl) (pc' := 25) (S' := [zI 7, zI 0, zI x3]) (by exact rfl) (zcn (by exact rfl))) ?_
      exact zY_S (by exact rfl) (by exact dX3_keep_25) (by exact rfl) (by exact Or.inl rfl) (as := [zI x3, zI 0, zI 7]) (S' := []) (by exact rfl) (by exact rfl) (by exact Nat.le_of_ble_eq_true rfl) (by exact Nat.le_of_ble_eq_true rfl) (zcn (by exact rfl))
theorem b_X3_keep_44 (d : Nat) (x1 x2 x3 x4 : Int) (σ : zS) : zq d mX3_keep 44 [some (zR (some 36)), some (zI x1), some (zI x2), some (zI x3), some (zI x4)] [] σ = (if zix x1 8 then (if zix x1 8 then (if zix x1 8 then some (some (zI 0), zup (zup (zup σ 45 (nrm x1).toNat x2) 46 (nrm x1).toNat x3) 47 (nrm x1).toNat x4) else none) else none) else none) := by
  refine Eq.trans (zY_step (by exact rfl) (by exact dX3_keep_44) (by exact rfl) (pc' := 45) (S' := [zR (some 36)]) (by exact rfl) (zcn (by exact rfl))) ?_
  refine Eq.trans (zY_getR (by exact rfl) (by exact dX3_keep_45) (by exact rfl) (by exact rfl) (t := 45) (by exact rfl) (zcn (by exact rfl))) ?_
  refine Eq.trans (zY_step (by exact rfl) (by exact dX3_keep_48) (by exact rfl) (pc' := 49) (S' := [zI x1, zR (some 45)]) (by exact rfl) (zcn (by exact rfl))) ?_
  refine Eq.trans (zY_step (by exact rfl) (by exact dX3_keep_49) (by exact rfl) (pc' := 50) (S' := [zI x2, zI x1, zR (some 45)]) (by exact rfl) (zcn (by exact rfl))) ?_
  refine Eq.trans (zY_iast (by exact rfl) (by exact dX3_keep_50) (by exact rfl) (by exact rfl) (zcn (by exact rfl))) (zif ?_ rfl)
  · refine Eq.trans (zY_step (by exact rfl) (by exact dX3_keep_51) (by exact rfl) (pc' := 52) (S' := [zR (some 36)]) (by exact rfl) (zcn (by exact rfl))) ?_
    refine Eq.trans (zY_getR (by exact rfl) (by exact dX3_keep_52) (by exact rfl) (by exact rfl) (t := 46) (by exact rfl) (zcn (by exact rfl))) ?_
    refine Eq.trans (zY_step (by exact rfl) (by exact dX3_keep_55) (by exact rfl) (pc' := 56) (S' := [zI x1, zR (some 46)]) (by exact rfl) (zcn (by exact rfl))) ?_
    refine Eq.trans (zY_step (by exact rfl) (by exact dX3_keep_56) (by exact rfl) (pc' := 57) (S' := [zI x3, zI x1, zR (some 46)]) (by exact rfl) (zcn (by exact rfl))) ?_
    refine Eq.trans (zY_iast (by exact rfl) (by exact dX3_keep_57) (by exact rfl) (by exact rfl) (zcn (by exact rfl))) (zif ?_ rfl)
    · refine Eq.trans (zY_step (by exact rfl) (by exact dX3_keep_58) (by exact rfl) (pc' := 59) (S' := [zR (some 36)]) (by exact rfl) (zcn (by exact rfl))) ?_
      refine Eq.trans (zY_getR (by exact rfl) (by exact dX3_keep_59) (by exact rfl) (by exact rfl) (t := 47) (by exact rfl) (zcn (by exact rfl))) ?_
      refine Eq.trans (zY_step (by exact rfl) (by exact dX3_keep_62) (by exact rfl) (pc' := 63) (S' := [zI x1, zR (some 47)]) (by exact rfl) (zcn (by exact rfl))) ?_
      refine Eq.trans (zY_step (by exact rfl) (by exact dX3_keep_63) (by exact rfl) (pc' := 65) (S' := [zI x4, zI x1, zR (some 47)]) (by exact rfl) (zcn (by exact rfl))) ?_
      refine Eq.trans (zY_iast (by exact rfl) (by exact dX3_keep_65) (by exact rfl) (by exact rfl) (zcn (by exact rfl))) (zif ?_ rfl)
      · refine Eq.trans (zY_step (by exact rfl) (by exact dX3_keep_66) (by exact rfl) (pc' := 67) (S' := [zI 0]) (by exact rfl) (zcn (by exact rfl))) ?_
        exact zq_ret (by exact dX3_keep_67) (by exact rfl) (rv := some (zI 0)) (by exact rfl)
theorem b_X3_keep_28 (d : Nat) (y0 x1 x2 x3 x4 : Int) (σ : zS) : zq (d + 1) mX3_keep 28 [some (zR (some 36)), some (zI x1), some (zI x2), some (zI x3), some (zI x4)] [zI y0] σ = (if nrm y0 = 0 then some (some (zI ((-1))), σ) else (zc d mX3_isIn [zI x4, zI 0, zI 9] σ).bind fun r => zq (d + 1) mX3_keep 39 [some (zR (some 36)), some (zI x1), some (zI x2), some (zI x3), some (zI x4)] (r.1.toList ++ []) r.2) := by
  refine Eq.trans (zY_if_eq (by exact rfl) (by exact dX3_keep_28) (t := 42) (by exact rfl) (a2 := nrm y0) (by exact rfl) (L1 := [none, none, none, none, none]) (by exact rfl) (zcn (by exact rfl))) (zif ?_ ?_)
  · refine Eq.trans (zY_step (by exact rfl) (by exact dX3_keep_42) (by exact rfl) (pc' := 43) (S' := [zI ((-1))]) (by exact rfl) (zcn (by exact rfl))) ?_
    exact zq_ret (by exact dX3_keep_43) (by exact rfl) (rv := some (zI ((-1)))) (by exact rfl)
  · refine Eq.trans (zY_step (by exact rfl) (by exact dX3_keep_31) (by exact rfl) (pc' := 33) (S' := [zI x4]) (by exact rfl) (zcn (by exact rfl))) ?_
    refine Eq.trans (zY_step (by exact rfl) (by exact dX3_keep_33) (by exact rfl) (pc' := 34) (S' := [zI 0, zI x4]) (by exact rfl) (zcn (by exact rfl))) ?_
    refine Eq.trans (zY_step (by exact rfl) (by exact dX3_keep_34) (by exact rfl) (pc' := 36) (S' := [zI 9, zI 0, zI x4]) (by exact rfl) (zcn (by exact rfl))) ?_
    exact zY_S (by exact rfl) (by exact dX3_keep_36) (by exact rfl) (by exact Or.inl rfl) (as := [zI x4, zI 0, zI 9]) (S' := []) (by exact rfl) (by exact rfl) (by exact Nat.le_of_ble_eq_true rfl) (by exact Nat.le_of_ble_eq_true rfl) (zcn (by exact rfl))
theorem b_X3_keep_39 (d : Nat) (y0 x1 x2 x3 x4 : Int) (σ : zS) : zq d mX3_keep 39 [some (zR (some 36)), some (zI x1), some (zI x2), some (zI x3), some (zI x4)] [zI y0] σ = (if ¬ nrm y0 = 0 then zq d mX3_keep 44 [some (zR (some 36)), some (zI x1), some (zI x2), some (zI x3), some (zI x4)] [] σ else some (some (zI ((-1))), σ)) := by
  refine Eq.trans (zY_if_ne (by exact rfl) (by exact dX3_keep_39) (t := 44) (by exact rfl) (a2 := nrm y0) (by exact rfl) (L2 := [none, none, none, none, none]) (zcn (by exact rfl)) (by exact rfl)) (zif ?_ ?_)
  · exact rfl
  · refine Eq.trans (zY_step (by exact rfl) (by exact dX3_keep_42) (by exact rfl) (pc' := 43) (S' := [zI ((-1))]) (by exact rfl) (zcn (by exact rfl))) ?_
    exact zq_ret (by exact dX3_keep_43) (by exact rfl) (rv := some (zI ((-1)))) (by exact rfl)
theorem e_X3_row (d : Nat) (x1 x2 x3 : Int) (σ : zS) : zc (d + 1) mX3_row [zR (some 36), zI x1, zI x2, zI x3] σ = (zc d mX3_isShelf [zI x1] σ).bind fun r => zq (d + 1) mX3_row 4 [some (zR (some 36)), some (zI x1), some (zI x2), some (zI x3), none] (r.1.toList ++ []) r.2 := by
  refine Eq.trans (zc_zq (L := [some (zR (some 36)), some (zI x1), some (zI x2), some (zI x3), none]) (by exact rfl)) ?_
  refine Eq.trans (zY_step (by exact rfl) (by exact dX3_row_0) (by exact rfl) (pc' := 1) (S' := [zI x1]) (by exact rfl) (zcn (by exact rfl))) ?_
  exact zY_S (by exact rfl) (by exact dX3_row_1) (by exact rfl) (by exact Or.inl rfl) (as := [zI x1]) (S' := []) (by exact rfl) (by exact rfl) (by exact Nat.le_of_ble_eq_true rfl) (by exact Nat.le_of_ble_eq_true rfl) (zcn (by exact rfl))
theorem b_X3_row_4 (d : Nat) (y0 x1 x2 x3 : Int) (σ : zS) : zq (d + 1) mX3_row 4 [some (zR (some 36)), some (zI x1), some (zI x2), some (zI x3), none] [zI y0] σ = (if nrm y0 = 0 then some (some (zI ((-1))), σ) else (zc d mX3_isIn [zI x2, zI 0, zI 2] σ).bind fun r => zq (d + 1) mX3_row 13 [some (zR (some 36)), some (zI x1), some (zI x2), some (zI x3), none] (r.1.toList ++ []) r.2) := by
  refine Eq.trans (zY_if_eq (by exact rfl) (by exact dX3_row_4) (t := 22) (by exact rfl) (a2 := nrm y0) (by exact rfl) (L1 := [none, none, none, none, none]) (by exact rfl) (zcn (by exact rfl))) (zif ?_ ?_)
  · refine Eq.trans (zY_step (by exact rfl) (by exact dX3_row_22) (by exact rfl) (pc' := 23) (S' := [zI ((-1))]) (by exact rfl) (zcn (by exact rfl))) ?_
    exact zq_ret (by exact dX3_row_23) (by exact rfl) (rv := some (zI ((-1)))) (by exact rfl)
  · refine Eq.trans (zY_step (by exact rfl) (by exact dX3_row_7) (by exact rfl) (pc' := 8) (S' := [zI x2]) (by exact rfl) (zcn (by exact rfl))) ?_
    refine Eq.trans (zY_step (by exact rfl) (by exact dX3_row_8) (by exact rfl) (pc' := 9) (S' := [zI 0, zI x2]) (by exact rfl) (zcn (by exact rfl))) ?_
    refine Eq.trans (zY_step (by exact rfl) (by exact dX3_row_9) (by exact rfl) (pc' := 10) (S' := [zI 2, zI 0, zI x2]) (by exact rfl) (zcn (by exact rfl))) ?_
    exact zY_S (by exact rfl) (by exact dX3_row_10) (by exact rfl) (by exact Or.inl rfl) (as := [zI x2, zI 0, zI 2]) (S' := []) (by exact rfl) (by exact rfl) (by exact Nat.le_of_ble_eq_true rfl) (by exact Nat.le_of_ble_eq_true rfl) (zcn (by exact rfl))
theorem b_X3_row_13 (d : Nat) (y0 x1 x2 x3 : Int) (σ : zS) : zq d mX3_row 13 [some (zR (some 36)), some (zI x1), some (zI x2), some (zI x3), none] [zI y0] σ = (if nrm y0 = 0 then some (some (zI ((-1))), σ) else (if nrm x3 ≤ 100 then (if 0 ≤ nrm x3 then (if zix x1 8 then (if zix x1 8 then (if zix x1 8 then zq d mX3_row 55 [some (zR (some 36)), some (zI x1), none, none, some (zI 0)] [] (zup (zup (zup σ 45 (nrm x1).toNat 2) 48 (nrm x1).toNat x2) 49 (nrm x1).toNat x3) else none) else none) else none) else some (some (zI ((-14))), σ)) else some (some (zI ((-1))), σ))) := by
  refine Eq.trans (zY_if_eq (by exact rfl) (by exact dX3_row_13) (t := 22) (by exact rfl) (a2 := nrm y0) (by exact rfl) (L1 := [none, none, none, none, none]) (by exact rfl) (zcn (by exact rfl))) (zif ?_ ?_)
  · refine Eq.trans (zY_step (by exact rfl) (by exact dX3_row_22) (by exact rfl) (pc' := 23) (S' := [zI ((-1))]) (by exact rfl) (zcn (by exact rfl))) ?_
    exact zq_ret (by exact dX3_row_23) (by exact rfl) (rv := some (zI ((-1)))) (by exact rfl)
  · refine Eq.trans (zY_step (by exact rfl) (by exact dX3_row_16) (by exact rfl) (pc' := 17) (S' := [zI x3]) (by exact rfl) (zcn (by exact rfl))) ?_
    refine Eq.trans (zY_step (by exact rfl) (by exact dX3_row_17) (by exact rfl) (pc' := 19) (S' := [zI 100, zI x3]) (by exact rfl) (zcn (by exact rfl))) ?_
    refine Eq.trans (zY_ic_le (by exact rfl) (by exact dX3_row_19) (t := 24) (by exact rfl) (a2 := nrm x3) (b2 := 100) (by exact rfl) (by decide) (L2 := [none, none, none, none, none]) (zcn (by exact rfl)) (by exact rfl)) (zif ?_ ?_)
    · refine Eq.trans (zY_step (by exact rfl) (by exact dX3_row_24) (by exact rfl) (pc' := 25) (S' := [zI x3]) (by exact rfl) (zcn (by exact rfl))) ?_
      refine Eq.trans (zY_if_ge (by exact rfl) (by exact dX3_row_25) (t := 31) (by exact rfl) (a2 := nrm x3) (by exact rfl) (zcn (by exact rfl)) (zcn (by exact rfl))) (zif ?_ ?_)
      · refine Eq.trans (zY_step (by exact rfl) (by exact dX3_row_31) (by exact rfl) (pc' := 32) (S' := [zR (some 36)]) (by exact rfl) (zcn (by exact rfl))) ?_
        refine Eq.trans (zY_getR (by exact rfl) (by exact dX3_row_32) (by exact rfl) (by exact rfl) (t := 45) (by exact rfl) (zcn (by exact rfl))) ?_
        refine Eq.trans (zY_step (by exact rfl) (by exact dX3_row_35) (by exact rfl) (pc' := 36) (S' := [zI x1, zR (some 45)]) (by exact rfl) (zcn (by exact rfl))) ?_
        refine Eq.trans (zY_step (by exact rfl) (by exact dX3_row_36) (by exact rfl) (pc' := 37) (S' := [zI 2, zI x1, zR (some 45)]) (by exact rfl) (zcn (by exact rfl))) ?_
        refine Eq.trans (zY_iast (by exact rfl) (by exact dX3_row_37) (by exact rfl) (by exact rfl) (zcn (by exact rfl))) (zif ?_ rfl)
        · refine Eq.trans (zY_step (by exact rfl) (by exact dX3_row_38) (by exact rfl) (pc' := 39) (S' := [zR (some 36)]) (by exact rfl) (zcn (by exact rfl))) ?_
          refine Eq.trans (zY_getR (by exact rfl) (by exact dX3_row_39) (by exact rfl) (by exact rfl) (t := 48) (by exact rfl) (zcn (by exact rfl))) ?_
          refine Eq.trans (zY_step (by exact rfl) (by exact dX3_row_42) (by exact rfl) (pc' := 43) (S' := [zI x1, zR (some 48)]) (by exact rfl) (zcn (by exact rfl))) ?_
          refine Eq.trans (zY_step (by exact rfl) (by exact dX3_row_43) (by exact rfl) (pc' := 44) (S' := [zI x2, zI x1, zR (some 48)]) (by exact rfl) (zcn (by exact rfl))) ?_
          refine Eq.trans (zY_iast (by exact rfl) (by exact dX3_row_44) (by exact rfl) (by exact rfl) (zcn (by exact rfl))) (zif ?_ rfl)
          · refine Eq.trans (zY_step (by exact rfl) (by exact dX3_row_45) (by exact rfl) (pc' := 46) (S' := [zR (some 36)]) (by exact rfl) (zcn (by exact rfl))) ?_
            refine Eq.trans (zY_getR (by exact rfl) (by exact dX3_row_46) (by exact rfl) (by exact rfl) (t := 49) (by exact rfl) (zcn (by exact rfl))) ?_
            refine Eq.trans (zY_step (by exact rfl) (by exact dX3_row_49) (by exact rfl) (pc' := 50) (S' := [zI x1, zR (some 49)]) (by exact rfl) (zcn (by exact rfl))) ?_
            refine Eq.trans (zY_step (by exact rfl) (by exact dX3_row_50) (by exact rfl) (pc' := 51) (S' := [zI x3, zI x1, zR (some 49)]) (by exact rfl) (zcn (by exact rfl))) ?_
            refine Eq.trans (zY_iast (by exact rfl) (by exact dX3_row_51) (by exact rfl) (by exact rfl) (zcn (by exact rfl))) (zif ?_ rfl)
            · refine Eq.trans (zY_step (by exact rfl) (by exact dX3_row_52) (by exact rfl) (pc' := 53) (S' := [zI 0]) (by exact rfl) (zcn (by exact rfl))) ?_
              exact zY_step (by exact rfl) (by exact dX3_row_53) (by exact rfl) (pc' := 55) (L' := [some (zR (some 36)), some (zI x1), some (zI x2), some (zI x3), some (zI 0)]) (S' := []) (L2 := [some (zR (some 36)), some (zI x1), none, none, some (zI 0)]) (by exact rfl) (by exact rfl)
      · refine Eq.trans (zY_step (by exact rfl) (by exact dX3_row_28) (by exact rfl) (pc' := 30) (S' := [zI ((-14))]) (by exact rfl) (zcn (by exact rfl))) ?_
        exact zq_ret (by exact dX3_row_30) (by exact rfl) (rv := some (zI ((-14)))) (by exact rfl)
    · refine Eq.trans (zY_step (by exact rfl) (by exact dX3_row_22) (by exact rfl) (pc' := 23) (S' := [zI ((-1))]) (by exact rfl) (zcn (by exact rfl))) ?_
      exact zq_ret (by exact dX3_row_23) (by exact rfl) (rv := some (zI ((-1)))) (by exact rfl)
theorem b_X3_row_55 (d : Nat) (x1 x4 : Int) (σ : zS) : zq d mX3_row 55 [some (zR (some 36)), some (zI x1), none, none, some (zI x4)] [] σ = (if 100 ≤ nrm x4 then some (some (zI 0), σ) else (if zix ((100 * x1) + x4) 800 then zq d mX3_row 55 [some (zR (some 36)), some (zI x1), none, none, some (zI (x4 + 1))] [] (zup σ 50 (nrm ((100 * x1) + x4)).toNat 0) else none)) := by
  refine Eq.trans (zY_step (by exact rfl) (by exact dX3_row_55) (by exact rfl) (pc' := 57) (S' := [zI x4]) (by exact rfl) (zcn (by exact rfl))) ?_
  refine Eq.trans (zY_step (by exact rfl) (by exact dX3_row_57) (by exact rfl) (pc' := 59) (S' := [zI 100, zI x4]) (by exact rfl) (zcn (by exact rfl))) ?_
  refine Eq.trans (zY_ic_ge (by exact rfl) (by exact dX3_row_59) (t := 81) (by exact rfl) (a2 := nrm x4) (b2 := 100) (by exact rfl) (by decide) (zcn (by exact rfl)) (zcn (by exact rfl))) (zif ?_ ?_)
  · refine Eq.trans (zY_step (by exact rfl) (by exact dX3_row_81) (by exact rfl) (pc' := 82) (S' := [zI 0]) (by exact rfl) (zcn (by exact rfl))) ?_
    exact zq_ret (by exact dX3_row_82) (by exact rfl) (rv := some (zI 0)) (by exact rfl)
  · refine Eq.trans (zY_step (by exact rfl) (by exact dX3_row_62) (by exact rfl) (pc' := 63) (S' := [zR (some 36)]) (by exact rfl) (zcn (by exact rfl))) ?_
    refine Eq.trans (zY_getR (by exact rfl) (by exact dX3_row_63) (by exact rfl) (by exact rfl) (t := 50) (by exact rfl) (zcn (by exact rfl))) ?_
    refine Eq.trans (zY_step (by exact rfl) (by exact dX3_row_66) (by exact rfl) (pc' := 68) (S' := [zI 100, zR (some 50)]) (by exact rfl) (zcn (by exact rfl))) ?_
    refine Eq.trans (zY_step (by exact rfl) (by exact dX3_row_68) (by exact rfl) (pc' := 69) (S' := [zI x1, zI 100, zR (some 50)]) (by exact rfl) (zcn (by exact rfl))) ?_
    refine Eq.trans (zY_step (by exact rfl) (by exact dX3_row_69) (by exact rfl) (pc' := 70) (S' := [zI (100 * x1), zR (some 50)]) (by exact rfl) (zcn (by exact rfl))) ?_
    refine Eq.trans (zY_step (by exact rfl) (by exact dX3_row_70) (by exact rfl) (pc' := 72) (S' := [zI x4, zI (100 * x1), zR (some 50)]) (by exact rfl) (zcn (by exact rfl))) ?_
    refine Eq.trans (zY_step (by exact rfl) (by exact dX3_row_72) (by exact rfl) (pc' := 73) (S' := [zI ((100 * x1) + x4), zR (some 50)]) (by exact rfl) (zcn (by exact rfl))) ?_
    refine Eq.trans (zY_step (by exact rfl) (by exact dX3_row_73) (by exact rfl) (pc' := 74) (S' := [zI 0, zI ((100 * x1) + x4), zR (some 50)]) (by exact rfl) (zcn (by exact rfl))) ?_
    refine Eq.trans (zY_iast (by exact rfl) (by exact dX3_row_74) (by exact rfl) (by exact rfl) (zcn (by exact rfl))) (zif ?_ rfl)
    · refine Eq.trans (zY_step (by exact rfl) (by exact dX3_row_75) (by exact rfl) (pc' := 78) (L' := [some (zR (some 36)), some (zI x1), none, none, some (zI (x4 + 1))]) (S' := []) (by exact rfl) (zcn (by exact rfl))) ?_
      exact zY_step (by exact rfl) (by exact dX3_row_78) (by exact rfl) (pc' := 55) (S' := []) (L2 := [some (zR (some 36)), some (zI x1), none, none, some (zI (x4 + 1))]) (by exact rfl) (by exact rfl)
theorem e_X3_put (d : Nat) (x1 x2 x3 : Int) (σ : zS) : zc (d + 1) mX3_put [zR (some 36), zI x1, zI x2, zI x3] σ = (zc d mX3_wrongRow [zR (some 36), zI x1, zI ((-1))] σ).bind fun r => zq (d + 1) mX3_put 6 [some (zR (some 36)), some (zI x1), some (zI x2), some (zI x3), none] (r.1.toList ++ []) r.2 := by
  refine Eq.trans (zc_zq (L := [some (zR (some 36)), some (zI x1), some (zI x2), some (zI x3), none]) (by exact rfl)) ?_
  refine Eq.trans (zY_step (by exact rfl) (by exact dX3_put_0) (by exact rfl) (pc' := 1) (S' := [zR (some 36)]) (by exact rfl) (zcn (by exact rfl))) ?_
  refine Eq.trans (zY_step (by exact rfl) (by exact dX3_put_1) (by exact rfl) (pc' := 2) (S' := [zI x1, zR (some 36)]) (by exact rfl) (zcn (by exact rfl))) ?_
  refine Eq.trans (zY_step (by exact rfl) (by exact dX3_put_2) (by exact rfl) (pc' := 3) (S' := [zI ((-1)), zI x1, zR (some 36)]) (by exact rfl) (zcn (by exact rfl))) ?_
  exact zY_V (by exact rfl) (by exact dX3_put_3) (by exact rfl) (as := [zI x1, zI ((-1))]) (S' := []) (by exact rfl) (by exact rfl) (by exact rfl) (by exact Nat.le_of_ble_eq_true rfl) (by exact Nat.le_of_ble_eq_true rfl) (by exact Nat.le_of_ble_eq_true rfl) (zcn (by exact rfl))
theorem b_X3_put_6 (d : Nat) (y0 x1 x2 x3 : Int) (σ : zS) : zq (d + 1) mX3_put 6 [some (zR (some 36)), some (zI x1), some (zI x2), some (zI x3), none] [zI y0] σ = (if nrm y0 = 0 then (if zix x1 8 then (zc d mX3_isIn [zI x2, zI 0, zI ((σ 49 (nrm x1).toNat) - 1)] σ).bind fun r => zq (d + 1) mX3_put 29 [some (zR (some 36)), some (zI x1), some (zI x2), some (zI x3), some (zI y0)] (r.1.toList ++ []) r.2 else none) else some (some (zI y0), σ)) := by
  refine Eq.trans (zY_step (by exact rfl) (by exact dX3_put_6) (by exact rfl) (pc' := 8) (L' := [some (zR (some 36)), some (zI x1), some (zI x2), some (zI x3), some (zI y0)]) (S' := []) (by exact rfl) (zcn (by exact rfl))) ?_
  refine Eq.trans (zY_step (by exact rfl) (by exact dX3_put_8) (by exact rfl) (pc' := 10) (S' := [zI y0]) (by exact rfl) (zcn (by exact rfl))) ?_
  refine Eq.trans (zY_if_eq (by exact rfl) (by exact dX3_put_10) (t := 16) (by exact rfl) (a2 := nrm y0) (by exact rfl) (zcn (by exact rfl)) (zcn (by exact rfl))) (zif ?_ ?_)
  · refine Eq.trans (zY_step (by exact rfl) (by exact dX3_put_16) (by exact rfl) (pc' := 17) (S' := [zI x2]) (by exact rfl) (zcn (by exact rfl))) ?_
    refine Eq.trans (zY_step (by exact rfl) (by exact dX3_put_17) (by exact rfl) (pc' := 18) (S' := [zI 0, zI x2]) (by exact rfl) (zcn (by exact rfl))) ?_
    refine Eq.trans (zY_step (by exact rfl) (by exact dX3_put_18) (by exact rfl) (pc' := 19) (S' := [zR (some 36), zI 0, zI x2]) (by exact rfl) (zcn (by exact rfl))) ?_
    refine Eq.trans (zY_getR (by exact rfl) (by exact dX3_put_19) (by exact rfl) (by exact rfl) (t := 49) (by exact rfl) (zcn (by exact rfl))) ?_
    refine Eq.trans (zY_step (by exact rfl) (by exact dX3_put_22) (by exact rfl) (pc' := 23) (S' := [zI x1, zR (some 49), zI 0, zI x2]) (by exact rfl) (zcn (by exact rfl))) ?_
    refine Eq.trans (zY_iald (by exact rfl) (by exact dX3_put_23) (by exact rfl) (by exact rfl) (zcn (by exact rfl))) (zif ?_ rfl)
    · refine Eq.trans (zY_step (by exact rfl) (by exact dX3_put_24) (by exact rfl) (pc' := 25) (S' := [zI 1, zI (σ 49 (nrm x1).toNat), zI 0, zI x2]) (by exact rfl) (zcn (by exact rfl))) ?_
      refine Eq.trans (zY_step (by exact rfl) (by exact dX3_put_25) (by exact rfl) (pc' := 26) (S' := [zI ((σ 49 (nrm x1).toNat) - 1), zI 0, zI x2]) (by exact rfl) (zcn (by exact rfl))) ?_
      exact zY_S (by exact rfl) (by exact dX3_put_26) (by exact rfl) (by exact Or.inl rfl) (as := [zI x2, zI 0, zI ((σ 49 (nrm x1).toNat) - 1)]) (S' := []) (by exact rfl) (by exact rfl) (by exact Nat.le_of_ble_eq_true rfl) (by exact Nat.le_of_ble_eq_true rfl) (zcn (by exact rfl))
  · refine Eq.trans (zY_step (by exact rfl) (by exact dX3_put_13) (by exact rfl) (pc' := 15) (S' := [zI y0]) (by exact rfl) (zcn (by exact rfl))) ?_
    exact zq_ret (by exact dX3_put_15) (by exact rfl) (rv := some (zI y0)) (by exact rfl)
theorem b_X3_put_29 (d : Nat) (y0 x1 x2 x3 x4 : Int) (σ : zS) : zq d mX3_put 29 [some (zR (some 36)), some (zI x1), some (zI x2), some (zI x3), some (zI x4)] [zI y0] σ = (if ¬ nrm y0 = 0 then (if zix x1 8 then (if ¬ nrm (σ 48 (nrm x1).toNat) = 0 then (if zix x1 8 then (if ¬ nrm (σ 48 (nrm x1).toNat) = 1 then zq d mX3_put 75 [none, none, none, none, none] [zI x3, zI ((100 * x1) + x2), zR (some 50)] σ else zq d mX3_put 75 [none, none, none, none, none] [zI (zi2s x3), zI ((100 * x1) + x2), zR (some 50)] σ) else none) else zq d mX3_put 75 [none, none, none, none, none] [zI (zi2b x3), zI ((100 * x1) + x2), zR (some 50)] σ) else none) else some (some (zI ((-13))), σ)) := by
  refine Eq.trans (zY_if_ne (by exact rfl) (by exact dX3_put_29) (t := 35) (by exact rfl) (a2 := nrm y0) (by exact rfl) (zcn (by exact rfl)) (zcn (by exact rfl))) (zif ?_ ?_)
  · refine Eq.trans (zY_step (by exact rfl) (by exact dX3_put_35) (by exact rfl) (pc' := 36) (S' := [zR (some 36)]) (by exact rfl) (zcn (by exact rfl))) ?_
    refine Eq.trans (zY_getR (by exact rfl) (by exact dX3_put_36) (by exact rfl) (by exact rfl) (t := 50) (by exact rfl) (zcn (by exact rfl))) ?_
    refine Eq.trans (zY_step (by exact rfl) (by exact dX3_put_39) (by exact rfl) (pc' := 41) (S' := [zI 100, zR (some 50)]) (by exact rfl) (zcn (by exact rfl))) ?_
    refine Eq.trans (zY_step (by exact rfl) (by exact dX3_put_41) (by exact rfl) (pc' := 42) (S' := [zI x1, zI 100, zR (some 50)]) (by exact rfl) (zcn (by exact rfl))) ?_
    refine Eq.trans (zY_step (by exact rfl) (by exact dX3_put_42) (by exact rfl) (pc' := 43) (S' := [zI (100 * x1), zR (some 50)]) (by exact rfl) (zcn (by exact rfl))) ?_
    refine Eq.trans (zY_step (by exact rfl) (by exact dX3_put_43) (by exact rfl) (pc' := 44) (S' := [zI x2, zI (100 * x1), zR (some 50)]) (by exact rfl) (zcn (by exact rfl))) ?_
    refine Eq.trans (zY_step (by exact rfl) (by exact dX3_put_44) (by exact rfl) (pc' := 45) (S' := [zI ((100 * x1) + x2), zR (some 50)]) (by exact rfl) (zcn (by exact rfl))) ?_
    refine Eq.trans (zY_step (by exact rfl) (by exact dX3_put_45) (by exact rfl) (pc' := 46) (S' := [zR (some 36), zI ((100 * x1) + x2), zR (some 50)]) (by exact rfl) (zcn (by exact rfl))) ?_
    refine Eq.trans (zY_getR (by exact rfl) (by exact dX3_put_46) (by exact rfl) (by exact rfl) (t := 48) (by exact rfl) (zcn (by exact rfl))) ?_
    refine Eq.trans (zY_step (by exact rfl) (by exact dX3_put_49) (by exact rfl) (pc' := 50) (S' := [zI x1, zR (some 48), zI ((100 * x1) + x2), zR (some 50)]) (by exact rfl) (zcn (by exact rfl))) ?_
    refine Eq.trans (zY_iald (by exact rfl) (by exact dX3_put_50) (by exact rfl) (by exact rfl) (zcn (by exact rfl))) (zif ?_ rfl)
    · refine Eq.trans (zY_if_ne (by exact rfl) (by exact dX3_put_51) (t := 59) (by exact rfl) (a2 := nrm (σ 48 (nrm x1).toNat)) (by exact rfl) (zcn (by exact rfl)) (zcn (by exact rfl))) (zif ?_ ?_)
      · refine Eq.trans (zY_step (by exact rfl) (by exact dX3_put_59) (by exact rfl) (pc' := 60) (S' := [zR (some 36), zI ((100 * x1) + x2), zR (some 50)]) (by exact rfl) (zcn (by exact rfl))) ?_
        refine Eq.trans (zY_getR (by exact rfl) (by exact dX3_put_60) (by exact rfl) (by exact rfl) (t := 48) (by exact rfl) (zcn (by exact rfl))) ?_
        refine Eq.trans (zY_step (by exact rfl) (by exact dX3_put_63) (by exact rfl) (pc' := 64) (S' := [zI x1, zR (some 48), zI ((100 * x1) + x2), zR (some 50)]) (by exact rfl) (zcn (by exact rfl))) ?_
        refine Eq.trans (zY_iald (by exact rfl) (by exact dX3_put_64) (by exact rfl) (by exact rfl) (zcn (by exact rfl))) (zif ?_ rfl)
        · refine Eq.trans (zY_step (by exact rfl) (by exact dX3_put_65) (by exact rfl) (pc' := 66) (S' := [zI 1, zI (σ 48 (nrm x1).toNat), zI ((100 * x1) + x2), zR (some 50)]) (by exact rfl) (zcn (by exact rfl))) ?_
          refine Eq.trans (zY_ic_ne (by exact rfl) (by exact dX3_put_66) (t := 74) (by exact rfl) (a2 := nrm (σ 48 (nrm x1).toNat)) (b2 := 1) (by exact rfl) (by decide) (zcn (by exact rfl)) (zcn (by exact rfl))) (zif ?_ ?_)
          · exact zY_step (by exact rfl) (by exact dX3_put_74) (by exact rfl) (pc' := 75) (S' := [zI x3, zI ((100 * x1) + x2), zR (some 50)]) (L2 := [none, none, none, none, none]) (by exact rfl) (by exact rfl)
          · refine Eq.trans (zY_step (by exact rfl) (by exact dX3_put_69) (by exact rfl) (pc' := 70) (S' := [zI x3, zI ((100 * x1) + x2), zR (some 50)]) (by exact rfl) (zcn (by exact rfl))) ?_
            refine Eq.trans (zY_step (by exact rfl) (by exact dX3_put_70) (by exact rfl) (pc' := 71) (S' := [zI (zi2s x3), zI ((100 * x1) + x2), zR (some 50)]) (by exact rfl) (zcn (by exact rfl))) ?_
            exact zY_step (by exact rfl) (by exact dX3_put_71) (by exact rfl) (pc' := 75) (S' := [zI (zi2s x3), zI ((100 * x1) + x2), zR (some 50)]) (L2 := [none, none, none, none, none]) (by exact rfl) (by exact rfl)
      · refine Eq.trans (zY_step (by exact rfl) (by exact dX3_put_54) (by exact rfl) (pc' := 55) (S' := [zI x3, zI ((100 * x1) + x2), zR (some 50)]) (by exact rfl) (zcn (by exact rfl))) ?_
        refine Eq.trans (zY_step (by exact rfl) (by exact dX3_put_55) (by exact rfl) (pc' := 56) (S' := [zI (zi2b x3), zI ((100 * x1) + x2), zR (some 50)]) (by exact rfl) (zcn (by exact rfl))) ?_
        exact zY_step (by exact rfl) (by exact dX3_put_56) (by exact rfl) (pc' := 75) (S' := [zI (zi2b x3), zI ((100 * x1) + x2), zR (some 50)]) (L2 := [none, none, none, none, none]) (by exact rfl) (by exact rfl)
  · refine Eq.trans (zY_step (by exact rfl) (by exact dX3_put_32) (by exact rfl) (pc' := 34) (S' := [zI ((-13))]) (by exact rfl) (zcn (by exact rfl))) ?_
    exact zq_ret (by exact dX3_put_34) (by exact rfl) (rv := some (zI ((-13)))) (by exact rfl)
theorem b_X3_put_75 (d : Nat) (y0 y1 : Int) (σ : zS) : zq d mX3_put 75 [none, none, none, none, none] [zI y0, zI y1, zR (some 50)] σ = (if zix y1 800 then some (some (zI 0), zup σ 50 (nrm y1).toNat y0) else none) := by
  refine Eq.trans (zY_iast (by exact rfl) (by exact dX3_put_75) (by exact rfl) (by exact rfl) (zcn (by exact rfl))) (zif ?_ rfl)
  · refine Eq.trans (zY_step (by exact rfl) (by exact dX3_put_76) (by exact rfl) (pc' := 77) (S' := [zI 0]) (by exact rfl) (zcn (by exact rfl))) ?_
    exact zq_ret (by exact dX3_put_77) (by exact rfl) (rv := some (zI 0)) (by exact rfl)
theorem e_X3_element (d : Nat) (x1 x2 : Int) (σ : zS) : zc (d + 1) mX3_element [zR (some 36), zI x1, zI x2] σ = (zc d mX3_isShelf [zI x1] σ).bind fun r => zq (d + 1) mX3_element 5 [some (zR (some 36)), some (zI x1), some (zI x2)] (r.1.toList ++ [zR (some 36)]) r.2 := by
  refine Eq.trans (zc_zq (L := [some (zR (some 36)), some (zI x1), some (zI x2)]) (by exact rfl)) ?_
  refine Eq.trans (zY_step (by exact rfl) (by exact dX3_element_0) (by exact rfl) (pc' := 1) (S' := [zR (some 36)]) (by exact rfl) (zcn (by exact rfl))) ?_
  refine Eq.trans (zY_step (by exact rfl) (by exact dX3_element_1) (by exact rfl) (pc' := 2) (S' := [zI x1, zR (some 36)]) (by exact rfl) (zcn (by exact rfl))) ?_
  exact zY_S (by exact rfl) (by exact dX3_element_2) (by exact rfl) (by exact Or.inl rfl) (as := [zI x1]) (S' := [zR (some 36)]) (by exact rfl) (by exact rfl) (by exact Nat.le_of_ble_eq_true rfl) (by exact Nat.le_of_ble_eq_true rfl) (zcn (by exact rfl))
theorem b_X3_element_5 (d : Nat) (y0 x1 x2 : Int) (σ : zS) : zq (d + 1) mX3_element 5 [some (zR (some 36)), some (zI x1), some (zI x2)] [zI y0, zR (some 36)] σ = (if ¬ nrm y0 = 0 then (if zix x1 8 then (if ¬ nrm (σ 45 (nrm x1).toNat) = 2 then zq (d + 1) mX3_element 38 [some (zR (some 36)), some (zI x1), some (zI x2)] [zR (some 36)] σ else (if zix x1 8 then (zc d mX3_isIn [zI x2, zI 0, zI ((σ 49 (nrm x1).toNat) - 1)] σ).bind fun r => zq (d + 1) mX3_element 35 [some (zR (some 36)), some (zI x1), some (zI x2)] (r.1.toList ++ [zR (some 36)]) r.2 else none)) else none) else zq (d + 1) mX3_element 43 [some (zR (some 36)), some (zI x1), some (zI x2)] [zI 1, zR (some 36)] σ) := by
  refine Eq.trans (zY_if_ne (by exact rfl) (by exact dX3_element_5) (t := 12) (by exact rfl) (a2 := nrm y0) (by exact rfl) (zcn (by exact rfl)) (zcn (by exact rfl))) (zif ?_ ?_)
  · refine Eq.trans (zY_step (by exact rfl) (by exact dX3_element_12) (by exact rfl) (pc' := 13) (S' := [zR (some 36), zR (some 36)]) (by exact rfl) (zcn (by exact rfl))) ?_
    refine Eq.trans (zY_getR (by exact rfl) (by exact dX3_element_13) (by exact rfl) (by exact rfl) (t := 45) (by exact rfl) (zcn (by exact rfl))) ?_
    refine Eq.trans (zY_step (by exact rfl) (by exact dX3_element_16) (by exact rfl) (pc' := 17) (S' := [zI x1, zR (some 45), zR (some 36)]) (by exact rfl) (zcn (by exact rfl))) ?_
    refine Eq.trans (zY_iald (by exact rfl) (by exact dX3_element_17) (by exact rfl) (by exact rfl) (zcn (by exact rfl))) (zif ?_ rfl)
    · refine Eq.trans (zY_step (by exact rfl) (by exact dX3_element_18) (by exact rfl) (pc' := 19) (S' := [zI 2, zI (σ 45 (nrm x1).toNat), zR (some 36)]) (by exact rfl) (zcn (by exact rfl))) ?_
      refine Eq.trans (zY_ic_ne (by exact rfl) (by exact dX3_element_19) (t := 38) (by exact rfl) (a2 := nrm (σ 45 (nrm x1).toNat)) (b2 := 2) (by exact rfl) (by decide) (zcn (by exact rfl)) (zcn (by exact rfl))) (zif ?_ ?_)
      · exact rfl
      · refine Eq.trans (zY_step (by exact rfl) (by exact dX3_element_22) (by exact rfl) (pc' := 23) (S' := [zI x2, zR (some 36)]) (by exact rfl) (zcn (by exact rfl))) ?_
        refine Eq.trans (zY_step (by exact rfl) (by exact dX3_element_23) (by exact rfl) (pc' := 24) (S' := [zI 0, zI x2, zR (some 36)]) (by exact rfl) (zcn (by exact rfl))) ?_
        refine Eq.trans (zY_step (by exact rfl) (by exact dX3_element_24) (by exact rfl) (pc' := 25) (S' := [zR (some 36), zI 0, zI x2, zR (some 36)]) (by exact rfl) (zcn (by exact rfl))) ?_
        refine Eq.trans (zY_getR (by exact rfl) (by exact dX3_element_25) (by exact rfl) (by exact rfl) (t := 49) (by exact rfl) (zcn (by exact rfl))) ?_
        refine Eq.trans (zY_step (by exact rfl) (by exact dX3_element_28) (by exact rfl) (pc' := 29) (S' := [zI x1, zR (some 49), zI 0, zI x2, zR (some 36)]) (by exact rfl) (zcn (by exact rfl))) ?_
        refine Eq.trans (zY_iald (by exact rfl) (by exact dX3_element_29) (by exact rfl) (by exact rfl) (zcn (by exact rfl))) (zif ?_ rfl)
        · refine Eq.trans (zY_step (by exact rfl) (by exact dX3_element_30) (by exact rfl) (pc' := 31) (S' := [zI 1, zI (σ 49 (nrm x1).toNat), zI 0, zI x2, zR (some 36)]) (by exact rfl) (zcn (by exact rfl))) ?_
          refine Eq.trans (zY_step (by exact rfl) (by exact dX3_element_31) (by exact rfl) (pc' := 32) (S' := [zI ((σ 49 (nrm x1).toNat) - 1), zI 0, zI x2, zR (some 36)]) (by exact rfl) (zcn (by exact rfl))) ?_
          exact zY_S (by exact rfl) (by exact dX3_element_32) (by exact rfl) (by exact Or.inl rfl) (as := [zI x2, zI 0, zI ((σ 49 (nrm x1).toNat) - 1)]) (S' := [zR (some 36)]) (by exact rfl) (by exact rfl) (by exact Nat.le_of_ble_eq_true rfl) (by exact Nat.le_of_ble_eq_true rfl) (zcn (by exact rfl))
  · refine Eq.trans (zY_step (by exact rfl) (by exact dX3_element_8) (by exact rfl) (pc' := 9) (S' := [zI 1, zR (some 36)]) (by exact rfl) (zcn (by exact rfl))) ?_
    exact zY_step (by exact rfl) (by exact dX3_element_9) (by exact rfl) (pc' := 43) (S' := [zI 1, zR (some 36)]) (by exact rfl) (zcn (by exact rfl))
theorem b_X3_element_38 (d : Nat) (x1 x2 : Int) (σ : zS) : zq d mX3_element 38 [some (zR (some 36)), some (zI x1), some (zI x2)] [zR (some 36)] σ = zq d mX3_element 43 [some (zR (some 36)), some (zI x1), some (zI x2)] [zI 2, zR (some 36)] σ := by
  refine Eq.trans (zY_step (by exact rfl) (by exact dX3_element_38) (by exact rfl) (pc' := 39) (S' := [zI 2, zR (some 36)]) (by exact rfl) (zcn (by exact rfl))) ?_
  exact zY_step (by exact rfl) (by exact dX3_element_39) (by exact rfl) (pc' := 43) (S' := [zI 2, zR (some 36)]) (by exact rfl) (zcn (by exact rfl))
theorem b_X3_element_35 (d : Nat) (y0 x1 x2 : Int) (σ : zS) : zq d mX3_element 35 [some (zR (some 36)), some (zI x1), some (zI x2)] [zI y0, zR (some 36)] σ = (if ¬ nrm y0 = 0 then zq d mX3_element 43 [some (zR (some 36)), some (zI x1), some (zI x2)] [zI 0, zR (some 36)] σ else zq d mX3_element 38 [some (zR (some 36)), some (zI x1), some (zI x2)] [zR (some 36)] σ) := by
  refine Eq.trans (zY_if_ne (by exact rfl) (by exact dX3_element_35) (t := 42) (by exact rfl) (a2 := nrm y0) (by exact rfl) (zcn (by exact rfl)) (zcn (by exact rfl))) (zif ?_ ?_)
  · exact zY_step (by exact rfl) (by exact dX3_element_42) (by exact rfl) (pc' := 43) (S' := [zI 0, zR (some 36)]) (by exact rfl) (zcn (by exact rfl))
  · exact rfl
theorem b_X3_element_43 (d : Nat) (y0 x1 x2 : Int) (σ : zS) : zq d mX3_element 43 [some (zR (some 36)), some (zI x1), some (zI x2)] [zI y0, zR (some 36)] σ = (if ¬ nrm ((zup σ 36 20 y0) 36 20) = 0 then some (some (zJ 0), zup σ 36 20 y0) else (if zix ((100 * x1) + x2) 800 then some (some (zJ (nrm ((zup σ 36 20 y0) 50 (nrm ((100 * x1) + x2)).toNat))), zup σ 36 20 y0) else none)) := by
  refine Eq.trans (zY_putI (by exact rfl) (by exact dX3_element_43) (by exact rfl) (by exact rfl) (by exact rfl) (by exact fun h => absurd h (by decide)) (zcn (by exact rfl))) ?_
  refine Eq.trans (zY_step (by exact rfl) (by exact dX3_element_46) (by exact rfl) (pc' := 47) (S' := [zR (some 36)]) (by exact rfl) (zcn (by exact rfl))) ?_
  refine Eq.trans (zY_getI (by exact rfl) (by exact dX3_element_47) (by exact rfl) (by exact rfl) (by exact rfl) (zcn (by exact rfl))) ?_
  refine Eq.trans (zY_if_ne (by exact rfl) (by exact dX3_element_50) (t := 68) (by exact rfl) (a2 := nrm ((zup σ 36 20 y0) 36 20)) (by exact rfl) (zcn (by exact rfl)) (zcn (by exact rfl))) (zif ?_ ?_)
  · refine Eq.trans (zY_step (by exact rfl) (by exact dX3_element_68) (by exact rfl) (pc' := 69) (S' := [zJ 0]) (L2 := [none, none, none]) (by exact rfl) (by exact rfl)) ?_
    exact zq_ret (by exact dX3_element_69) (by exact rfl) (rv := some (zJ 0)) (by exact rfl)
  · refine Eq.trans (zY_step (by exact rfl) (by exact dX3_element_53) (by exact rfl) (pc' := 54) (S' := [zR (some 36)]) (by exact rfl) (zcn (by exact rfl))) ?_
    refine Eq.trans (zY_getR (by exact rfl) (by exact dX3_element_54) (by exact rfl) (by exact rfl) (t := 50) (by exact rfl) (zcn (by exact rfl))) ?_
    refine Eq.trans (zY_step (by exact rfl) (by exact dX3_element_57) (by exact rfl) (pc' := 59) (S' := [zI 100, zR (some 50)]) (by exact rfl) (zcn (by exact rfl))) ?_
    refine Eq.trans (zY_step (by exact rfl) (by exact dX3_element_59) (by exact rfl) (pc' := 60) (S' := [zI x1, zI 100, zR (some 50)]) (by exact rfl) (zcn (by exact rfl))) ?_
    refine Eq.trans (zY_step (by exact rfl) (by exact dX3_element_60) (by exact rfl) (pc' := 61) (S' := [zI (100 * x1), zR (some 50)]) (by exact rfl) (zcn (by exact rfl))) ?_
    refine Eq.trans (zY_step (by exact rfl) (by exact dX3_element_61) (by exact rfl) (pc' := 62) (S' := [zI x2, zI (100 * x1), zR (some 50)]) (by exact rfl) (zcn (by exact rfl))) ?_
    refine Eq.trans (zY_step (by exact rfl) (by exact dX3_element_62) (by exact rfl) (pc' := 63) (S' := [zI ((100 * x1) + x2), zR (some 50)]) (by exact rfl) (zcn (by exact rfl))) ?_
    refine Eq.trans (zY_iald (by exact rfl) (by exact dX3_element_63) (by exact rfl) (by exact rfl) (zcn (by exact rfl))) (zif ?_ rfl)
    · refine Eq.trans (zY_step (by exact rfl) (by exact dX3_element_64) (by exact rfl) (pc' := 65) (S' := [zJ (nrm ((zup σ 36 20 y0) 50 (nrm ((100 * x1) + x2)).toNat))]) (by exact rfl) (zcn (by exact rfl))) ?_
      refine Eq.trans (zY_step (by exact rfl) (by exact dX3_element_65) (by exact rfl) (pc' := 69) (S' := [zJ (nrm ((zup σ 36 20 y0) 50 (nrm ((100 * x1) + x2)).toNat))]) (L2 := [none, none, none]) (by exact rfl) (by exact rfl)) ?_
      exact zq_ret (by exact dX3_element_69) (by exact rfl) (rv := some (zJ (nrm ((zup σ 36 20 y0) 50 (nrm ((100 * x1) + x2)).toNat)))) (by exact rfl)
theorem e_X3_copy (d : Nat) (x1 x2 x3 x4 x5 : Int) (σ : zS) : zc (d + 1) mX3_copy [zR (some 36), zI x1, zI x2, zI x3, zI x4, zI x5] σ = (zc d mX3_isShelf [zI x1] σ).bind fun r => zq (d + 1) mX3_copy 4 [some (zR (some 36)), some (zI x1), some (zI x2), some (zI x3), some (zI x4), some (zI x5), none, none] (r.1.toList ++ []) r.2 := by
  refine Eq.trans (zc_zq (L := [some (zR (some 36)), some (zI x1), some (zI x2), some (zI x3), some (zI x4), some (zI x5), none, none]) (by exact rfl)) ?_
  refine Eq.trans (zY_step (by exact rfl) (by exact dX3_copy_0) (by exact rfl) (pc' := 1) (S' := [zI x1]) (by exact rfl) (zcn (by exact rfl))) ?_
  exact zY_S (by exact rfl) (by exact dX3_copy_1) (by exact rfl) (by exact Or.inl rfl) (as := [zI x1]) (S' := []) (by exact rfl) (by exact rfl) (by exact Nat.le_of_ble_eq_true rfl) (by exact Nat.le_of_ble_eq_true rfl) (zcn (by exact rfl))
theorem b_X3_copy_4 (d : Nat) (y0 x1 x2 x3 x4 x5 : Int) (σ : zS) : zq (d + 1) mX3_copy 4 [some (zR (some 36)), some (zI x1), some (zI x2), some (zI x3), some (zI x4), some (zI x5), none, none] [zI y0] σ = (if nrm y0 = 0 then some (some (zI ((-1))), σ) else (zc d mX3_isShelf [zI x3] σ).bind fun r => zq (d + 1) mX3_copy 11 [some (zR (some 36)), some (zI x1), some (zI x2), some (zI x3), some (zI x4), some (zI x5), none, none] (r.1.toList ++ []) r.2) := by
  refine Eq.trans (zY_if_eq (by exact rfl) (by exact dX3_copy_4) (t := 14) (by exact rfl) (a2 := nrm y0) (by exact rfl) (L1 := [none, none, none, none, none, none, none, none]) (by exact rfl) (zcn (by exact rfl))) (zif ?_ ?_)
  · refine Eq.trans (zY_step (by exact rfl) (by exact dX3_copy_14) (by exact rfl) (pc' := 15) (S' := [zI ((-1))]) (by exact rfl) (zcn (by exact rfl))) ?_
    exact zq_ret (by exact dX3_copy_15) (by exact rfl) (rv := some (zI ((-1)))) (by exact rfl)
  · refine Eq.trans (zY_step (by exact rfl) (by exact dX3_copy_7) (by exact rfl) (pc' := 8) (S' := [zI x3]) (by exact rfl) (zcn (by exact rfl))) ?_
    exact zY_S (by exact rfl) (by exact dX3_copy_8) (by exact rfl) (by exact Or.inl rfl) (as := [zI x3]) (S' := []) (by exact rfl) (by exact rfl) (by exact Nat.le_of_ble_eq_true rfl) (by exact Nat.le_of_ble_eq_true rfl) (zcn (by exact rfl))
theorem b_X3_copy_11 (d : Nat) (y0 x1 x2 x3 x4 x5 : Int) (σ : zS) : zq d mX3_copy 11 [some (zR (some 36)), some (zI x1), some (zI x2), some (zI x3), some (zI x4), some (zI x5), none, none] [zI y0] σ = (if ¬ nrm y0 = 0 then (if zix x1 8 then (if nrm (σ 45 (nrm x1).toNat) = 0 then some (some (zI ((-11))), σ) else (if zix x3 8 then (if ¬ nrm (σ 45 (nrm x3).toNat) = 0 then (if zix x1 8 then (if ¬ nrm (σ 45 (nrm x1).toNat) = 2 then some (some (zI ((-12))), σ) else (if zix x3 8 then (if ¬ nrm (σ 45 (nrm x3).toNat) = 2 then some (some (zI ((-12))), σ) else (if zix x1 8 then (if zix x3 8 then (if nrm (σ 48 (nrm x1).toNat) = nrm (σ 48 (nrm x3).toNat) then (if nrm x5 < 0 then some (some (zI ((-13))), σ) else (if nrm x2 < 0 then some (some (zI ((-13))), σ) else (if nrm x4 < 0 then some (some (zI ((-13))), σ) else (if zix x1 8 then (if nrm ((σ 49 (nrm x1).toNat) - x2) < nrm x5 then some (some (zI ((-13))), σ) else (if zix x3 8 then (if nrm x5 ≤ nrm ((σ 49 (nrm x3).toNat) - x4) then zq d mX3_copy 122 [some (zR (some 36)), some (zI x1), some (zI x2), some (zI x3), some (zI x4), some (zI x5), some (zI 0), none] [] σ else some (some (zI ((-13))), σ)) else none)) else none)))) else some (some (zI ((-12))), σ)) else none) else none)) else none)) else none) else some (some (zI ((-11))), σ)) else none)) else none) else some (some (zI ((-1))), σ)) := by
  refine Eq.trans (zY_if_ne (by exact rfl) (by exact dX3_copy_11) (t := 16) (by exact rfl) (a2 := nrm y0) (by exact rfl) (L2 := [none, none, none, none, none, none, none, none]) (zcn (by exact rfl)) (by exact rfl)) (zif ?_ ?_)
  · refine Eq.trans (zY_step (by exact rfl) (by exact dX3_copy_16) (by exact rfl) (pc' := 17) (S' := [zR (some 36)]) (by exact rfl) (zcn (by exact rfl))) ?_
    refine Eq.trans (zY_getR (by exact rfl) (by exact dX3_copy_17) (by exact rfl) (by exact rfl) (t := 45) (by exact rfl) (zcn (by exact rfl))) ?_
    refine Eq.trans (zY_step (by exact rfl) (by exact dX3_copy_20) (by exact rfl) (pc' := 21) (S' := [zI x1, zR (some 45)]) (by exact rfl) (zcn (by exact rfl))) ?_
    refine Eq.trans (zY_iald (by exact rfl) (by exact dX3_copy_21) (by exact rfl) (by exact rfl) (zcn (by exact rfl))) (zif ?_ rfl)
    · refine Eq.trans (zY_if_eq (by exact rfl) (by exact dX3_copy_22) (t := 34) (by exact rfl) (a2 := nrm (σ 45 (nrm x1).toNat)) (by exact rfl) (L1 := [none, none, none, none, none, none, none, none]) (by exact rfl) (zcn (by exact rfl))) (zif ?_ ?_)
      · refine Eq.trans (zY_step (by exact rfl) (by exact dX3_copy_34) (by exact rfl) (pc' := 36) (S' := [zI ((-11))]) (by exact rfl) (zcn (by exact rfl))) ?_
        exact zq_ret (by exact dX3_copy_36) (by exact rfl) (rv := some (zI ((-11)))) (by exact rfl)
      · refine Eq.trans (zY_step (by exact rfl) (by exact dX3_copy_25) (by exact rfl) (pc' := 26) (S' := [zR (some 36)]) (by exact rfl) (zcn (by exact rfl))) ?_
        refine Eq.trans (zY_getR (by exact rfl) (by exact dX3_copy_26) (by exact rfl) (by exact rfl) (t := 45) (by exact rfl) (zcn (by exact rfl))) ?_
        refine Eq.trans (zY_step (by exact rfl) (by exact dX3_copy_29) (by exact rfl) (pc' := 30) (S' := [zI x3, zR (some 45)]) (by exact rfl) (zcn (by exact rfl))) ?_
        refine Eq.trans (zY_iald (by exact rfl) (by exact dX3_copy_30) (by exact rfl) (by exact rfl) (zcn (by exact rfl))) (zif ?_ rfl)
        · refine Eq.trans (zY_if_ne (by exact rfl) (by exact dX3_copy_31) (t := 37) (by exact rfl) (a2 := nrm (σ 45 (nrm x3).toNat)) (by exact rfl) (L2 := [none, none, none, none, none, none, none, none]) (zcn (by exact rfl)) (by exact rfl)) (zif ?_ ?_)
          · refine Eq.trans (zY_step (by exact rfl) (by exact dX3_copy_37) (by exact rfl) (pc' := 38) (S' := [zR (some 36)]) (by exact rfl) (zcn (by exact rfl))) ?_
            refine Eq.trans (zY_getR (by exact rfl) (by exact dX3_copy_38) (by exact rfl) (by exact rfl) (t := 45) (by exact rfl) (zcn (by exact rfl))) ?_
            refine Eq.trans (zY_step (by exact rfl) (by exact dX3_copy_41) (by exact rfl) (pc' := 42) (S' := [zI x1, zR (some 45)]) (by exact rfl) (zcn (by exact rfl))) ?_
            refine Eq.trans (zY_iald (by exact rfl) (by exact dX3_copy_42) (by exact rfl) (by exact rfl) (zcn (by exact rfl))) (zif ?_ rfl)
            · refine Eq.trans (zY_step (by exact rfl) (by exact dX3_copy_43) (by exact rfl) (pc' := 44) (S' := [zI 2, zI (σ 45 (nrm x1).toNat)]) (by exact rfl) (zcn (by exact rfl))) ?_
              refine Eq.trans (zY_ic_ne (by exact rfl) (by exact dX3_copy_44) (t := 72) (by exact rfl) (a2 := nrm (σ 45 (nrm x1).toNat)) (b2 := 2) (by exact rfl) (by decide) (L1 := [none, none, none, none, none, none, none, none]) (by exact rfl) (zcn (by exact rfl))) (zif ?_ ?_)
              · refine Eq.trans (zY_step (by exact rfl) (by exact dX3_copy_72) (by exact rfl) (pc' := 74) (S' := [zI ((-12))]) (by exact rfl) (zcn (by exact rfl))) ?_
                exact zq_ret (by exact dX3_copy_74) (by exact rfl) (rv := some (zI ((-12)))) (by exact rfl)
              · refine Eq.trans (zY_step (by exact rfl) (by exact dX3_copy_47) (by exact rfl) (pc' := 48) (S' := [zR (some 36)]) (by exact rfl) (zcn (by exact rfl))) ?_
                refine Eq.trans (zY_getR (by exact rfl) (by exact dX3_copy_48) (by exact rfl) (by exact rfl) (t := 45) (by exact rfl) (zcn (by exact rfl))) ?_
                refine Eq.trans (zY_step (by exact rfl) (by exact dX3_copy_51) (by exact rfl) (pc' := 52) (S' := [zI x3, zR (some 45)]) (by exact rfl) (zcn (by exact rfl))) ?_
                refine Eq.trans (zY_iald (by exact rfl) (by exact dX3_copy_52) (by exact rfl) (by exact rfl) (zcn (by exact rfl))) (zif ?_ rfl)
                · refine Eq.trans (zY_step (by exact rfl) (by exact dX3_copy_53) (by exact rfl) (pc' := 54) (S' := [zI 2, zI (σ 45 (nrm x3).toNat)]) (by exact rfl) (zcn (by exact rfl))) ?_
                  refine Eq.trans (zY_ic_ne (by exact rfl) (by exact dX3_copy_54) (t := 72) (by exact rfl) (a2 := nrm (σ 45 (nrm x3).toNat)) (b2 := 2) (by exact rfl) (by decide) (L1 := [none, none, none, none, none, none, none, none]) (by exact rfl) (zcn (by exact rfl))) (zif ?_ ?_)
                  · refine Eq.trans (zY_step (by exact rfl) (by exact dX3_copy_72) (by exact rfl) (pc' := 74) (S' := [zI ((-12))]) (by exact rfl) (zcn (by exact rfl))) ?_
                    exact zq_ret (by exact dX3_copy_74) (by exact rfl) (rv := some (zI ((-12)))) (by exact rfl)
                  · refine Eq.trans (zY_step (by exact rfl) (by exact dX3_copy_57) (by exact rfl) (pc' := 58) (S' := [zR (some 36)]) (by exact rfl) (zcn (by exact rfl))) ?_
                    refine Eq.trans (zY_getR (by exact rfl) (by exact dX3_copy_58) (by exact rfl) (by exact rfl) (t := 48) (by exact rfl) (zcn (by exact rfl))) ?_
                    refine Eq.trans (zY_step (by exact rfl) (by exact dX3_copy_61) (by exact rfl) (pc' := 62) (S' := [zI x1, zR (some 48)]) (by exact rfl) (zcn (by exact rfl))) ?_
                    refine Eq.trans (zY_iald (by exact rfl) (by exact dX3_copy_62) (by exact rfl) (by exact rfl) (zcn (by exact rfl))) (zif ?_ rfl)
                    · refine Eq.trans (zY_step (by exact rfl) (by exact dX3_copy_63) (by exact rfl) (pc' := 64) (S' := [zR (some 36), zI (σ 48 (nrm x1).toNat)]) (by exact rfl) (zcn (by exact rfl))) ?_
                      refine Eq.trans (zY_getR (by exact rfl) (by exact dX3_copy_64) (by exact rfl) (by exact rfl) (t := 48) (by exact rfl) (zcn (by exact rfl))) ?_
                      refine Eq.trans (zY_step (by exact rfl) (by exact dX3_copy_67) (by exact rfl) (pc' := 68) (S' := [zI x3, zR (some 48), zI (σ 48 (nrm x1).toNat)]) (by exact rfl) (zcn (by exact rfl))) ?_
                      refine Eq.trans (zY_iald (by exact rfl) (by exact dX3_copy_68) (by exact rfl) (by exact rfl) (zcn (by exact rfl))) (zif ?_ rfl)
                      · refine Eq.trans (zY_ic_eq (by exact rfl) (by exact dX3_copy_69) (t := 75) (by exact rfl) (a2 := nrm (σ 48 (nrm x1).toNat)) (b2 := nrm (σ 48 (nrm x3).toNat)) (by exact rfl) (by exact rfl) (L2 := [none, none, none, none, none, none, none, none]) (zcn (by exact rfl)) (by exact rfl)) (zif ?_ ?_)
                        · refine Eq.trans (zY_step (by exact rfl) (by exact dX3_copy_75) (by exact rfl) (pc' := 77) (S' := [zI x5]) (by exact rfl) (zcn (by exact rfl))) ?_
                          refine Eq.trans (zY_if_lt (by exact rfl) (by exact dX3_copy_77) (t := 116) (by exact rfl) (a2 := nrm x5) (by exact rfl) (L1 := [none, none, none, none, none, none, none, none]) (by exact rfl) (zcn (by exact rfl))) (zif ?_ ?_)
                          · refine Eq.trans (zY_step (by exact rfl) (by exact dX3_copy_116) (by exact rfl) (pc' := 118) (S' := [zI ((-13))]) (by exact rfl) (zcn (by exact rfl))) ?_
                            exact zq_ret (by exact dX3_copy_118) (by exact rfl) (rv := some (zI ((-13)))) (by exact rfl)
                          · refine Eq.trans (zY_step (by exact rfl) (by exact dX3_copy_80) (by exact rfl) (pc' := 81) (S' := [zI x2]) (by exact rfl) (zcn (by exact rfl))) ?_
                            refine Eq.trans (zY_if_lt (by exact rfl) (by exact dX3_copy_81) (t := 116) (by exact rfl) (a2 := nrm x2) (by exact rfl) (L1 := [none, none, none, none, none, none, none, none]) (by exact rfl) (zcn (by exact rfl))) (zif ?_ ?_)
                            · refine Eq.trans (zY_step (by exact rfl) (by exact dX3_copy_116) (by exact rfl) (pc' := 118) (S' := [zI ((-13))]) (by exact rfl) (zcn (by exact rfl))) ?_
                              exact zq_ret (by exact dX3_copy_118) (by exact rfl) (rv := some (zI ((-13)))) (by exact rfl)
                            · refine Eq.trans (zY_step (by exact rfl) (by exact dX3_copy_84) (by exact rfl) (pc' := 86) (S' := [zI x4]) (by exact rfl) (zcn (by exact rfl))) ?_
                              refine Eq.trans (zY_if_lt (by exact rfl) (by exact dX3_copy_86) (t := 116) (by exact rfl) (a2 := nrm x4) (by exact rfl) (L1 := [none, none, none, none, none, none, none, none]) (by exact rfl) (zcn (by exact rfl))) (zif ?_ ?_)
                              · refine Eq.trans (zY_step (by exact rfl) (by exact dX3_copy_116) (by exact rfl) (pc' := 118) (S' := [zI ((-13))]) (by exact rfl) (zcn (by exact rfl))) ?_
                                exact zq_ret (by exact dX3_copy_118) (by exact rfl) (rv := some (zI ((-13)))) (by exact rfl)
                              · refine Eq.trans (zY_step (by exact rfl) (by exact dX3_copy_89) (by exact rfl) (pc' := 91) (S' := [zI x5]) (by exact rfl) (zcn (by exact rfl))) ?_
                                refine Eq.trans (zY_step (by exact rfl) (by exact dX3_copy_91) (by exact rfl) (pc' := 92) (S' := [zR (some 36), zI x5]) (by exact rfl) (zcn (by exact rfl))) ?_
                                refine Eq.trans (zY_getR (by exact rfl) (by exact dX3_copy_92) (by exact rfl) (by exact rfl) (t := 49) (by exact rfl) (zcn (by exact rfl))) ?_
                                refine Eq.trans (zY_step (by exact rfl) (by exact dX3_copy_95) (by exact rfl) (pc' := 96) (S' := [zI x1, zR (some 49), zI x5]) (by exact rfl) (zcn (by exact rfl))) ?_
                                refine Eq.trans (zY_iald (by exact rfl) (by exact dX3_copy_96) (by exact rfl) (by exact rfl) (zcn (by exact rfl))) (zif ?_ rfl)
                                · refine Eq.trans (zY_step (by exact rfl) (by exact dX3_copy_97) (by exact rfl) (pc' := 98) (S' := [zI x2, zI (σ 49 (nrm x1).toNat), zI x5]) (by exact rfl) (zcn (by exact rfl))) ?_
                                  refine Eq.trans (zY_step (by exact rfl) (by exact dX3_copy_98) (by exact rfl) (pc' := 99) (S' := [zI ((σ 49 (nrm x1).toNat) - x2), zI x5]) (by exact rfl) (zcn (by exact rfl))) ?_
                                  refine Eq.trans (zY_ic_gt (by exact rfl) (by exact dX3_copy_99) (t := 116) (by exact rfl) (a2 := nrm x5) (b2 := nrm ((σ 49 (nrm x1).toNat) - x2)) (by exact rfl) (by exact rfl) (L1 := [none, none, none, none, none, none, none, none]) (by exact rfl) (zcn (by exact rfl))) (zif ?_ ?_)
                                  · refine Eq.trans (zY_step (by exact rfl) (by exact dX3_copy_116) (by exact rfl) (pc' := 118) (S' := [zI ((-13))]) (by exact rfl) (zcn (by exact rfl))) ?_
                                    exact zq_ret (by exact dX3_copy_118) (by exact rfl) (rv := some (zI ((-13)))) (by exact rfl)
                                  · refine Eq.trans (zY_step (by exact rfl) (by exact dX3_copy_102) (by exact rfl) (pc' := 104) (S' := [zI x5]) (by exact rfl) (zcn (by exact rfl))) ?_
                                    refine Eq.trans (zY_step (by exact rfl) (by exact dX3_copy_104) (by exact rfl) (pc' := 105) (S' := [zR (some 36), zI x5]) (by exact rfl) (zcn (by exact rfl))) ?_
                                    refine Eq.trans (zY_getR (by exact rfl) (by exact dX3_copy_105) (by exact rfl) (by exact rfl) (t := 49) (by exact rfl) (zcn (by exact rfl))) ?_
                                    refine Eq.trans (zY_step (by exact rfl) (by exact dX3_copy_108) (by exact rfl) (pc' := 109) (S' := [zI x3, zR (some 49), zI x5]) (by exact rfl) (zcn (by exact rfl))) ?_
                                    refine Eq.trans (zY_iald (by exact rfl) (by exact dX3_copy_109) (by exact rfl) (by exact rfl) (zcn (by exact rfl))) (zif ?_ rfl)
                                    · refine Eq.trans (zY_step (by exact rfl) (by exact dX3_copy_110) (by exact rfl) (pc' := 112) (S' := [zI x4, zI (σ 49 (nrm x3).toNat), zI x5]) (by exact rfl) (zcn (by exact rfl))) ?_
                                      refine Eq.trans (zY_step (by exact rfl) (by exact dX3_copy_112) (by exact rfl) (pc' := 113) (S' := [zI ((σ 49 (nrm x3).toNat) - x4), zI x5]) (by exact rfl) (zcn (by exact rfl))) ?_
                                      refine Eq.trans (zY_ic_le (by exact rfl) (by exact dX3_copy_113) (t := 119) (by exact rfl) (a2 := nrm x5) (b2 := nrm ((σ 49 (nrm x3).toNat) - x4)) (by exact rfl) (by exact rfl) (L2 := [none, none, none, none, none, none, none, none]) (zcn (by exact rfl)) (by exact rfl)) (zif ?_ ?_)
                                      · refine Eq.trans (zY_step (by exact rfl) (by exact dX3_copy_119) (by exact rfl) (pc' := 120) (S' := [zI 0]) (by exact rfl) (zcn (by exact rfl))) ?_
                                        exact zY_step (by exact rfl) (by exact dX3_copy_120) (by exact rfl) (pc' := 122) (L' := [some (zR (some 36)), some (zI x1), some (zI x2), some (zI x3), some (zI x4), some (zI x5), some (zI 0), none]) (S' := []) (L2 := [some (zR (some 36)), some (zI x1), some (zI x2), some (zI x3), some (zI x4), some (zI x5), some (zI 0), none]) (by exact rfl) (by exact rfl)
                                      · refine Eq.trans (zY_step (by exact rfl) (by exact dX3_copy_116) (by exact rfl) (pc' := 118) (S' := [zI ((-13))]) (by exact rfl) (zcn (by exact rfl))) ?_
                                        exact zq_ret (by exact dX3_copy_118) (by exact rfl) (rv := some (zI ((-13)))) (by exact rfl)
                        · refine Eq.trans (zY_step (by exact rfl) (by exact dX3_copy_72) (by exact rfl) (pc' := 74) (S' := [zI ((-12))]) (by exact rfl) (zcn (by exact rfl))) ?_
                          exact zq_ret (by exact dX3_copy_74) (by exact rfl) (rv := some (zI ((-12)))) (by exact rfl)
          · refine Eq.trans (zY_step (by exact rfl) (by exact dX3_copy_34) (by exact rfl) (pc' := 36) (S' := [zI ((-11))]) (by exact rfl) (zcn (by exact rfl))) ?_
            exact zq_ret (by exact dX3_copy_36) (by exact rfl) (rv := some (zI ((-11)))) (by exact rfl)
  · refine Eq.trans (zY_step (by exact rfl) (by exact dX3_copy_14) (by exact rfl) (pc' := 15) (S' := [zI ((-1))]) (by exact rfl) (zcn (by exact rfl))) ?_
    exact zq_ret (by exact dX3_copy_15) (by exact rfl) (rv := some (zI ((-1)))) (by exact rfl)
theorem b_X3_copy_122 (d : Nat) (x1 x2 x3 x4 x5 x6 : Int) (σ : zS) : zq d mX3_copy 122 [some (zR (some 36)), some (zI x1), some (zI x2), some (zI x3), some (zI x4), some (zI x5), some (zI x6), none] [] σ = (if nrm x5 ≤ nrm x6 then some (some (zI x5), σ) else (if nrm x2 ≤ nrm x4 then zq d mX3_copy 147 [some (zR (some 36)), some (zI x1), some (zI x2), some (zI x3), some (zI x4), some (zI x5), some (zI x6), none] [zI ((x5 - 1) - x6)] σ else zq d mX3_copy 147 [some (zR (some 36)), some (zI x1), some (zI x2), some (zI x3), some (zI x4), some (zI x5), some (zI x6), none] [zI x6] σ)) := by
  refine Eq.trans (zY_step (by exact rfl) (by exact dX3_copy_122) (by exact rfl) (pc' := 124) (S' := [zI x6]) (by exact rfl) (zcn (by exact rfl))) ?_
  refine Eq.trans (zY_step (by exact rfl) (by exact dX3_copy_124) (by exact rfl) (pc' := 126) (S' := [zI x5, zI x6]) (by exact rfl) (zcn (by exact rfl))) ?_
  refine Eq.trans (zY_ic_ge (by exact rfl) (by exact dX3_copy_126) (t := 184) (by exact rfl) (a2 := nrm x6) (b2 := nrm x5) (by exact rfl) (by exact rfl) (zcn (by exact rfl)) (zcn (by exact rfl))) (zif ?_ ?_)
  · refine Eq.trans (zY_step (by exact rfl) (by exact dX3_copy_184) (by exact rfl) (pc' := 186) (S' := [zI x5]) (by exact rfl) (zcn (by exact rfl))) ?_
    exact zq_ret (by exact dX3_copy_186) (by exact rfl) (rv := some (zI x5)) (by exact rfl)
  · refine Eq.trans (zY_step (by exact rfl) (by exact dX3_copy_129) (by exact rfl) (pc' := 130) (S' := [zI x2]) (by exact rfl) (zcn (by exact rfl))) ?_
    refine Eq.trans (zY_step (by exact rfl) (by exact dX3_copy_130) (by exact rfl) (pc' := 132) (S' := [zI x4, zI x2]) (by exact rfl) (zcn (by exact rfl))) ?_
    refine Eq.trans (zY_ic_le (by exact rfl) (by exact dX3_copy_132) (t := 140) (by exact rfl) (a2 := nrm x2) (b2 := nrm x4) (by exact rfl) (by exact rfl) (zcn (by exact rfl)) (zcn (by exact rfl))) (zif ?_ ?_)
    · refine Eq.trans (zY_step (by exact rfl) (by exact dX3_copy_140) (by exact rfl) (pc' := 142) (S' := [zI x5]) (by exact rfl) (zcn (by exact rfl))) ?_
      refine Eq.trans (zY_step (by exact rfl) (by exact dX3_copy_142) (by exact rfl) (pc' := 143) (S' := [zI 1, zI x5]) (by exact rfl) (zcn (by exact rfl))) ?_
      refine Eq.trans (zY_step (by exact rfl) (by exact dX3_copy_143) (by exact rfl) (pc' := 144) (S' := [zI (x5 - 1)]) (by exact rfl) (zcn (by exact rfl))) ?_
      refine Eq.trans (zY_step (by exact rfl) (by exact dX3_copy_144) (by exact rfl) (pc' := 146) (S' := [zI x6, zI (x5 - 1)]) (by exact rfl) (zcn (by exact rfl))) ?_
      exact zY_step (by exact rfl) (by exact dX3_copy_146) (by exact rfl) (pc' := 147) (S' := [zI ((x5 - 1) - x6)]) (by exact rfl) (zcn (by exact rfl))
    · refine Eq.trans (zY_step (by exact rfl) (by exact dX3_copy_135) (by exact rfl) (pc' := 137) (S' := [zI x6]) (by exact rfl) (zcn (by exact rfl))) ?_
      exact zY_step (by exact rfl) (by exact dX3_copy_137) (by exact rfl) (pc' := 147) (S' := [zI x6]) (by exact rfl) (zcn (by exact rfl))
theorem b_X3_copy_147 (d : Nat) (y0 x1 x2 x3 x4 x5 x6 : Int) (σ : zS) : zq d mX3_copy 147 [some (zR (some 36)), some (zI x1), some (zI x2), some (zI x3), some (zI x4), some (zI x5), some (zI x6), none] [zI y0] σ = (if zix (((100 * x1) + x2) + y0) 800 then (if zix (((100 * x3) + x4) + y0) 800 then zq d mX3_copy 122 [some (zR (some 36)), some (zI x1), some (zI x2), some (zI x3), some (zI x4), some (zI x5), some (zI (x6 + 1)), none] [] (zup σ 50 (nrm (((100 * x3) + x4) + y0)).toNat (σ 50 (nrm (((100 * x1) + x2) + y0)).toNat)) else none) else none) := by
  refine Eq.trans (zY_step (by exact rfl) (by exact dX3_copy_147) (by exact rfl) (pc' := 149) (L' := [some (zR (some 36)), some (zI x1), some (zI x2), some (zI x3), some (zI x4), some (zI x5), some (zI x6), some (zI y0)]) (S' := []) (by exact rfl) (zcn (by exact rfl))) ?_
  refine Eq.trans (zY_step (by exact rfl) (by exact dX3_copy_149) (by exact rfl) (pc' := 150) (S' := [zR (some 36)]) (by exact rfl) (zcn (by exact rfl))) ?_
  refine Eq.trans (zY_getR (by exact rfl) (by exact dX3_copy_150) (by exact rfl) (by exact rfl) (t := 50) (by exact rfl) (zcn (by exact rfl))) ?_
  refine Eq.trans (zY_step (by exact rfl) (by exact dX3_copy_153) (by exact rfl) (pc' := 155) (S' := [zI 100, zR (some 50)]) (by exact rfl) (zcn (by exact rfl))) ?_
  refine Eq.trans (zY_step (by exact rfl) (by exact dX3_copy_155) (by exact rfl) (pc' := 156) (S' := [zI x3, zI 100, zR (some 50)]) (by exact rfl) (zcn (by exact rfl))) ?_
  refine Eq.trans (zY_step (by exact rfl) (by exact dX3_copy_156) (by exact rfl) (pc' := 157) (S' := [zI (100 * x3), zR (some 50)]) (by exact rfl) (zcn (by exact rfl))) ?_
  refine Eq.trans (zY_step (by exact rfl) (by exact dX3_copy_157) (by exact rfl) (pc' := 159) (S' := [zI x4, zI (100 * x3), zR (some 50)]) (by exact rfl) (zcn (by exact rfl))) ?_
  refine Eq.trans (zY_step (by exact rfl) (by exact dX3_copy_159) (by exact rfl) (pc' := 160) (S' := [zI ((100 * x3) + x4), zR (some 50)]) (by exact rfl) (zcn (by exact rfl))) ?_
  refine Eq.trans (zY_step (by exact rfl) (by exact dX3_copy_160) (by exact rfl) (pc' := 162) (S' := [zI y0, zI ((100 * x3) + x4), zR (some 50)]) (by exact rfl) (zcn (by exact rfl))) ?_
  refine Eq.trans (zY_step (by exact rfl) (by exact dX3_copy_162) (by exact rfl) (pc' := 163) (S' := [zI (((100 * x3) + x4) + y0), zR (some 50)]) (by exact rfl) (zcn (by exact rfl))) ?_
  refine Eq.trans (zY_step (by exact rfl) (by exact dX3_copy_163) (by exact rfl) (pc' := 164) (S' := [zR (some 36), zI (((100 * x3) + x4) + y0), zR (some 50)]) (by exact rfl) (zcn (by exact rfl))) ?_
  refine Eq.trans (zY_getR (by exact rfl) (by exact dX3_copy_164) (by exact rfl) (by exact rfl) (t := 50) (by exact rfl) (zcn (by exact rfl))) ?_
  refine Eq.trans (zY_step (by exact rfl) (by exact dX3_copy_167) (by exact rfl) (pc' := 169) (S' := [zI 100, zR (some 50), zI (((100 * x3) + x4) + y0), zR (some 50)]) (by exact rfl) (zcn (by exact rfl))) ?_
  refine Eq.trans (zY_step (by exact rfl) (by exact dX3_copy_169) (by exact rfl) (pc' := 170) (S' := [zI x1, zI 100, zR (some 50), zI (((100 * x3) + x4) + y0), zR (some 50)]) (by exact rfl) (zcn (by exact rfl))) ?_
  refine Eq.trans (zY_step (by exact rfl) (by exact dX3_copy_170) (by exact rfl) (pc' := 171) (S' := [zI (100 * x1), zR (some 50), zI (((100 * x3) + x4) + y0), zR (some 50)]) (by exact rfl) (zcn (by exact rfl))) ?_
  refine Eq.trans (zY_step (by exact rfl) (by exact dX3_copy_171) (by exact rfl) (pc' := 172) (S' := [zI x2, zI (100 * x1), zR (some 50), zI (((100 * x3) + x4) + y0), zR (some 50)]) (by exact rfl) (zcn (by exact rfl))) ?_
  refine Eq.trans (zY_step (by exact rfl) (by exact dX3_copy_172) (by exact rfl) (pc' := 173) (S' := [zI ((100 * x1) + x2), zR (some 50), zI (((100 * x3) + x4) + y0), zR (some 50)]) (by exact rfl) (zcn (by exact rfl))) ?_
  refine Eq.trans (zY_step (by exact rfl) (by exact dX3_copy_173) (by exact rfl) (pc' := 175) (S' := [zI y0, zI ((100 * x1) + x2), zR (some 50), zI (((100 * x3) + x4) + y0), zR (some 50)]) (by exact rfl) (zcn (by exact rfl))) ?_
  refine Eq.trans (zY_step (by exact rfl) (by exact dX3_copy_175) (by exact rfl) (pc' := 176) (S' := [zI (((100 * x1) + x2) + y0), zR (some 50), zI (((100 * x3) + x4) + y0), zR (some 50)]) (by exact rfl) (zcn (by exact rfl))) ?_
  refine Eq.trans (zY_iald (by exact rfl) (by exact dX3_copy_176) (by exact rfl) (by exact rfl) (zcn (by exact rfl))) (zif ?_ rfl)
  · refine Eq.trans (zY_iast (by exact rfl) (by exact dX3_copy_177) (by exact rfl) (by exact rfl) (zcn (by exact rfl))) (zif ?_ rfl)
    · refine Eq.trans (zY_step (by exact rfl) (by exact dX3_copy_178) (by exact rfl) (pc' := 181) (L' := [some (zR (some 36)), some (zI x1), some (zI x2), some (zI x3), some (zI x4), some (zI x5), some (zI (x6 + 1)), some (zI y0)]) (S' := []) (by exact rfl) (zcn (by exact rfl))) ?_
      exact zY_step (by exact rfl) (by exact dX3_copy_181) (by exact rfl) (pc' := 122) (S' := []) (L2 := [some (zR (some 36)), some (zI x1), some (zI x2), some (zI x3), some (zI x4), some (zI x5), some (zI (x6 + 1)), none]) (by exact rfl) (by exact rfl)
theorem e_X3_costBy (d : Nat) (x0 x1 : Int) (σ : zS) : zc d mX3_costBy [zI x0, zI x1] σ = (if nrm x0 = 1 then some (some (zI (3 + x1)), σ) else (if nrm x0 = 2 then some (some (zI 5), σ) else (if nrm x0 = 3 then some (some (zI 1), σ) else (if nrm x0 = 4 then some (some (zI 1), σ) else (if nrm x0 = 5 then some (some (zI 7), σ) else (if nrm x0 = 6 then some (some (zI (1 + x1)), σ) else (if nrm x0 = 7 then some (some (zI 10), σ) else some (some (zI 3), σ)))))))) := by
  refine Eq.trans (zc_zq (L := [some (zI x0), some (zI x1)]) (by exact rfl)) ?_
  refine Eq.trans (zY_step (by exact rfl) (by exact dX3_costBy_0) (by exact rfl) (pc' := 1) (S' := [zI x0]) (by exact rfl) (zcn (by exact rfl))) ?_
  refine Eq.trans (zY_tsw (by exact rfl) (by exact dX3_costBy_1) (by exact rfl) (dt := 62) (by exact rfl) (ts := [(1, 44), (2, 48), (3, 50), (4, 50), (5, 52), (6, 55), (7, 59)]) (by exact rfl)) ?_
  refine zif ?_ (zif ?_ (zif ?_ (zif ?_ (zif ?_ (zif ?_ (zif ?_ (?_)))))))
  · refine Eq.trans (zY_at (L2 := [some (zI x0), some (zI x1)]) (zcn (by exact rfl))) ?_
    refine Eq.trans (zY_step (by exact rfl) (by exact dX3_costBy_44) (by exact rfl) (pc' := 45) (S' := [zI 3]) (by exact rfl) (zcn (by exact rfl))) ?_
    refine Eq.trans (zY_step (by exact rfl) (by exact dX3_costBy_45) (by exact rfl) (pc' := 46) (S' := [zI x1, zI 3]) (by exact rfl) (zcn (by exact rfl))) ?_
    refine Eq.trans (zY_step (by exact rfl) (by exact dX3_costBy_46) (by exact rfl) (pc' := 47) (S' := [zI (3 + x1)]) (by exact rfl) (zcn (by exact rfl))) ?_
    exact zq_ret (by exact dX3_costBy_47) (by exact rfl) (rv := some (zI (3 + x1))) (by exact rfl)
  · refine Eq.trans (zY_at (L2 := [some (zI x0), some (zI x1)]) (zcn (by exact rfl))) ?_
    refine Eq.trans (zY_step (by exact rfl) (by exact dX3_costBy_48) (by exact rfl) (pc' := 49) (S' := [zI 5]) (by exact rfl) (zcn (by exact rfl))) ?_
    exact zq_ret (by exact dX3_costBy_49) (by exact rfl) (rv := some (zI 5)) (by exact rfl)
  · refine Eq.trans (zY_at (L2 := [none, none]) (by exact rfl)) ?_
    refine Eq.trans (zY_step (by exact rfl) (by exact dX3_costBy_50) (by exact rfl) (pc' := 51) (S' := [zI 1]) (by exact rfl) (zcn (by exact rfl))) ?_
    exact zq_ret (by exact dX3_costBy_51) (by exact rfl) (rv := some (zI 1)) (by exact rfl)
  · refine Eq.trans (zY_at (L2 := [none, none]) (by exact rfl)) ?_
    refine Eq.trans (zY_step (by exact rfl) (by exact dX3_costBy_50) (by exact rfl) (pc' := 51) (S' := [zI 1]) (by exact rfl) (zcn (by exact rfl))) ?_
    exact zq_ret (by exact dX3_costBy_51) (by exact rfl) (rv := some (zI 1)) (by exact rfl)
  · refine Eq.trans (zY_at (L2 := [some (zI x0), some (zI x1)]) (zcn (by exact rfl))) ?_
    refine Eq.trans (zY_step (by exact rfl) (by exact dX3_costBy_52) (by exact rfl) (pc' := 54) (S' := [zI 7]) (by exact rfl) (zcn (by exact rfl))) ?_
    exact zq_ret (by exact dX3_costBy_54) (by exact rfl) (rv := some (zI 7)) (by exact rfl)
  · refine Eq.trans (zY_at (L2 := [some (zI x0), some (zI x1)]) (zcn (by exact rfl))) ?_
    refine Eq.trans (zY_step (by exact rfl) (by exact dX3_costBy_55) (by exact rfl) (pc' := 56) (S' := [zI 1]) (by exact rfl) (zcn (by exact rfl))) ?_
    refine Eq.trans (zY_step (by exact rfl) (by exact dX3_costBy_56) (by exact rfl) (pc' := 57) (S' := [zI x1, zI 1]) (by exact rfl) (zcn (by exact rfl))) ?_
    refine Eq.trans (zY_step (by exact rfl) (by exact dX3_costBy_57) (by exact rfl) (pc' := 58) (S' := [zI (1 + x1)]) (by exact rfl) (zcn (by exact rfl))) ?_
    exact zq_ret (by exact dX3_costBy_58) (by exact rfl) (rv := some (zI (1 + x1))) (by exact rfl)
  · refine Eq.trans (zY_at (L2 := [some (zI x0), some (zI x1)]) (zcn (by exact rfl))) ?_
    refine Eq.trans (zY_step (by exact rfl) (by exact dX3_costBy_59) (by exact rfl) (pc' := 61) (S' := [zI 10]) (by exact rfl) (zcn (by exact rfl))) ?_
    exact zq_ret (by exact dX3_costBy_61) (by exact rfl) (rv := some (zI 10)) (by exact rfl)
  · refine Eq.trans (zY_at (L2 := [some (zI x0), some (zI x1)]) (zcn (by exact rfl))) ?_
    refine Eq.trans (zY_step (by exact rfl) (by exact dX3_costBy_62) (by exact rfl) (pc' := 63) (S' := [zI 3]) (by exact rfl) (zcn (by exact rfl))) ?_
    exact zq_ret (by exact dX3_costBy_63) (by exact rfl) (rv := some (zI 3)) (by exact rfl)
theorem e_X3_cost (d : Nat) (x1 : Int) (σ : zS) : zc (d + 1) mX3_cost [zR (some 36), zI x1] σ = (zc d mX3_wrongKept [zR (some 36), zI x1] σ).bind fun r => zq (d + 1) mX3_cost 5 [some (zR (some 36)), some (zI x1), none] (r.1.toList ++ []) r.2 := by
  refine Eq.trans (zc_zq (L := [some (zR (some 36)), some (zI x1), none]) (by exact rfl)) ?_
  refine Eq.trans (zY_step (by exact rfl) (by exact dX3_cost_0) (by exact rfl) (pc' := 1) (S' := [zR (some 36)]) (by exact rfl) (zcn (by exact rfl))) ?_
  refine Eq.trans (zY_step (by exact rfl) (by exact dX3_cost_1) (by exact rfl) (pc' := 2) (S' := [zI x1, zR (some 36)]) (by exact rfl) (zcn (by exact rfl))) ?_
  exact zY_V (by exact rfl) (by exact dX3_cost_2) (by exact rfl) (as := [zI x1]) (S' := []) (by exact rfl) (by exact rfl) (by exact rfl) (by exact Nat.le_of_ble_eq_true rfl) (by exact Nat.le_of_ble_eq_true rfl) (by exact Nat.le_of_ble_eq_true rfl) (zcn (by exact rfl))
theorem b_X3_cost_5 (d : Nat) (y0 x1 : Int) (σ : zS) : zq (d + 1) mX3_cost 5 [some (zR (some 36)), some (zI x1), none] [zI y0] σ = (if nrm y0 = 0 then (if zix x1 8 then (if zix x1 8 then (zc d mX3_costBy [zI (σ 46 (nrm x1).toNat), zI (σ 47 (nrm x1).toNat)] σ).bind fun r => zq (d + 1) mX3_cost 29 [none, none, none] (r.1.toList ++ []) r.2 else none) else none) else some (some (zI y0), σ)) := by
  refine Eq.trans (zY_step (by exact rfl) (by exact dX3_cost_5) (by exact rfl) (pc' := 6) (L' := [some (zR (some 36)), some (zI x1), some (zI y0)]) (S' := []) (by exact rfl) (zcn (by exact rfl))) ?_
  refine Eq.trans (zY_step (by exact rfl) (by exact dX3_cost_6) (by exact rfl) (pc' := 7) (S' := [zI y0]) (by exact rfl) (zcn (by exact rfl))) ?_
  refine Eq.trans (zY_if_eq (by exact rfl) (by exact dX3_cost_7) (t := 14) (by exact rfl) (a2 := nrm y0) (by exact rfl) (zcn (by exact rfl)) (zcn (by exact rfl))) (zif ?_ ?_)
  · refine Eq.trans (zY_step (by exact rfl) (by exact dX3_cost_14) (by exact rfl) (pc' := 15) (S' := [zR (some 36)]) (by exact rfl) (zcn (by exact rfl))) ?_
    refine Eq.trans (zY_getR (by exact rfl) (by exact dX3_cost_15) (by exact rfl) (by exact rfl) (t := 46) (by exact rfl) (zcn (by exact rfl))) ?_
    refine Eq.trans (zY_step (by exact rfl) (by exact dX3_cost_18) (by exact rfl) (pc' := 19) (S' := [zI x1, zR (some 46)]) (by exact rfl) (zcn (by exact rfl))) ?_
    refine Eq.trans (zY_iald (by exact rfl) (by exact dX3_cost_19) (by exact rfl) (by exact rfl) (zcn (by exact rfl))) (zif ?_ rfl)
    · refine Eq.trans (zY_step (by exact rfl) (by exact dX3_cost_20) (by exact rfl) (pc' := 21) (S' := [zR (some 36), zI (σ 46 (nrm x1).toNat)]) (by exact rfl) (zcn (by exact rfl))) ?_
      refine Eq.trans (zY_getR (by exact rfl) (by exact dX3_cost_21) (by exact rfl) (by exact rfl) (t := 47) (by exact rfl) (zcn (by exact rfl))) ?_
      refine Eq.trans (zY_step (by exact rfl) (by exact dX3_cost_24) (by exact rfl) (pc' := 25) (S' := [zI x1, zR (some 47), zI (σ 46 (nrm x1).toNat)]) (by exact rfl) (zcn (by exact rfl))) ?_
      refine Eq.trans (zY_iald (by exact rfl) (by exact dX3_cost_25) (by exact rfl) (by exact rfl) (zcn (by exact rfl))) (zif ?_ rfl)
      · exact zY_S (by exact rfl) (by exact dX3_cost_26) (by exact rfl) (by exact Or.inl rfl) (as := [zI (σ 46 (nrm x1).toNat), zI (σ 47 (nrm x1).toNat)]) (S' := []) (by exact rfl) (by exact rfl) (by exact Nat.le_of_ble_eq_true rfl) (by exact Nat.le_of_ble_eq_true rfl) (L2 := [none, none, none]) (by exact rfl)
  · refine Eq.trans (zY_step (by exact rfl) (by exact dX3_cost_10) (by exact rfl) (pc' := 11) (S' := [zI y0]) (by exact rfl) (zcn (by exact rfl))) ?_
    refine Eq.trans (zY_step (by exact rfl) (by exact dX3_cost_11) (by exact rfl) (pc' := 29) (S' := [zI y0]) (L2 := [none, none, none]) (by exact rfl) (by exact rfl)) ?_
    exact zq_ret (by exact dX3_cost_29) (by exact rfl) (rv := some (zI y0)) (by exact rfl)
theorem b_X3_cost_29 (d : Nat) (y0 : Int) (σ : zS) : zq d mX3_cost 29 [none, none, none] [zI y0] σ = some (some (zI y0), σ) := by
  exact zq_ret (by exact dX3_cost_29) (by exact rfl) (rv := some (zI y0)) (by exact rfl)
theorem e_X3_toss (d : Nat) (x1 : Int) (σ : zS) : zc (d + 1) mX3_toss [zR (some 36), zI x1] σ = (zc d mX3_wrongKept [zR (some 36), zI x1] σ).bind fun r => zq (d + 1) mX3_toss 5 [some (zR (some 36)), some (zI x1), none, none, none] (r.1.toList ++ []) r.2 := by
  refine Eq.trans (zc_zq (L := [some (zR (some 36)), some (zI x1), none, none, none]) (by exact rfl)) ?_
  refine Eq.trans (zY_step (by exact rfl) (by exact dX3_toss_0) (by exact rfl) (pc' := 1) (S' := [zR (some 36)]) (by exact rfl) (zcn (by exact rfl))) ?_
  refine Eq.trans (zY_step (by exact rfl) (by exact dX3_toss_1) (by exact rfl) (pc' := 2) (S' := [zI x1, zR (some 36)]) (by exact rfl) (zcn (by exact rfl))) ?_
  exact zY_V (by exact rfl) (by exact dX3_toss_2) (by exact rfl) (as := [zI x1]) (S' := []) (by exact rfl) (by exact rfl) (by exact rfl) (by exact Nat.le_of_ble_eq_true rfl) (by exact Nat.le_of_ble_eq_true rfl) (by exact Nat.le_of_ble_eq_true rfl) (zcn (by exact rfl))
theorem b_X3_toss_5 (d : Nat) (y0 x1 : Int) (σ : zS) : zq (d + 1) mX3_toss 5 [some (zR (some 36)), some (zI x1), none, none, none] [zI y0] σ = (if nrm y0 = 0 then (if zix x1 8 then (if zix x1 8 then (if nrm (σ 46 (nrm x1).toNat) = 3 then some (some (zI ((-15))), σ) else (if nrm (σ 46 (nrm x1).toNat) = 6 then some (some (zI ((-15))), σ) else (if ¬ nrm (σ 47 (nrm x1).toNat) = 0 then (if ¬ nrm (σ 46 (nrm x1).toNat) = 7 then (if ¬ nrm (σ 46 (nrm x1).toNat) = 2 then some (some (zI (σ 47 (nrm x1).toNat)), σ) else some (some (zI (100 + (σ 47 (nrm x1).toNat))), σ)) else (zc d mX3_costBy [zI (σ 46 (nrm x1).toNat), zI (σ 47 (nrm x1).toNat)] σ).bind fun r => zq (d + 1) mX3_toss 61 [some (zR (some 36)), some (zI x1), some (zI y0), some (zI (σ 46 (nrm x1).toNat)), some (zI (σ 47 (nrm x1).toNat))] (r.1.toList ++ [zI 200]) r.2) else some (some (zI ((-15))), σ)))) else none) else none) else some (some (zI y0), σ)) := by
  refine Eq.trans (zY_step (by exact rfl) (by exact dX3_toss_5) (by exact rfl) (pc' := 6) (L' := [some (zR (some 36)), some (zI x1), some (zI y0), none, none]) (S' := []) (by exact rfl) (zcn (by exact rfl))) ?_
  refine Eq.trans (zY_step (by exact rfl) (by exact dX3_toss_6) (by exact rfl) (pc' := 7) (S' := [zI y0]) (by exact rfl) (zcn (by exact rfl))) ?_
  refine Eq.trans (zY_if_eq (by exact rfl) (by exact dX3_toss_7) (t := 12) (by exact rfl) (a2 := nrm y0) (by exact rfl) (zcn (by exact rfl)) (zcn (by exact rfl))) (zif ?_ ?_)
  · refine Eq.trans (zY_step (by exact rfl) (by exact dX3_toss_12) (by exact rfl) (pc' := 13) (S' := [zR (some 36)]) (by exact rfl) (zcn (by exact rfl))) ?_
    refine Eq.trans (zY_getR (by exact rfl) (by exact dX3_toss_13) (by exact rfl) (by exact rfl) (t := 46) (by exact rfl) (zcn (by exact rfl))) ?_
    refine Eq.trans (zY_step (by exact rfl) (by exact dX3_toss_16) (by exact rfl) (pc' := 17) (S' := [zI x1, zR (some 46)]) (by exact rfl) (zcn (by exact rfl))) ?_
    refine Eq.trans (zY_iald (by exact rfl) (by exact dX3_toss_17) (by exact rfl) (by exact rfl) (zcn (by exact rfl))) (zif ?_ rfl)
    · refine Eq.trans (zY_step (by exact rfl) (by exact dX3_toss_18) (by exact rfl) (pc' := 19) (L' := [some (zR (some 36)), some (zI x1), some (zI y0), some (zI (σ 46 (nrm x1).toNat)), none]) (S' := []) (by exact rfl) (zcn (by exact rfl))) ?_
      refine Eq.trans (zY_step (by exact rfl) (by exact dX3_toss_19) (by exact rfl) (pc' := 20) (S' := [zR (some 36)]) (by exact rfl) (zcn (by exact rfl))) ?_
      refine Eq.trans (zY_getR (by exact rfl) (by exact dX3_toss_20) (by exact rfl) (by exact rfl) (t := 47) (by exact rfl) (zcn (by exact rfl))) ?_
      refine Eq.trans (zY_step (by exact rfl) (by exact dX3_toss_23) (by exact rfl) (pc' := 24) (S' := [zI x1, zR (some 47)]) (by exact rfl) (zcn (by exact rfl))) ?_
      refine Eq.trans (zY_iald (by exact rfl) (by exact dX3_toss_24) (by exact rfl) (by exact rfl) (zcn (by exact rfl))) (zif ?_ rfl)
      · refine Eq.trans (zY_step (by exact rfl) (by exact dX3_toss_25) (by exact rfl) (pc' := 27) (L' := [some (zR (some 36)), some (zI x1), some (zI y0), some (zI (σ 46 (nrm x1).toNat)), some (zI (σ 47 (nrm x1).toNat))]) (S' := []) (by exact rfl) (zcn (by exact rfl))) ?_
        refine Eq.trans (zY_step (by exact rfl) (by exact dX3_toss_27) (by exact rfl) (pc' := 28) (S' := [zI (σ 46 (nrm x1).toNat)]) (by exact rfl) (zcn (by exact rfl))) ?_
        refine Eq.trans (zY_step (by exact rfl) (by exact dX3_toss_28) (by exact rfl) (pc' := 29) (S' := [zI 3, zI (σ 46 (nrm x1).toNat)]) (by exact rfl) (zcn (by exact rfl))) ?_
        refine Eq.trans (zY_ic_eq (by exact rfl) (by exact dX3_toss_29) (t := 43) (by exact rfl) (a2 := nrm (σ 46 (nrm x1).toNat)) (b2 := 3) (by exact rfl) (by decide) (L1 := [none, none, none, none, none]) (by exact rfl) (zcn (by exact rfl))) (zif ?_ ?_)
        · refine Eq.trans (zY_step (by exact rfl) (by exact dX3_toss_43) (by exact rfl) (pc' := 45) (S' := [zI ((-15))]) (by exact rfl) (zcn (by exact rfl))) ?_
          exact zq_ret (by exact dX3_toss_45) (by exact rfl) (rv := some (zI ((-15)))) (by exact rfl)
        · refine Eq.trans (zY_step (by exact rfl) (by exact dX3_toss_32) (by exact rfl) (pc' := 33) (S' := [zI (σ 46 (nrm x1).toNat)]) (by exact rfl) (zcn (by exact rfl))) ?_
          refine Eq.trans (zY_step (by exact rfl) (by exact dX3_toss_33) (by exact rfl) (pc' := 35) (S' := [zI 6, zI (σ 46 (nrm x1).toNat)]) (by exact rfl) (zcn (by exact rfl))) ?_
          refine Eq.trans (zY_ic_eq (by exact rfl) (by exact dX3_toss_35) (t := 43) (by exact rfl) (a2 := nrm (σ 46 (nrm x1).toNat)) (b2 := 6) (by exact rfl) (by decide) (L1 := [none, none, none, none, none]) (by exact rfl) (zcn (by exact rfl))) (zif ?_ ?_)
          · refine Eq.trans (zY_step (by exact rfl) (by exact dX3_toss_43) (by exact rfl) (pc' := 45) (S' := [zI ((-15))]) (by exact rfl) (zcn (by exact rfl))) ?_
            exact zq_ret (by exact dX3_toss_45) (by exact rfl) (rv := some (zI ((-15)))) (by exact rfl)
          · refine Eq.trans (zY_step (by exact rfl) (by exact dX3_toss_38) (by exact rfl) (pc' := 40) (S' := [zI (σ 47 (nrm x1).toNat)]) (by exact rfl) (zcn (by exact rfl))) ?_
            refine Eq.trans (zY_if_ne (by exact rfl) (by exact dX3_toss_40) (t := 46) (by exact rfl) (a2 := nrm (σ 47 (nrm x1).toNat)) (by exact rfl) (L2 := [none, none, none, none, none]) (zcn (by exact rfl)) (by exact rfl)) (zif ?_ ?_)
            · refine Eq.trans (zY_step (by exact rfl) (by exact dX3_toss_46) (by exact rfl) (pc' := 47) (S' := [zI (σ 46 (nrm x1).toNat)]) (by exact rfl) (zcn (by exact rfl))) ?_
              refine Eq.trans (zY_step (by exact rfl) (by exact dX3_toss_47) (by exact rfl) (pc' := 49) (S' := [zI 7, zI (σ 46 (nrm x1).toNat)]) (by exact rfl) (zcn (by exact rfl))) ?_
              refine Eq.trans (zY_ic_ne (by exact rfl) (by exact dX3_toss_49) (t := 65) (by exact rfl) (a2 := nrm (σ 46 (nrm x1).toNat)) (b2 := 7) (by exact rfl) (by decide) (zcn (by exact rfl)) (zcn (by exact rfl))) (zif ?_ ?_)
              · refine Eq.trans (zY_step (by exact rfl) (by exact dX3_toss_65) (by exact rfl) (pc' := 66) (S' := [zI (σ 46 (nrm x1).toNat)]) (by exact rfl) (zcn (by exact rfl))) ?_
                refine Eq.trans (zY_step (by exact rfl) (by exact dX3_toss_66) (by exact rfl) (pc' := 67) (S' := [zI 2, zI (σ 46 (nrm x1).toNat)]) (by exact rfl) (zcn (by exact rfl))) ?_
                refine Eq.trans (zY_ic_ne (by exact rfl) (by exact dX3_toss_67) (t := 78) (by exact rfl) (a2 := nrm (σ 46 (nrm x1).toNat)) (b2 := 2) (by exact rfl) (by decide) (zcn (by exact rfl)) (zcn (by exact rfl))) (zif ?_ ?_)
                · refine Eq.trans (zY_step (by exact rfl) (by exact dX3_toss_78) (by exact rfl) (pc' := 80) (S' := [zI (σ 47 (nrm x1).toNat)]) (L2 := [none, none, none, none, none]) (by exact rfl) (by exact rfl)) ?_
                  exact zq_ret (by exact dX3_toss_80) (by exact rfl) (rv := some (zI (σ 47 (nrm x1).toNat))) (by exact rfl)
                · refine Eq.trans (zY_step (by exact rfl) (by exact dX3_toss_70) (by exact rfl) (pc' := 72) (S' := [zI 100]) (by exact rfl) (zcn (by exact rfl))) ?_
                  refine Eq.trans (zY_step (by exact rfl) (by exact dX3_toss_72) (by exact rfl) (pc' := 74) (S' := [zI (σ 47 (nrm x1).toNat), zI 100]) (by exact rfl) (zcn (by exact rfl))) ?_
                  refine Eq.trans (zY_step (by exact rfl) (by exact dX3_toss_74) (by exact rfl) (pc' := 75) (S' := [zI (100 + (σ 47 (nrm x1).toNat))]) (by exact rfl) (zcn (by exact rfl))) ?_
                  refine Eq.trans (zY_step (by exact rfl) (by exact dX3_toss_75) (by exact rfl) (pc' := 80) (S' := [zI (100 + (σ 47 (nrm x1).toNat))]) (L2 := [none, none, none, none, none]) (by exact rfl) (by exact rfl)) ?_
                  exact zq_ret (by exact dX3_toss_80) (by exact rfl) (rv := some (zI (100 + (σ 47 (nrm x1).toNat)))) (by exact rfl)
              · refine Eq.trans (zY_step (by exact rfl) (by exact dX3_toss_52) (by exact rfl) (pc' := 55) (S' := [zI 200]) (by exact rfl) (zcn (by exact rfl))) ?_
                refine Eq.trans (zY_step (by exact rfl) (by exact dX3_toss_55) (by exact rfl) (pc' := 56) (S' := [zI (σ 46 (nrm x1).toNat), zI 200]) (by exact rfl) (zcn (by exact rfl))) ?_
                refine Eq.trans (zY_step (by exact rfl) (by exact dX3_toss_56) (by exact rfl) (pc' := 58) (S' := [zI (σ 47 (nrm x1).toNat), zI (σ 46 (nrm x1).toNat), zI 200]) (by exact rfl) (zcn (by exact rfl))) ?_
                exact zY_S (by exact rfl) (by exact dX3_toss_58) (by exact rfl) (by exact Or.inl rfl) (as := [zI (σ 46 (nrm x1).toNat), zI (σ 47 (nrm x1).toNat)]) (S' := [zI 200]) (by exact rfl) (by exact rfl) (by exact Nat.le_of_ble_eq_true rfl) (by exact Nat.le_of_ble_eq_true rfl) (zcn (by exact rfl))
            · refine Eq.trans (zY_step (by exact rfl) (by exact dX3_toss_43) (by exact rfl) (pc' := 45) (S' := [zI ((-15))]) (by exact rfl) (zcn (by exact rfl))) ?_
              exact zq_ret (by exact dX3_toss_45) (by exact rfl) (rv := some (zI ((-15)))) (by exact rfl)
  · refine Eq.trans (zY_step (by exact rfl) (by exact dX3_toss_10) (by exact rfl) (pc' := 11) (S' := [zI y0]) (by exact rfl) (zcn (by exact rfl))) ?_
    exact zq_ret (by exact dX3_toss_11) (by exact rfl) (rv := some (zI y0)) (by exact rfl)
theorem b_X3_toss_61 (d : Nat) (y0 y1 x1 x2 x3 x4 : Int) (σ : zS) : zq d mX3_toss 61 [some (zR (some 36)), some (zI x1), some (zI x2), some (zI x3), some (zI x4)] [zI y0, zI y1] σ = some (some (zI (y1 + y0)), σ) := by
  refine Eq.trans (zY_step (by exact rfl) (by exact dX3_toss_61) (by exact rfl) (pc' := 62) (S' := [zI (y1 + y0)]) (by exact rfl) (zcn (by exact rfl))) ?_
  refine Eq.trans (zY_step (by exact rfl) (by exact dX3_toss_62) (by exact rfl) (pc' := 80) (S' := [zI (y1 + y0)]) (L2 := [none, none, none, none, none]) (by exact rfl) (by exact rfl)) ?_
  exact zq_ret (by exact dX3_toss_80) (by exact rfl) (rv := some (zI (y1 + y0))) (by exact rfl)
