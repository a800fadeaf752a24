theorem e_X3_hour (d : Nat) (x1 : Int) (σ : zS) : zc (d + 1) mX3_hour [zR (some 36), zI x1] σ = (zc d mX3_isIn [zI x1, zI 0, zI 23] σ).bind fun r => zq (d + 1) mX3_hour 7 [some (zR (some 36)), some (zI x1), none] (r.1.toList ++ []) r.2 := by
  refine Eq.trans (zc_zq (L := [some (zR (some 36)), some (zI x1), none]) (by exact rfl)) ?_
  refine Eq.trans (zY_step (by exact rfl) (by exact dX3_hour_0) (by exact rfl) (pc' := 1) (S' := [zI x1]) (by exact rfl) (zcn (by exact rfl))) ?_
  refine Eq.trans (zY_step (by exact rfl) (by exact dX3_hour_1) (by exact rfl) (pc' := 2) (S' := [zI 0, zI x1]) (by exact rfl) (zcn (by exact rfl))) ?_
  refine Eq.trans (zY_step (by exact rfl) (by exact dX3_hour_2) (by exact rfl) (pc' := 4) (S' := [zI 23, zI 0, zI x1]) (by exact rfl) (zcn (by exact rfl))) ?_
  exact zY_S (by exact rfl) (by exact dX3_hour_4) (by exact rfl) (by exact Or.inl rfl) (as := [zI x1, zI 0, zI 23]) (S' := []) (by exact rfl) (by exact rfl) (by exact Nat.le_of_ble_eq_true rfl) (by exact Nat.le_of_ble_eq_true rfl) (zcn (by exact rfl))
theorem b_X3_hour_7 (d : Nat) (y0 x1 : Int) (σ : zS) : zq d mX3_hour 7 [some (zR (some 36)), some (zI x1), none] [zI y0] σ = (if ¬ nrm y0 = 0 then some (some (zI (σ 37 1)), zup σ 37 1 x1) else some (some (zI ((-1))), σ)) := by
  refine Eq.trans (zY_if_ne (by exact rfl) (by exact dX3_hour_7) (t := 12) (by exact rfl) (a2 := nrm y0) (by exact rfl) (zcn (by exact rfl)) (zcn (by exact rfl))) (zif ?_ ?_)
  · refine Eq.trans (zY_step (by exact rfl) (by exact dX3_hour_12) (by exact rfl) (pc' := 13) (S' := [zR (some 36)]) (by exact rfl) (zcn (by exact rfl))) ?_
    refine Eq.trans (zY_getR (by exact rfl) (by exact dX3_hour_13) (by exact rfl) (by exact rfl) (t := 37) (by exact rfl) (zcn (by exact rfl))) ?_
    refine Eq.trans (zY_step (by exact rfl) (by exact dX3_hour_16) (by exact rfl) (pc' := 17) (S' := [zI 1, zR (some 37)]) (by exact rfl) (zcn (by exact rfl))) ?_
    refine Eq.trans (zY_ialdc (by exact rfl) (by exact dX3_hour_17) (by exact rfl) (by exact rfl) (j := 1) (by decide) (by decide) (zcn (by exact rfl))) ?_
    refine Eq.trans (zY_step (by exact rfl) (by exact dX3_hour_18) (by exact rfl) (pc' := 19) (L' := [some (zR (some 36)), some (zI x1), some (zI (σ 37 1))]) (S' := []) (by exact rfl) (zcn (by exact rfl))) ?_
    refine Eq.trans (zY_step (by exact rfl) (by exact dX3_hour_19) (by exact rfl) (pc' := 20) (S' := [zR (some 36)]) (by exact rfl) (zcn (by exact rfl))) ?_
    refine Eq.trans (zY_getR (by exact rfl) (by exact dX3_hour_20) (by exact rfl) (by exact rfl) (t := 37) (by exact rfl) (zcn (by exact rfl))) ?_
    refine Eq.trans (zY_step (by exact rfl) (by exact dX3_hour_23) (by exact rfl) (pc' := 24) (S' := [zI 1, zR (some 37)]) (by exact rfl) (zcn (by exact rfl))) ?_
    refine Eq.trans (zY_step (by exact rfl) (by exact dX3_hour_24) (by exact rfl) (pc' := 25) (S' := [zI x1, zI 1, zR (some 37)]) (by exact rfl) (zcn (by exact rfl))) ?_
    refine Eq.trans (zY_iastc (by exact rfl) (by exact dX3_hour_25) (by exact rfl) (by exact rfl) (j := 1) (by decide) (by decide) (zcn (by exact rfl))) ?_
    refine Eq.trans (zY_step (by exact rfl) (by exact dX3_hour_26) (by exact rfl) (pc' := 27) (S' := [zI (σ 37 1)]) (by exact rfl) (zcn (by exact rfl))) ?_
    exact zq_ret (by exact dX3_hour_27) (by exact rfl) (rv := some (zI (σ 37 1))) (by exact rfl)
  · refine Eq.trans (zY_step (by exact rfl) (by exact dX3_hour_10) (by exact rfl) (pc' := 11) (S' := [zI ((-1))]) (by exact rfl) (zcn (by exact rfl))) ?_
    exact zq_ret (by exact dX3_hour_11) (by exact rfl) (rv := some (zI ((-1)))) (by exact rfl)
theorem e_X3_change (d : Nat) (x1 x2 : Int) (σ : zS) : zc (d + 1) mX3_change [zR (some 36), zI x1, zI x2] σ = (zc d mX3_isRow [zR (some 36), zI x1] σ).bind fun r => zq (d + 1) mX3_change 5 [some (zR (some 36)), some (zI x1), some (zI x2)] (r.1.toList ++ []) r.2 := by
  refine Eq.trans (zc_zq (L := [some (zR (some 36)), some (zI x1), some (zI x2)]) (by exact rfl)) ?_
  refine Eq.trans (zY_step (by exact rfl) (by exact dX3_change_0) (by exact rfl) (pc' := 1) (S' := [zR (some 36)]) (by exact rfl) (zcn (by exact rfl))) ?_
  refine Eq.trans (zY_step (by exact rfl) (by exact dX3_change_1) (by exact rfl) (pc' := 2) (S' := [zI x1, zR (some 36)]) (by exact rfl) (zcn (by exact rfl))) ?_
  exact zY_V (by exact rfl) (by exact dX3_change_2) (by exact rfl) (as := [zI x1]) (S' := []) (by exact rfl) (by exact rfl) (by exact rfl) (by exact Nat.le_of_ble_eq_true rfl) (by exact Nat.le_of_ble_eq_true rfl) (by exact Nat.le_of_ble_eq_true rfl) (zcn (by exact rfl))
theorem b_X3_change_5 (d : Nat) (y0 x1 x2 : Int) (σ : zS) : zq (d + 1) mX3_change 5 [some (zR (some 36)), some (zI x1), some (zI x2)] [zI y0] σ = (if nrm y0 = 0 then some (some (zI ((-1))), σ) else (zc d mX3_isRow [zR (some 36), zI x2] σ).bind fun r => zq (d + 1) mX3_change 13 [some (zR (some 36)), some (zI x1), some (zI x2)] (r.1.toList ++ []) r.2) := by
  refine Eq.trans (zY_if_eq (by exact rfl) (by exact dX3_change_5) (t := 21) (by exact rfl) (a2 := nrm y0) (by exact rfl) (L1 := [none, none, none]) (by exact rfl) (zcn (by exact rfl))) (zif ?_ ?_)
  · refine Eq.trans (zY_step (by exact rfl) (by exact dX3_change_21) (by exact rfl) (pc' := 22) (S' := [zI ((-1))]) (by exact rfl) (zcn (by exact rfl))) ?_
    exact zq_ret (by exact dX3_change_22) (by exact rfl) (rv := some (zI ((-1)))) (by exact rfl)
  · refine Eq.trans (zY_step (by exact rfl) (by exact dX3_change_8) (by exact rfl) (pc' := 9) (S' := [zR (some 36)]) (by exact rfl) (zcn (by exact rfl))) ?_
    refine Eq.trans (zY_step (by exact rfl) (by exact dX3_change_9) (by exact rfl) (pc' := 10) (S' := [zI x2, zR (some 36)]) (by exact rfl) (zcn (by exact rfl))) ?_
    exact zY_V (by exact rfl) (by exact dX3_change_10) (by exact rfl) (as := [zI x2]) (S' := []) (by exact rfl) (by exact rfl) (by exact rfl) (by exact Nat.le_of_ble_eq_true rfl) (by exact Nat.le_of_ble_eq_true rfl) (by exact Nat.le_of_ble_eq_true rfl) (zcn (by exact rfl))
theorem b_X3_change_13 (d : Nat) (y0 x1 x2 : Int) (σ : zS) : zq (d + 1) mX3_change 13 [some (zR (some 36)), some (zI x1), some (zI x2)] [zI y0] σ = (if nrm y0 = 0 then some (some (zI ((-1))), σ) else (if ¬ nrm x1 = nrm x2 then (zc d mX3_changes [zR (some 37), zI x1, zI x2] σ).bind fun r => zq (d + 1) mX3_change 32 [some (zR (some 36)), some (zI x1), some (zI x2)] (r.1.toList ++ []) r.2 else some (some (zI ((-1))), σ))) := by
  refine Eq.trans (zY_if_eq (by exact rfl) (by exact dX3_change_13) (t := 21) (by exact rfl) (a2 := nrm y0) (by exact rfl) (L1 := [none, none, none]) (by exact rfl) (zcn (by exact rfl))) (zif ?_ ?_)
  · refine Eq.trans (zY_step (by exact rfl) (by exact dX3_change_21) (by exact rfl) (pc' := 22) (S' := [zI ((-1))]) (by exact rfl) (zcn (by exact rfl))) ?_
    exact zq_ret (by exact dX3_change_22) (by exact rfl) (rv := some (zI ((-1)))) (by exact rfl)
  · refine Eq.trans (zY_step (by exact rfl) (by exact dX3_change_16) (by exact rfl) (pc' := 17) (S' := [zI x1]) (by exact rfl) (zcn (by exact rfl))) ?_
    refine Eq.trans (zY_step (by exact rfl) (by exact dX3_change_17) (by exact rfl) (pc' := 18) (S' := [zI x2, zI x1]) (by exact rfl) (zcn (by exact rfl))) ?_
    refine Eq.trans (zY_ic_ne (by exact rfl) (by exact dX3_change_18) (t := 23) (by exact rfl) (a2 := nrm x1) (b2 := nrm x2) (by exact rfl) (by exact rfl) (L2 := [none, none, none]) (zcn (by exact rfl)) (by exact rfl)) (zif ?_ ?_)
    · refine Eq.trans (zY_step (by exact rfl) (by exact dX3_change_23) (by exact rfl) (pc' := 24) (S' := [zR (some 36)]) (by exact rfl) (zcn (by exact rfl))) ?_
      refine Eq.trans (zY_getR (by exact rfl) (by exact dX3_change_24) (by exact rfl) (by exact rfl) (t := 37) (by exact rfl) (zcn (by exact rfl))) ?_
      refine Eq.trans (zY_step (by exact rfl) (by exact dX3_change_27) (by exact rfl) (pc' := 28) (S' := [zI x1, zR (some 37)]) (by exact rfl) (zcn (by exact rfl))) ?_
      refine Eq.trans (zY_step (by exact rfl) (by exact dX3_change_28) (by exact rfl) (pc' := 29) (S' := [zI x2, zI x1, zR (some 37)]) (by exact rfl) (zcn (by exact rfl))) ?_
      exact zY_S (by exact rfl) (by exact dX3_change_29) (by exact rfl) (by exact Or.inl rfl) (as := [zR (some 37), zI x1, zI x2]) (S' := []) (by exact rfl) (by exact rfl) (by exact Nat.le_of_ble_eq_true rfl) (by exact Nat.le_of_ble_eq_true rfl) (zcn (by exact rfl))
    · refine Eq.trans (zY_step (by exact rfl) (by exact dX3_change_21) (by exact rfl) (pc' := 22) (S' := [zI ((-1))]) (by exact rfl) (zcn (by exact rfl))) ?_
      exact zq_ret (by exact dX3_change_22) (by exact rfl) (rv := some (zI ((-1)))) (by exact rfl)
theorem b_X3_change_32 (d : Nat) (x1 x2 : Int) (σ : zS) : zq d mX3_change 32 [some (zR (some 36)), some (zI x1), some (zI x2)] [] σ = some (some (zI 1), σ) := by
  refine Eq.trans (zY_step (by exact rfl) (by exact dX3_change_32) (by exact rfl) (pc' := 33) (S' := [zI 1]) (by exact rfl) (zcn (by exact rfl))) ?_
  exact zq_ret (by exact dX3_change_33) (by exact rfl) (rv := some (zI 1)) (by exact rfl)
theorem e_X3_rounds (d : Nat) (x1 : Int) (σ : zS) : zc (d + 1) mX3_rounds [zR (some 36), zI x1] σ = (zc d mX3_isIn [zI x1, zI 1, zI 60] σ).bind fun r => zq (d + 1) mX3_rounds 7 [some (zR (some 36)), some (zI x1)] (r.1.toList ++ []) r.2 := by
  refine Eq.trans (zc_zq (L := [some (zR (some 36)), some (zI x1)]) (by exact rfl)) ?_
  refine Eq.trans (zY_step (by exact rfl) (by exact dX3_rounds_0) (by exact rfl) (pc' := 1) (S' := [zI x1]) (by exact rfl) (zcn (by exact rfl))) ?_
  refine Eq.trans (zY_step (by exact rfl) (by exact dX3_rounds_1) (by exact rfl) (pc' := 2) (S' := [zI 1, zI x1]) (by exact rfl) (zcn (by exact rfl))) ?_
  refine Eq.trans (zY_step (by exact rfl) (by exact dX3_rounds_2) (by exact rfl) (pc' := 4) (S' := [zI 60, zI 1, zI x1]) (by exact rfl) (zcn (by exact rfl))) ?_
  exact zY_S (by exact rfl) (by exact dX3_rounds_4) (by exact rfl) (by exact Or.inl rfl) (as := [zI x1, zI 1, zI 60]) (S' := []) (by exact rfl) (by exact rfl) (by exact Nat.le_of_ble_eq_true rfl) (by exact Nat.le_of_ble_eq_true rfl) (zcn (by exact rfl))
theorem b_X3_rounds_7 (d : Nat) (y0 x1 : Int) (σ : zS) : zq (d + 1) mX3_rounds 7 [some (zR (some 36)), some (zI x1)] [zI y0] σ = (if ¬ nrm y0 = 0 then (if nrm ((σ 37 2) + x1) ≤ 999 then (zc d mX3_roundsOn [zR (some 36), zR (some 37), zI x1] σ).bind fun r => zq (d + 1) mX3_rounds 38 [some (zR (some 36)), some (zI x1)] (r.1.toList ++ []) r.2 else some (some (zI ((-3))), σ)) else some (some (zI ((-1))), σ)) := by
  refine Eq.trans (zY_if_ne (by exact rfl) (by exact dX3_rounds_7) (t := 12) (by exact rfl) (a2 := nrm y0) (by exact rfl) (zcn (by exact rfl)) (zcn (by exact rfl))) (zif ?_ ?_)
  · refine Eq.trans (zY_step (by exact rfl) (by exact dX3_rounds_12) (by exact rfl) (pc' := 13) (S' := [zR (some 36)]) (by exact rfl) (zcn (by exact rfl))) ?_
    refine Eq.trans (zY_getR (by exact rfl) (by exact dX3_rounds_13) (by exact rfl) (by exact rfl) (t := 37) (by exact rfl) (zcn (by exact rfl))) ?_
    refine Eq.trans (zY_step (by exact rfl) (by exact dX3_rounds_16) (by exact rfl) (pc' := 17) (S' := [zI 2, zR (some 37)]) (by exact rfl) (zcn (by exact rfl))) ?_
    refine Eq.trans (zY_ialdc (by exact rfl) (by exact dX3_rounds_17) (by exact rfl) (by exact rfl) (j := 2) (by decide) (by decide) (zcn (by exact rfl))) ?_
    refine Eq.trans (zY_step (by exact rfl) (by exact dX3_rounds_18) (by exact rfl) (pc' := 19) (S' := [zI x1, zI (σ 37 2)]) (by exact rfl) (zcn (by exact rfl))) ?_
    refine Eq.trans (zY_step (by exact rfl) (by exact dX3_rounds_19) (by exact rfl) (pc' := 20) (S' := [zI ((σ 37 2) + x1)]) (by exact rfl) (zcn (by exact rfl))) ?_
    refine Eq.trans (zY_step (by exact rfl) (by exact dX3_rounds_20) (by exact rfl) (pc' := 23) (S' := [zI 999, zI ((σ 37 2) + x1)]) (by exact rfl) (zcn (by exact rfl))) ?_
    refine Eq.trans (zY_ic_le (by exact rfl) (by exact dX3_rounds_23) (t := 29) (by exact rfl) (a2 := nrm ((σ 37 2) + x1)) (b2 := 999) (by exact rfl) (by decide) (zcn (by exact rfl)) (zcn (by exact rfl))) (zif ?_ ?_)
    · refine Eq.trans (zY_step (by exact rfl) (by exact dX3_rounds_29) (by exact rfl) (pc' := 30) (S' := [zR (some 36)]) (by exact rfl) (zcn (by exact rfl))) ?_
      refine Eq.trans (zY_step (by exact rfl) (by exact dX3_rounds_30) (by exact rfl) (pc' := 31) (S' := [zR (some 36), zR (some 36)]) (by exact rfl) (zcn (by exact rfl))) ?_
      refine Eq.trans (zY_getR (by exact rfl) (by exact dX3_rounds_31) (by exact rfl) (by exact rfl) (t := 37) (by exact rfl) (zcn (by exact rfl))) ?_
      refine Eq.trans (zY_step (by exact rfl) (by exact dX3_rounds_34) (by exact rfl) (pc' := 35) (S' := [zI x1, zR (some 37), zR (some 36)]) (by exact rfl) (zcn (by exact rfl))) ?_
      exact zY_V (by exact rfl) (by exact dX3_rounds_35) (by exact rfl) (as := [zR (some 37), zI x1]) (S' := []) (by exact rfl) (by exact rfl) (by exact rfl) (by exact Nat.le_of_ble_eq_true rfl) (by exact Nat.le_of_ble_eq_true rfl) (by exact Nat.le_of_ble_eq_true rfl) (zcn (by exact rfl))
    · refine Eq.trans (zY_step (by exact rfl) (by exact dX3_rounds_26) (by exact rfl) (pc' := 28) (S' := [zI ((-3))]) (by exact rfl) (zcn (by exact rfl))) ?_
      exact zq_ret (by exact dX3_rounds_28) (by exact rfl) (rv := some (zI ((-3)))) (by exact rfl)
  · refine Eq.trans (zY_step (by exact rfl) (by exact dX3_rounds_10) (by exact rfl) (pc' := 11) (S' := [zI ((-1))]) (by exact rfl) (zcn (by exact rfl))) ?_
    exact zq_ret (by exact dX3_rounds_11) (by exact rfl) (rv := some (zI ((-1)))) (by exact rfl)
theorem b_X3_rounds_38 (d : Nat) (x1 : Int) (σ : zS) : zq (d + 1) mX3_rounds 38 [some (zR (some 36)), some (zI x1)] [] σ = (zc d mX3_tipsAll [zR (some 37)] σ).bind fun r => zq (d + 1) mX3_rounds 45 [some (zR (some 36)), some (zI x1)] (r.1.toList ++ []) r.2 := by
  refine Eq.trans (zY_step (by exact rfl) (by exact dX3_rounds_38) (by exact rfl) (pc' := 39) (S' := [zR (some 36)]) (by exact rfl) (zcn (by exact rfl))) ?_
  refine Eq.trans (zY_getR (by exact rfl) (by exact dX3_rounds_39) (by exact rfl) (by exact rfl) (t := 37) (by exact rfl) (zcn (by exact rfl))) ?_
  exact zY_S (by exact rfl) (by exact dX3_rounds_42) (by exact rfl) (by exact Or.inl rfl) (as := [zR (some 37)]) (S' := []) (by exact rfl) (by exact rfl) (by exact Nat.le_of_ble_eq_true rfl) (by exact Nat.le_of_ble_eq_true rfl) (zcn (by exact rfl))
theorem b_X3_rounds_45 (d : Nat) (y0 x1 : Int) (σ : zS) : zq d mX3_rounds 45 [some (zR (some 36)), some (zI x1)] [zI y0] σ = some (some (zI y0), σ) := by
  exact zq_ret (by exact dX3_rounds_45) (by exact rfl) (rv := some (zI y0)) (by exact rfl)
theorem e_X3_takes (d : Nat) (x1 : Int) (σ : zS) : zc (d + 1) mX3_takes [zR (some 36), zI x1] σ = (zc d mX3_copies [zR (some 37), zR (some 38)] σ).bind fun r => zq (d + 1) mX3_takes 11 [some (zR (some 36)), some (zI x1)] (r.1.toList ++ []) r.2 := by
  refine Eq.trans (zc_zq (L := [some (zR (some 36)), some (zI x1)]) (by exact rfl)) ?_
  refine Eq.trans (zY_step (by exact rfl) (by exact dX3_takes_0) (by exact rfl) (pc' := 1) (S' := [zR (some 36)]) (by exact rfl) (zcn (by exact rfl))) ?_
  refine Eq.trans (zY_getR (by exact rfl) (by exact dX3_takes_1) (by exact rfl) (by exact rfl) (t := 37) (by exact rfl) (zcn (by exact rfl))) ?_
  refine Eq.trans (zY_step (by exact rfl) (by exact dX3_takes_4) (by exact rfl) (pc' := 5) (S' := [zR (some 36), zR (some 37)]) (by exact rfl) (zcn (by exact rfl))) ?_
  refine Eq.trans (zY_getR (by exact rfl) (by exact dX3_takes_5) (by exact rfl) (by exact rfl) (t := 38) (by exact rfl) (zcn (by exact rfl))) ?_
  exact zY_S (by exact rfl) (by exact dX3_takes_8) (by exact rfl) (by exact Or.inl rfl) (as := [zR (some 37), zR (some 38)]) (S' := []) (by exact rfl) (by exact rfl) (by exact Nat.le_of_ble_eq_true rfl) (by exact Nat.le_of_ble_eq_true rfl) (zcn (by exact rfl))
theorem b_X3_takes_11 (d : Nat) (x1 : Int) (σ : zS) : zq (d + 1) mX3_takes 11 [some (zR (some 36)), some (zI x1)] [] σ = (zc d mX3_roundsOn [zR (some 36), zR (some 38), zI x1] σ).bind fun r => zq (d + 1) mX3_takes 20 [some (zR (some 36)), some (zI x1)] (r.1.toList ++ []) r.2 := by
  refine Eq.trans (zY_step (by exact rfl) (by exact dX3_takes_11) (by exact rfl) (pc' := 12) (S' := [zR (some 36)]) (by exact rfl) (zcn (by exact rfl))) ?_
  refine Eq.trans (zY_step (by exact rfl) (by exact dX3_takes_12) (by exact rfl) (pc' := 13) (S' := [zR (some 36), zR (some 36)]) (by exact rfl) (zcn (by exact rfl))) ?_
  refine Eq.trans (zY_getR (by exact rfl) (by exact dX3_takes_13) (by exact rfl) (by exact rfl) (t := 38) (by exact rfl) (zcn (by exact rfl))) ?_
  refine Eq.trans (zY_step (by exact rfl) (by exact dX3_takes_16) (by exact rfl) (pc' := 17) (S' := [zI x1, zR (some 38), zR (some 36)]) (by exact rfl) (zcn (by exact rfl))) ?_
  exact zY_V (by exact rfl) (by exact dX3_takes_17) (by exact rfl) (as := [zR (some 38), zI x1]) (S' := []) (by exact rfl) (by exact rfl) (by exact rfl) (by exact Nat.le_of_ble_eq_true rfl) (by exact Nat.le_of_ble_eq_true rfl) (by exact Nat.le_of_ble_eq_true rfl) (zcn (by exact rfl))
theorem b_X3_takes_20 (d : Nat) (x1 : Int) (σ : zS) : zq d mX3_takes 20 [some (zR (some 36)), some (zI x1)] [] σ = some (none, σ) := by
  exact zq_ret (by exact dX3_takes_20) (by exact rfl) (rv := none) (by exact rfl)
theorem e_X3_behind (d : Nat) (x1 x2 x3 : Int) (σ : zS) : zc (d + 1) mX3_behind [zR (some 36), zI x1, zI x2, zI x3] σ = (zc d mX3_isRow [zR (some 36), zI x1] σ).bind fun r => zq (d + 1) mX3_behind 5 [some (zR (some 36)), some (zI x1), some (zI x2), some (zI x3)] (r.1.toList ++ []) r.2 := by
  refine Eq.trans (zc_zq (L := [some (zR (some 36)), some (zI x1), some (zI x2), some (zI x3)]) (by exact rfl)) ?_
  refine Eq.trans (zY_step (by exact rfl) (by exact dX3_behind_0) (by exact rfl) (pc' := 1) (S' := [zR (some 36)]) (by exact rfl) (zcn (by exact rfl))) ?_
  refine Eq.trans (zY_step (by exact rfl) (by exact dX3_behind_1) (by exact rfl) (pc' := 2) (S' := [zI x1, zR (some 36)]) (by exact rfl) (zcn (by exact rfl))) ?_
  exact zY_V (by exact rfl) (by exact dX3_behind_2) (by exact rfl) (as := [zI x1]) (S' := []) (by exact rfl) (by exact rfl) (by exact rfl) (by exact Nat.le_of_ble_eq_true rfl) (by exact Nat.le_of_ble_eq_true rfl) (by exact Nat.le_of_ble_eq_true rfl) (zcn (by exact rfl))
theorem b_X3_behind_5 (d : Nat) (y0 x1 x2 x3 : Int) (σ : zS) : zq (d + 1) mX3_behind 5 [some (zR (some 36)), some (zI x1), some (zI x2), some (zI x3)] [zI y0] σ = (if nrm y0 = 0 then some (some (zI ((-1))), σ) else (zc d mX3_isIn [zI x2, zI 0, zI 60] σ).bind fun r => zq (d + 1) mX3_behind 15 [some (zR (some 36)), some (zI x1), some (zI x2), some (zI x3)] (r.1.toList ++ []) r.2) := by
  refine Eq.trans (zY_if_eq (by exact rfl) (by exact dX3_behind_5) (t := 27) (by exact rfl) (a2 := nrm y0) (by exact rfl) (L1 := [none, none, none, none]) (by exact rfl) (zcn (by exact rfl))) (zif ?_ ?_)
  · refine Eq.trans (zY_step (by exact rfl) (by exact dX3_behind_27) (by exact rfl) (pc' := 28) (S' := [zI ((-1))]) (by exact rfl) (zcn (by exact rfl))) ?_
    exact zq_ret (by exact dX3_behind_28) (by exact rfl) (rv := some (zI ((-1)))) (by exact rfl)
  · refine Eq.trans (zY_step (by exact rfl) (by exact dX3_behind_8) (by exact rfl) (pc' := 9) (S' := [zI x2]) (by exact rfl) (zcn (by exact rfl))) ?_
    refine Eq.trans (zY_step (by exact rfl) (by exact dX3_behind_9) (by exact rfl) (pc' := 10) (S' := [zI 0, zI x2]) (by exact rfl) (zcn (by exact rfl))) ?_
    refine Eq.trans (zY_step (by exact rfl) (by exact dX3_behind_10) (by exact rfl) (pc' := 12) (S' := [zI 60, zI 0, zI x2]) (by exact rfl) (zcn (by exact rfl))) ?_
    exact zY_S (by exact rfl) (by exact dX3_behind_12) (by exact rfl) (by exact Or.inl rfl) (as := [zI x2, zI 0, zI 60]) (S' := []) (by exact rfl) (by exact rfl) (by exact Nat.le_of_ble_eq_true rfl) (by exact Nat.le_of_ble_eq_true rfl) (zcn (by exact rfl))
theorem b_X3_behind_15 (d : Nat) (y0 x1 x2 x3 : Int) (σ : zS) : zq (d + 1) mX3_behind 15 [some (zR (some 36)), some (zI x1), some (zI x2), some (zI x3)] [zI y0] σ = (if nrm y0 = 0 then some (some (zI ((-1))), σ) else (zc d mX3_isIn [zI x3, zI 0, zI 1] σ).bind fun r => zq (d + 1) mX3_behind 24 [some (zR (some 36)), some (zI x1), some (zI x2), some (zI x3)] (r.1.toList ++ []) r.2) := by
  refine Eq.trans (zY_if_eq (by exact rfl) (by exact dX3_behind_15) (t := 27) (by exact rfl) (a2 := nrm y0) (by exact rfl) (L1 := [none, none, none, none]) (by exact rfl) (zcn (by exact rfl))) (zif ?_ ?_)
  · refine Eq.trans (zY_step (by exact rfl) (by exact dX3_behind_27) (by exact rfl) (pc' := 28) (S' := [zI ((-1))]) (by exact rfl) (zcn (by exact rfl))) ?_
    exact zq_ret (by exact dX3_behind_28) (by exact rfl) (rv := some (zI ((-1)))) (by exact rfl)
  · refine Eq.trans (zY_step (by exact rfl) (by exact dX3_behind_18) (by exact rfl) (pc' := 19) (S' := [zI x3]) (by exact rfl) (zcn (by exact rfl))) ?_
    refine Eq.trans (zY_step (by exact rfl) (by exact dX3_behind_19) (by exact rfl) (pc' := 20) (S' := [zI 0, zI x3]) (by exact rfl) (zcn (by exact rfl))) ?_
    refine Eq.trans (zY_step (by exact rfl) (by exact dX3_behind_20) (by exact rfl) (pc' := 21) (S' := [zI 1, zI 0, zI x3]) (by exact rfl) (zcn (by exact rfl))) ?_
    exact zY_S (by exact rfl) (by exact dX3_behind_21) (by exact rfl) (by exact Or.inl rfl) (as := [zI x3, zI 0, zI 1]) (S' := []) (by exact rfl) (by exact rfl) (by exact Nat.le_of_ble_eq_true rfl) (by exact Nat.le_of_ble_eq_true rfl) (zcn (by exact rfl))
theorem b_X3_behind_24 (d : Nat) (y0 x1 x2 x3 : Int) (σ : zS) : zq (d + 1) mX3_behind 24 [some (zR (some 36)), some (zI x1), some (zI x2), some (zI x3)] [zI y0] σ = (if ¬ nrm y0 = 0 then (zc d mX3_takes [zR (some 36), zI x2] σ).bind fun r => zq (d + 1) mX3_behind 34 [some (zR (some 36)), some (zI x1), some (zI x2), some (zI x3)] (r.1.toList ++ []) r.2 else some (some (zI ((-1))), σ)) := by
  refine Eq.trans (zY_if_ne (by exact rfl) (by exact dX3_behind_24) (t := 29) (by exact rfl) (a2 := nrm y0) (by exact rfl) (L2 := [none, none, none, none]) (zcn (by exact rfl)) (by exact rfl)) (zif ?_ ?_)
  · refine Eq.trans (zY_step (by exact rfl) (by exact dX3_behind_29) (by exact rfl) (pc' := 30) (S' := [zR (some 36)]) (by exact rfl) (zcn (by exact rfl))) ?_
    refine Eq.trans (zY_step (by exact rfl) (by exact dX3_behind_30) (by exact rfl) (pc' := 31) (S' := [zI x2, zR (some 36)]) (by exact rfl) (zcn (by exact rfl))) ?_
    exact zY_V (by exact rfl) (by exact dX3_behind_31) (by exact rfl) (as := [zI x2]) (S' := []) (by exact rfl) (by exact rfl) (by exact rfl) (by exact Nat.le_of_ble_eq_true rfl) (by exact Nat.le_of_ble_eq_true rfl) (by exact Nat.le_of_ble_eq_true rfl) (zcn (by exact rfl))
  · refine Eq.trans (zY_step (by exact rfl) (by exact dX3_behind_27) (by exact rfl) (pc' := 28) (S' := [zI ((-1))]) (by exact rfl) (zcn (by exact rfl))) ?_
    exact zq_ret (by exact dX3_behind_28) (by exact rfl) (rv := some (zI ((-1)))) (by exact rfl)
theorem b_X3_behind_34 (d : Nat) (x1 x2 x3 : Int) (σ : zS) : zq (d + 1) mX3_behind 34 [some (zR (some 36)), some (zI x1), some (zI x2), some (zI x3)] [] σ = (if ¬ nrm x3 = 0 then (zc d mX3_room [zR (some 38), zI x1] σ).bind fun r => zq (d + 1) mX3_behind 59 [none, none, none, none] (r.1.toList ++ []) r.2 else (zc d mX3_of [zI x1, zI 2] σ).bind fun r => zq (d + 1) mX3_behind 47 [some (zR (some 36)), some (zI x1), some (zI x2), some (zI x3)] (r.1.toList ++ [zR (some 38)]) r.2) := by
  refine Eq.trans (zY_step (by exact rfl) (by exact dX3_behind_34) (by exact rfl) (pc' := 35) (S' := [zI x3]) (by exact rfl) (zcn (by exact rfl))) ?_
  refine Eq.trans (zY_if_ne (by exact rfl) (by exact dX3_behind_35) (t := 51) (by exact rfl) (a2 := nrm x3) (by exact rfl) (zcn (by exact rfl)) (zcn (by exact rfl))) (zif ?_ ?_)
  · refine Eq.trans (zY_step (by exact rfl) (by exact dX3_behind_51) (by exact rfl) (pc' := 52) (S' := [zR (some 36)]) (by exact rfl) (zcn (by exact rfl))) ?_
    refine Eq.trans (zY_getR (by exact rfl) (by exact dX3_behind_52) (by exact rfl) (by exact rfl) (t := 38) (by exact rfl) (zcn (by exact rfl))) ?_
    refine Eq.trans (zY_step (by exact rfl) (by exact dX3_behind_55) (by exact rfl) (pc' := 56) (S' := [zI x1, zR (some 38)]) (by exact rfl) (zcn (by exact rfl))) ?_
    exact zY_S (by exact rfl) (by exact dX3_behind_56) (by exact rfl) (by exact Or.inl rfl) (as := [zR (some 38), zI x1]) (S' := []) (by exact rfl) (by exact rfl) (by exact Nat.le_of_ble_eq_true rfl) (by exact Nat.le_of_ble_eq_true rfl) (L2 := [none, none, none, none]) (by exact rfl)
  · refine Eq.trans (zY_step (by exact rfl) (by exact dX3_behind_38) (by exact rfl) (pc' := 39) (S' := [zR (some 36)]) (by exact rfl) (zcn (by exact rfl))) ?_
    refine Eq.trans (zY_getR (by exact rfl) (by exact dX3_behind_39) (by exact rfl) (by exact rfl) (t := 38) (by exact rfl) (zcn (by exact rfl))) ?_
    refine Eq.trans (zY_step (by exact rfl) (by exact dX3_behind_42) (by exact rfl) (pc' := 43) (S' := [zI x1, zR (some 38)]) (by exact rfl) (zcn (by exact rfl))) ?_
    refine Eq.trans (zY_step (by exact rfl) (by exact dX3_behind_43) (by exact rfl) (pc' := 44) (S' := [zI 2, zI x1, zR (some 38)]) (by exact rfl) (zcn (by exact rfl))) ?_
    exact zY_S (by exact rfl) (by exact dX3_behind_44) (by exact rfl) (by exact Or.inl rfl) (as := [zI x1, zI 2]) (S' := [zR (some 38)]) (by exact rfl) (by exact rfl) (by exact Nat.le_of_ble_eq_true rfl) (by exact Nat.le_of_ble_eq_true rfl) (zcn (by exact rfl))
theorem b_X3_behind_59 (d : Nat) (y0 : Int) (σ : zS) : zq d mX3_behind 59 [none, none, none, none] [zI y0] σ = some (some (zI y0), σ) := by
  exact zq_ret (by exact dX3_behind_59) (by exact rfl) (rv := some (zI y0)) (by exact rfl)
theorem b_X3_behind_47 (d : Nat) (y0 x1 x2 x3 : Int) (σ : zS) : zq d mX3_behind 47 [some (zR (some 36)), some (zI x1), some (zI x2), some (zI x3)] [zI y0, zR (some 38)] σ = (if zix y0 35 then some (some (zI (σ 38 (nrm y0).toNat)), σ) else none) := by
  refine Eq.trans (zY_iald (by exact rfl) (by exact dX3_behind_47) (by exact rfl) (by exact rfl) (zcn (by exact rfl))) (zif ?_ rfl)
  · refine Eq.trans (zY_step (by exact rfl) (by exact dX3_behind_48) (by exact rfl) (pc' := 59) (S' := [zI (σ 38 (nrm y0).toNat)]) (L2 := [none, none, none, none]) (by exact rfl) (by exact rfl)) ?_
    exact zq_ret (by exact dX3_behind_59) (by exact rfl) (rv := some (zI (σ 38 (nrm y0).toNat))) (by exact rfl)
theorem e_X3_still (d : Nat) (σ : zS) : zc (d + 1) mX3_still [zR (some 36)] σ = (zc d mX3_copies [zR (some 37), zR (some 38)] σ).bind fun r => zq (d + 1) mX3_still 11 [some (zR (some 36)), none, none, none] (r.1.toList ++ []) r.2 := by
  refine Eq.trans (zc_zq (L := [some (zR (some 36)), none, none, none]) (by exact rfl)) ?_
  refine Eq.trans (zY_step (by exact rfl) (by exact dX3_still_0) (by exact rfl) (pc' := 1) (S' := [zR (some 36)]) (by exact rfl) (zcn (by exact rfl))) ?_
  refine Eq.trans (zY_getR (by exact rfl) (by exact dX3_still_1) (by exact rfl) (by exact rfl) (t := 37) (by exact rfl) (zcn (by exact rfl))) ?_
  refine Eq.trans (zY_step (by exact rfl) (by exact dX3_still_4) (by exact rfl) (pc' := 5) (S' := [zR (some 36), zR (some 37)]) (by exact rfl) (zcn (by exact rfl))) ?_
  refine Eq.trans (zY_getR (by exact rfl) (by exact dX3_still_5) (by exact rfl) (by exact rfl) (t := 38) (by exact rfl) (zcn (by exact rfl))) ?_
  exact zY_S (by exact rfl) (by exact dX3_still_8) (by exact rfl) (by exact Or.inl rfl) (as := [zR (some 37), zR (some 38)]) (S' := []) (by exact rfl) (by exact rfl) (by exact Nat.le_of_ble_eq_true rfl) (by exact Nat.le_of_ble_eq_true rfl) (zcn (by exact rfl))
theorem b_X3_still_11 (d : Nat) (σ : zS) : zq d mX3_still 11 [some (zR (some 36)), none, none, none] [] σ = zq d mX3_still 13 [some (zR (some 36)), some (zI 0), none, none] [] σ := by
  refine Eq.trans (zY_step (by exact rfl) (by exact dX3_still_11) (by exact rfl) (pc' := 12) (S' := [zI 0]) (by exact rfl) (zcn (by exact rfl))) ?_
  exact zY_step (by exact rfl) (by exact dX3_still_12) (by exact rfl) (pc' := 13) (L' := [some (zR (some 36)), some (zI 0), none, none]) (S' := []) (L2 := [some (zR (some 36)), some (zI 0), none, none]) (by exact rfl) (by exact rfl)
theorem b_X3_still_13 (d : Nat) (x1 : Int) (σ : zS) : zq (d + 1) mX3_still 13 [some (zR (some 36)), some (zI x1), none, none] [] σ = (if 60 < nrm x1 then some (some (zI ((-4))), σ) else (zc d mX3_copies [zR (some 38), zR (some 40)] σ).bind fun r => zq (d + 1) mX3_still 30 [some (zR (some 36)), some (zI x1), none, none] (r.1.toList ++ []) r.2) := by
  refine Eq.trans (zY_step (by exact rfl) (by exact dX3_still_13) (by exact rfl) (pc' := 14) (S' := [zI x1]) (by exact rfl) (zcn (by exact rfl))) ?_
  refine Eq.trans (zY_step (by exact rfl) (by exact dX3_still_14) (by exact rfl) (pc' := 16) (S' := [zI 60, zI x1]) (by exact rfl) (zcn (by exact rfl))) ?_
  refine Eq.trans (zY_ic_gt (by exact rfl) (by exact dX3_still_16) (t := 102) (by exact rfl) (a2 := nrm x1) (b2 := 60) (by exact rfl) (by decide) (zcn (by exact rfl)) (zcn (by exact rfl))) (zif ?_ ?_)
  · refine Eq.trans (zY_step (by exact rfl) (by exact dX3_still_102) (by exact rfl) (pc' := 104) (S' := [zI ((-4))]) (by exact rfl) (zcn (by exact rfl))) ?_
    exact zq_ret (by exact dX3_still_104) (by exact rfl) (rv := some (zI ((-4)))) (by exact rfl)
  · refine Eq.trans (zY_step (by exact rfl) (by exact dX3_still_19) (by exact rfl) (pc' := 20) (S' := [zR (some 36)]) (by exact rfl) (zcn (by exact rfl))) ?_
    refine Eq.trans (zY_getR (by exact rfl) (by exact dX3_still_20) (by exact rfl) (by exact rfl) (t := 38) (by exact rfl) (zcn (by exact rfl))) ?_
    refine Eq.trans (zY_step (by exact rfl) (by exact dX3_still_23) (by exact rfl) (pc' := 24) (S' := [zR (some 36), zR (some 38)]) (by exact rfl) (zcn (by exact rfl))) ?_
    refine Eq.trans (zY_getR (by exact rfl) (by exact dX3_still_24) (by exact rfl) (by exact rfl) (t := 40) (by exact rfl) (zcn (by exact rfl))) ?_
    exact zY_S (by exact rfl) (by exact dX3_still_27) (by exact rfl) (by exact Or.inl rfl) (as := [zR (some 38), zR (some 40)]) (S' := []) (by exact rfl) (by exact rfl) (by exact Nat.le_of_ble_eq_true rfl) (by exact Nat.le_of_ble_eq_true rfl) (zcn (by exact rfl))
theorem b_X3_still_30 (d : Nat) (x1 : Int) (σ : zS) : zq (d + 1) mX3_still 30 [some (zR (some 36)), some (zI x1), none, none] [] σ = (zc d mX3_round [zR (some 36), zR (some 38), zI 0] σ).bind fun r => zq (d + 1) mX3_still 39 [some (zR (some 36)), some (zI x1), none, none] (r.1.toList ++ []) r.2 := by
  refine Eq.trans (zY_step (by exact rfl) (by exact dX3_still_30) (by exact rfl) (pc' := 31) (S' := [zR (some 36)]) (by exact rfl) (zcn (by exact rfl))) ?_
  refine Eq.trans (zY_step (by exact rfl) (by exact dX3_still_31) (by exact rfl) (pc' := 32) (S' := [zR (some 36), zR (some 36)]) (by exact rfl) (zcn (by exact rfl))) ?_
  refine Eq.trans (zY_getR (by exact rfl) (by exact dX3_still_32) (by exact rfl) (by exact rfl) (t := 38) (by exact rfl) (zcn (by exact rfl))) ?_
  refine Eq.trans (zY_step (by exact rfl) (by exact dX3_still_35) (by exact rfl) (pc' := 36) (S' := [zI 0, zR (some 38), zR (some 36)]) (by exact rfl) (zcn (by exact rfl))) ?_
  exact zY_V (by exact rfl) (by exact dX3_still_36) (by exact rfl) (as := [zR (some 38), zI 0]) (S' := []) (by exact rfl) (by exact rfl) (by exact rfl) (by exact Nat.le_of_ble_eq_true rfl) (by exact Nat.le_of_ble_eq_true rfl) (by exact Nat.le_of_ble_eq_true rfl) (zcn (by exact rfl))
theorem b_X3_still_39 (d : Nat) (x1 : Int) (σ : zS) : zq d mX3_still 39 [some (zR (some 36)), some (zI x1), none, none] [] σ = zq d mX3_still 43 [some (zR (some 36)), some (zI x1), some (zI 1), some (zI 0)] [] σ := by
  refine Eq.trans (zY_step (by exact rfl) (by exact dX3_still_39) (by exact rfl) (pc' := 40) (S' := [zI 1]) (by exact rfl) (zcn (by exact rfl))) ?_
  refine Eq.trans (zY_step (by exact rfl) (by exact dX3_still_40) (by exact rfl) (pc' := 41) (L' := [some (zR (some 36)), some (zI x1), some (zI 1), none]) (S' := []) (by exact rfl) (zcn (by exact rfl))) ?_
  refine Eq.trans (zY_step (by exact rfl) (by exact dX3_still_41) (by exact rfl) (pc' := 42) (S' := [zI 0]) (by exact rfl) (zcn (by exact rfl))) ?_
  exact zY_step (by exact rfl) (by exact dX3_still_42) (by exact rfl) (pc' := 43) (L' := [some (zR (some 36)), some (zI x1), some (zI 1), some (zI 0)]) (S' := []) (by exact rfl) (zcn (by exact rfl))
theorem b_X3_still_43 (d : Nat) (x1 x2 x3 : Int) (σ : zS) : zq (d + 1) mX3_still 43 [some (zR (some 36)), some (zI x1), some (zI x2), some (zI x3)] [] σ = (if nrm (σ 38 0) ≤ nrm x3 then (if nrm x2 = 0 then zq (d + 1) mX3_still 13 [some (zR (some 36)), some (zI (x1 + 1)), none, none] [] σ else some (some (zI x1), σ)) else (zc d mX3_of [zI x3, zI 2] σ).bind fun r => zq (d + 1) mX3_still 63 [some (zR (some 36)), some (zI x1), some (zI x2), some (zI x3)] (r.1.toList ++ [zR (some 38), zI x2]) r.2) := by
  refine Eq.trans (zY_step (by exact rfl) (by exact dX3_still_43) (by exact rfl) (pc' := 44) (S' := [zI x3]) (by exact rfl) (zcn (by exact rfl))) ?_
  refine Eq.trans (zY_step (by exact rfl) (by exact dX3_still_44) (by exact rfl) (pc' := 45) (S' := [zR (some 36), zI x3]) (by exact rfl) (zcn (by exact rfl))) ?_
  refine Eq.trans (zY_getR (by exact rfl) (by exact dX3_still_45) (by exact rfl) (by exact rfl) (t := 38) (by exact rfl) (zcn (by exact rfl))) ?_
  refine Eq.trans (zY_step (by exact rfl) (by exact dX3_still_48) (by exact rfl) (pc' := 49) (S' := [zI 0, zR (some 38), zI x3]) (by exact rfl) (zcn (by exact rfl))) ?_
  refine Eq.trans (zY_ialdc (by exact rfl) (by exact dX3_still_49) (by exact rfl) (by exact rfl) (j := 0) (by decide) (by decide) (zcn (by exact rfl))) ?_
  refine Eq.trans (zY_ic_ge (by exact rfl) (by exact dX3_still_50) (t := 90) (by exact rfl) (a2 := nrm x3) (b2 := nrm (σ 38 0)) (by exact rfl) (by exact rfl) (zcn (by exact rfl)) (zcn (by exact rfl))) (zif ?_ ?_)
  · refine Eq.trans (zY_step (by exact rfl) (by exact dX3_still_90) (by exact rfl) (pc' := 91) (S' := [zI x2]) (by exact rfl) (zcn (by exact rfl))) ?_
    refine Eq.trans (zY_if_eq (by exact rfl) (by exact dX3_still_91) (t := 96) (by exact rfl) (a2 := nrm x2) (by exact rfl) (zcn (by exact rfl)) (zcn (by exact rfl))) (zif ?_ ?_)
    · refine Eq.trans (zY_step (by exact rfl) (by exact dX3_still_96) (by exact rfl) (pc' := 99) (L' := [some (zR (some 36)), some (zI (x1 + 1)), some (zI x2), some (zI x3)]) (S' := []) (by exact rfl) (zcn (by exact rfl))) ?_
      exact zY_step (by exact rfl) (by exact dX3_still_99) (by exact rfl) (pc' := 13) (S' := []) (L2 := [some (zR (some 36)), some (zI (x1 + 1)), none, none]) (by exact rfl) (by exact rfl)
    · refine Eq.trans (zY_step (by exact rfl) (by exact dX3_still_94) (by exact rfl) (pc' := 95) (S' := [zI x1]) (by exact rfl) (zcn (by exact rfl))) ?_
      exact zq_ret (by exact dX3_still_95) (by exact rfl) (rv := some (zI x1)) (by exact rfl)
  · refine Eq.trans (zY_step (by exact rfl) (by exact dX3_still_53) (by exact rfl) (pc' := 54) (S' := [zI x2]) (by exact rfl) (zcn (by exact rfl))) ?_
    refine Eq.trans (zY_step (by exact rfl) (by exact dX3_still_54) (by exact rfl) (pc' := 55) (S' := [zR (some 36), zI x2]) (by exact rfl) (zcn (by exact rfl))) ?_
    refine Eq.trans (zY_getR (by exact rfl) (by exact dX3_still_55) (by exact rfl) (by exact rfl) (t := 38) (by exact rfl) (zcn (by exact rfl))) ?_
    refine Eq.trans (zY_step (by exact rfl) (by exact dX3_still_58) (by exact rfl) (pc' := 59) (S' := [zI x3, zR (some 38), zI x2]) (by exact rfl) (zcn (by exact rfl))) ?_
    refine Eq.trans (zY_step (by exact rfl) (by exact dX3_still_59) (by exact rfl) (pc' := 60) (S' := [zI 2, zI x3, zR (some 38), zI x2]) (by exact rfl) (zcn (by exact rfl))) ?_
    exact zY_S (by exact rfl) (by exact dX3_still_60) (by exact rfl) (by exact Or.inl rfl) (as := [zI x3, zI 2]) (S' := [zR (some 38), zI x2]) (by exact rfl) (by exact rfl) (by exact Nat.le_of_ble_eq_true rfl) (by exact Nat.le_of_ble_eq_true rfl) (zcn (by exact rfl))
theorem b_X3_still_63 (d : Nat) (y0 y2 x1 x2 x3 : Int) (σ : zS) : zq (d + 1) mX3_still 63 [some (zR (some 36)), some (zI x1), some (zI x2), some (zI x3)] [zI y0, zR (some 38), zI y2] σ = (if zix y0 35 then (zc d mX3_of [zI x3, zI 2] σ).bind fun r => zq (d + 1) mX3_still 73 [some (zR (some 36)), some (zI x1), some (zI x2), some (zI x3)] (r.1.toList ++ [zR (some 40), zI (σ 38 (nrm y0).toNat), zI y2]) r.2 else none) := by
  refine Eq.trans (zY_iald (by exact rfl) (by exact dX3_still_63) (by exact rfl) (by exact rfl) (zcn (by exact rfl))) (zif ?_ rfl)
  · refine Eq.trans (zY_step (by exact rfl) (by exact dX3_still_64) (by exact rfl) (pc' := 65) (S' := [zR (some 36), zI (σ 38 (nrm y0).toNat), zI y2]) (by exact rfl) (zcn (by exact rfl))) ?_
    refine Eq.trans (zY_getR (by exact rfl) (by exact dX3_still_65) (by exact rfl) (by exact rfl) (t := 40) (by exact rfl) (zcn (by exact rfl))) ?_
    refine Eq.trans (zY_step (by exact rfl) (by exact dX3_still_68) (by exact rfl) (pc' := 69) (S' := [zI x3, zR (some 40), zI (σ 38 (nrm y0).toNat), zI y2]) (by exact rfl) (zcn (by exact rfl))) ?_
    refine Eq.trans (zY_step (by exact rfl) (by exact dX3_still_69) (by exact rfl) (pc' := 70) (S' := [zI 2, zI x3, zR (some 40), zI (σ 38 (nrm y0).toNat), zI y2]) (by exact rfl) (zcn (by exact rfl))) ?_
    exact zY_S (by exact rfl) (by exact dX3_still_70) (by exact rfl) (by exact Or.inl rfl) (as := [zI x3, zI 2]) (S' := [zR (some 40), zI (σ 38 (nrm y0).toNat), zI y2]) (by exact rfl) (by exact rfl) (by exact Nat.le_of_ble_eq_true rfl) (by exact Nat.le_of_ble_eq_true rfl) (zcn (by exact rfl))
theorem b_X3_still_73 (d : Nat) (y0 y2 y3 x1 x2 x3 : Int) (σ : zS) : zq d mX3_still 73 [some (zR (some 36)), some (zI x1), some (zI x2), some (zI x3)] [zI y0, zR (some 40), zI y2, zI y3] σ = (if zix y0 35 then (if ¬ nrm y2 = nrm (σ 40 (nrm y0).toNat) then zq d mX3_still 82 [some (zR (some 36)), some (zI x1), none, some (zI x3)] [zI 0, zI y3] σ else zq d mX3_still 82 [some (zR (some 36)), some (zI x1), none, some (zI x3)] [zI 1, zI y3] σ) else none) := by
  refine Eq.trans (zY_iald (by exact rfl) (by exact dX3_still_73) (by exact rfl) (by exact rfl) (zcn (by exact rfl))) (zif ?_ rfl)
  · refine Eq.trans (zY_ic_ne (by exact rfl) (by exact dX3_still_74) (t := 81) (by exact rfl) (a2 := nrm y2) (b2 := nrm (σ 40 (nrm y0).toNat)) (by exact rfl) (by exact rfl) (zcn (by exact rfl)) (zcn (by exact rfl))) (zif ?_ ?_)
    · exact zY_step (by exact rfl) (by exact dX3_still_81) (by exact rfl) (pc' := 82) (S' := [zI 0, zI y3]) (L2 := [some (zR (some 36)), some (zI x1), none, some (zI x3)]) (by exact rfl) (by exact rfl)
    · refine Eq.trans (zY_step (by exact rfl) (by exact dX3_still_77) (by exact rfl) (pc' := 78) (S' := [zI 1, zI y3]) (by exact rfl) (zcn (by exact rfl))) ?_
      exact zY_step (by exact rfl) (by exact dX3_still_78) (by exact rfl) (pc' := 82) (S' := [zI 1, zI y3]) (L2 := [some (zR (some 36)), some (zI x1), none, some (zI x3)]) (by exact rfl) (by exact rfl)
theorem b_X3_still_82 (d : Nat) (y0 y1 x1 x3 : Int) (σ : zS) : zq d mX3_still 82 [some (zR (some 36)), some (zI x1), none, some (zI x3)] [zI y0, zI y1] σ = zq d mX3_still 43 [some (zR (some 36)), some (zI x1), some (zI (zand y1 y0)), some (zI (x3 + 1))] [] σ := by
  refine Eq.trans (zY_step (by exact rfl) (by exact dX3_still_82) (by exact rfl) (pc' := 83) (S' := [zI (zand y1 y0)]) (by exact rfl) (zcn (by exact rfl))) ?_
  refine Eq.trans (zY_step (by exact rfl) (by exact dX3_still_83) (by exact rfl) (pc' := 84) (L' := [some (zR (some 36)), some (zI x1), some (zI (zand y1 y0)), some (zI x3)]) (S' := []) (by exact rfl) (zcn (by exact rfl))) ?_
  refine Eq.trans (zY_step (by exact rfl) (by exact dX3_still_84) (by exact rfl) (pc' := 87) (L' := [some (zR (some 36)), some (zI x1), some (zI (zand y1 y0)), some (zI (x3 + 1))]) (S' := []) (by exact rfl) (zcn (by exact rfl))) ?_
  exact zY_step (by exact rfl) (by exact dX3_still_87) (by exact rfl) (pc' := 43) (S' := []) (by exact rfl) (zcn (by exact rfl))
theorem e_X3_runIn (d : Nat) (x1 : Int) (σ : zS) : zc d mX3_runIn [zR (some 36), zI x1] σ = zq d mX3_runIn 4 [some (zR (some 36)), none, some (zI 0), some (zI x1)] [] σ := by
  refine Eq.trans (zc_zq (L := [some (zR (some 36)), some (zI x1), none, none]) (by exact rfl)) ?_
  refine Eq.trans (zY_step (by exact rfl) (by exact dX3_runIn_0) (by exact rfl) (pc' := 1) (S' := [zI 0]) (by exact rfl) (zcn (by exact rfl))) ?_
  refine Eq.trans (zY_step (by exact rfl) (by exact dX3_runIn_1) (by exact rfl) (pc' := 2) (L' := [some (zR (some 36)), some (zI x1), some (zI 0), none]) (S' := []) (by exact rfl) (zcn (by exact rfl))) ?_
  refine Eq.trans (zY_step (by exact rfl) (by exact dX3_runIn_2) (by exact rfl) (pc' := 3) (S' := [zI x1]) (by exact rfl) (zcn (by exact rfl))) ?_
  exact zY_step (by exact rfl) (by exact dX3_runIn_3) (by exact rfl) (pc' := 4) (L' := [some (zR (some 36)), some (zI x1), some (zI 0), some (zI x1)]) (S' := []) (L2 := [some (zR (some 36)), none, some (zI 0), some (zI x1)]) (by exact rfl) (by exact rfl)
theorem b_X3_runIn_4 (d : Nat) (x2 x3 : Int) (σ : zS) : zq (d + 1) mX3_runIn 4 [some (zR (some 36)), none, some (zI x2), some (zI x3)] [] σ = (if nrm (σ 38 0) ≤ nrm x3 then some (some (zI x2), σ) else (zc d mX3_of [zI x3, zI 2] σ).bind fun r => zq (d + 1) mX3_runIn 23 [some (zR (some 36)), none, some (zI x2), some (zI x3)] (r.1.toList ++ [zR (some 38)]) r.2) := by
  refine Eq.trans (zY_step (by exact rfl) (by exact dX3_runIn_4) (by exact rfl) (pc' := 5) (S' := [zI x3]) (by exact rfl) (zcn (by exact rfl))) ?_
  refine Eq.trans (zY_step (by exact rfl) (by exact dX3_runIn_5) (by exact rfl) (pc' := 6) (S' := [zR (some 36), zI x3]) (by exact rfl) (zcn (by exact rfl))) ?_
  refine Eq.trans (zY_getR (by exact rfl) (by exact dX3_runIn_6) (by exact rfl) (by exact rfl) (t := 38) (by exact rfl) (zcn (by exact rfl))) ?_
  refine Eq.trans (zY_step (by exact rfl) (by exact dX3_runIn_9) (by exact rfl) (pc' := 10) (S' := [zI 0, zR (some 38), zI x3]) (by exact rfl) (zcn (by exact rfl))) ?_
  refine Eq.trans (zY_ialdc (by exact rfl) (by exact dX3_runIn_10) (by exact rfl) (by exact rfl) (j := 0) (by decide) (by decide) (zcn (by exact rfl))) ?_
  refine Eq.trans (zY_ic_ge (by exact rfl) (by exact dX3_runIn_11) (t := 36) (by exact rfl) (a2 := nrm x3) (b2 := nrm (σ 38 0)) (by exact rfl) (by exact rfl) (L1 := [none, none, some (zI x2), none]) (by exact rfl) (zcn (by exact rfl))) (zif ?_ ?_)
  · refine Eq.trans (zY_step (by exact rfl) (by exact dX3_runIn_36) (by exact rfl) (pc' := 37) (S' := [zI x2]) (by exact rfl) (zcn (by exact rfl))) ?_
    exact zq_ret (by exact dX3_runIn_37) (by exact rfl) (rv := some (zI x2)) (by exact rfl)
  · refine Eq.trans (zY_step (by exact rfl) (by exact dX3_runIn_14) (by exact rfl) (pc' := 15) (S' := [zR (some 36)]) (by exact rfl) (zcn (by exact rfl))) ?_
    refine Eq.trans (zY_getR (by exact rfl) (by exact dX3_runIn_15) (by exact rfl) (by exact rfl) (t := 38) (by exact rfl) (zcn (by exact rfl))) ?_
    refine Eq.trans (zY_step (by exact rfl) (by exact dX3_runIn_18) (by exact rfl) (pc' := 19) (S' := [zI x3, zR (some 38)]) (by exact rfl) (zcn (by exact rfl))) ?_
    refine Eq.trans (zY_step (by exact rfl) (by exact dX3_runIn_19) (by exact rfl) (pc' := 20) (S' := [zI 2, zI x3, zR (some 38)]) (by exact rfl) (zcn (by exact rfl))) ?_
    exact zY_S (by exact rfl) (by exact dX3_runIn_20) (by exact rfl) (by exact Or.inl rfl) (as := [zI x3, zI 2]) (S' := [zR (some 38)]) (by exact rfl) (by exact rfl) (by exact Nat.le_of_ble_eq_true rfl) (by exact Nat.le_of_ble_eq_true rfl) (zcn (by exact rfl))
theorem b_X3_runIn_23 (d : Nat) (y0 x2 x3 : Int) (σ : zS) : zq d mX3_runIn 23 [some (zR (some 36)), none, some (zI x2), some (zI x3)] [zI y0, zR (some 38)] σ = (if zix y0 35 then (if nrm (σ 38 (nrm y0).toNat) ≤ 0 then some (some (zI x2), σ) else zq d mX3_runIn 4 [some (zR (some 36)), none, some (zI (x2 + 1)), some (zI (x3 + 1))] [] σ) else none) := by
  refine Eq.trans (zY_iald (by exact rfl) (by exact dX3_runIn_23) (by exact rfl) (by exact rfl) (zcn (by exact rfl))) (zif ?_ rfl)
  · refine Eq.trans (zY_if_le (by exact rfl) (by exact dX3_runIn_24) (t := 36) (by exact rfl) (a2 := nrm (σ 38 (nrm y0).toNat)) (by exact rfl) (L1 := [none, none, some (zI x2), none]) (by exact rfl) (zcn (by exact rfl))) (zif ?_ ?_)
    · refine Eq.trans (zY_step (by exact rfl) (by exact dX3_runIn_36) (by exact rfl) (pc' := 37) (S' := [zI x2]) (by exact rfl) (zcn (by exact rfl))) ?_
      exact zq_ret (by exact dX3_runIn_37) (by exact rfl) (rv := some (zI x2)) (by exact rfl)
    · refine Eq.trans (zY_step (by exact rfl) (by exact dX3_runIn_27) (by exact rfl) (pc' := 30) (L' := [some (zR (some 36)), none, some (zI (x2 + 1)), some (zI x3)]) (S' := []) (by exact rfl) (zcn (by exact rfl))) ?_
      refine Eq.trans (zY_step (by exact rfl) (by exact dX3_runIn_30) (by exact rfl) (pc' := 33) (L' := [some (zR (some 36)), none, some (zI (x2 + 1)), some (zI (x3 + 1))]) (S' := []) (by exact rfl) (zcn (by exact rfl))) ?_
      exact zY_step (by exact rfl) (by exact dX3_runIn_33) (by exact rfl) (pc' := 4) (S' := []) (L2 := [some (zR (some 36)), none, some (zI (x2 + 1)), some (zI (x3 + 1))]) (by exact rfl) (by exact rfl)
theorem e_X3_run (d : Nat) (x1 x2 : Int) (σ : zS) : zc (d + 1) mX3_run [zR (some 36), zI x1, zI x2] σ = (zc d mX3_isRow [zR (some 36), zI x1] σ).bind fun r => zq (d + 1) mX3_run 5 [some (zR (some 36)), some (zI x1), some (zI x2)] (r.1.toList ++ []) r.2 := by
  refine Eq.trans (zc_zq (L := [some (zR (some 36)), some (zI x1), some (zI x2)]) (by exact rfl)) ?_
  refine Eq.trans (zY_step (by exact rfl) (by exact dX3_run_0) (by exact rfl) (pc' := 1) (S' := [zR (some 36)]) (by exact rfl) (zcn (by exact rfl))) ?_
  refine Eq.trans (zY_step (by exact rfl) (by exact dX3_run_1) (by exact rfl) (pc' := 2) (S' := [zI x1, zR (some 36)]) (by exact rfl) (zcn (by exact rfl))) ?_
  exact zY_V (by exact rfl) (by exact dX3_run_2) (by exact rfl) (as := [zI x1]) (S' := []) (by exact rfl) (by exact rfl) (by exact rfl) (by exact Nat.le_of_ble_eq_true rfl) (by exact Nat.le_of_ble_eq_true rfl) (by exact Nat.le_of_ble_eq_true rfl) (zcn (by exact rfl))
theorem b_X3_run_5 (d : Nat) (y0 x1 x2 : Int) (σ : zS) : zq (d + 1) mX3_run 5 [some (zR (some 36)), some (zI x1), some (zI x2)] [zI y0] σ = (if nrm y0 = 0 then some (some (zI ((-1))), σ) else (zc d mX3_isIn [zI x2, zI 0, zI 60] σ).bind fun r => zq (d + 1) mX3_run 15 [some (zR (some 36)), some (zI x1), some (zI x2)] (r.1.toList ++ []) r.2) := by
  refine Eq.trans (zY_if_eq (by exact rfl) (by exact dX3_run_5) (t := 18) (by exact rfl) (a2 := nrm y0) (by exact rfl) (L1 := [none, none, none]) (by exact rfl) (zcn (by exact rfl))) (zif ?_ ?_)
  · refine Eq.trans (zY_step (by exact rfl) (by exact dX3_run_18) (by exact rfl) (pc' := 19) (S' := [zI ((-1))]) (by exact rfl) (zcn (by exact rfl))) ?_
    exact zq_ret (by exact dX3_run_19) (by exact rfl) (rv := some (zI ((-1)))) (by exact rfl)
  · refine Eq.trans (zY_step (by exact rfl) (by exact dX3_run_8) (by exact rfl) (pc' := 9) (S' := [zI x2]) (by exact rfl) (zcn (by exact rfl))) ?_
    refine Eq.trans (zY_step (by exact rfl) (by exact dX3_run_9) (by exact rfl) (pc' := 10) (S' := [zI 0, zI x2]) (by exact rfl) (zcn (by exact rfl))) ?_
    refine Eq.trans (zY_step (by exact rfl) (by exact dX3_run_10) (by exact rfl) (pc' := 12) (S' := [zI 60, zI 0, zI x2]) (by exact rfl) (zcn (by exact rfl))) ?_
    exact zY_S (by exact rfl) (by exact dX3_run_12) (by exact rfl) (by exact Or.inl rfl) (as := [zI x2, zI 0, zI 60]) (S' := []) (by exact rfl) (by exact rfl) (by exact Nat.le_of_ble_eq_true rfl) (by exact Nat.le_of_ble_eq_true rfl) (zcn (by exact rfl))
theorem b_X3_run_15 (d : Nat) (y0 x1 x2 : Int) (σ : zS) : zq (d + 1) mX3_run 15 [some (zR (some 36)), some (zI x1), some (zI x2)] [zI y0] σ = (if ¬ nrm y0 = 0 then (zc d mX3_takes [zR (some 36), zI x2] σ).bind fun r => zq (d + 1) mX3_run 25 [some (zR (some 36)), some (zI x1), some (zI x2)] (r.1.toList ++ []) r.2 else some (some (zI ((-1))), σ)) := by
  refine Eq.trans (zY_if_ne (by exact rfl) (by exact dX3_run_15) (t := 20) (by exact rfl) (a2 := nrm y0) (by exact rfl) (L2 := [none, none, none]) (zcn (by exact rfl)) (by exact rfl)) (zif ?_ ?_)
  · refine Eq.trans (zY_step (by exact rfl) (by exact dX3_run_20) (by exact rfl) (pc' := 21) (S' := [zR (some 36)]) (by exact rfl) (zcn (by exact rfl))) ?_
    refine Eq.trans (zY_step (by exact rfl) (by exact dX3_run_21) (by exact rfl) (pc' := 22) (S' := [zI x2, zR (some 36)]) (by exact rfl) (zcn (by exact rfl))) ?_
    exact zY_V (by exact rfl) (by exact dX3_run_22) (by exact rfl) (as := [zI x2]) (S' := []) (by exact rfl) (by exact rfl) (by exact rfl) (by exact Nat.le_of_ble_eq_true rfl) (by exact Nat.le_of_ble_eq_true rfl) (by exact Nat.le_of_ble_eq_true rfl) (zcn (by exact rfl))
  · refine Eq.trans (zY_step (by exact rfl) (by exact dX3_run_18) (by exact rfl) (pc' := 19) (S' := [zI ((-1))]) (by exact rfl) (zcn (by exact rfl))) ?_
    exact zq_ret (by exact dX3_run_19) (by exact rfl) (rv := some (zI ((-1)))) (by exact rfl)
theorem b_X3_run_25 (d : Nat) (x1 x2 : Int) (σ : zS) : zq (d + 1) mX3_run 25 [some (zR (some 36)), some (zI x1), some (zI x2)] [] σ = (zc d mX3_runIn [zR (some 36), zI x1] σ).bind fun r => zq (d + 1) mX3_run 30 [some (zR (some 36)), some (zI x1), some (zI x2)] (r.1.toList ++ []) r.2 := by
  refine Eq.trans (zY_step (by exact rfl) (by exact dX3_run_25) (by exact rfl) (pc' := 26) (S' := [zR (some 36)]) (by exact rfl) (zcn (by exact rfl))) ?_
  refine Eq.trans (zY_step (by exact rfl) (by exact dX3_run_26) (by exact rfl) (pc' := 27) (S' := [zI x1, zR (some 36)]) (by exact rfl) (zcn (by exact rfl))) ?_
  exact zY_V (by exact rfl) (by exact dX3_run_27) (by exact rfl) (as := [zI x1]) (S' := []) (by exact rfl) (by exact rfl) (by exact rfl) (by exact Nat.le_of_ble_eq_true rfl) (by exact Nat.le_of_ble_eq_true rfl) (by exact Nat.le_of_ble_eq_true rfl) (zcn (by exact rfl))
theorem b_X3_run_30 (d : Nat) (y0 x1 x2 : Int) (σ : zS) : zq d mX3_run 30 [some (zR (some 36)), some (zI x1), some (zI x2)] [zI y0] σ = some (some (zI y0), σ) := by
  exact zq_ret (by exact dX3_run_30) (by exact rfl) (rv := some (zI y0)) (by exact rfl)
theorem e_X3_longest (d : Nat) (x1 x2 : Int) (σ : zS) : zc (d + 1) mX3_longest [zR (some 36), zI x1, zI x2] σ = (zc d mX3_isIn [zI x1, zI 0, zI 60] σ).bind fun r => zq (d + 1) mX3_longest 7 [some (zR (some 36)), some (zI x1), some (zI x2), none, none, none] (r.1.toList ++ []) r.2 := by
  refine Eq.trans (zc_zq (L := [some (zR (some 36)), some (zI x1), some (zI x2), none, none, none]) (by exact rfl)) ?_
  refine Eq.trans (zY_step (by exact rfl) (by exact dX3_longest_0) (by exact rfl) (pc' := 1) (S' := [zI x1]) (by exact rfl) (zcn (by exact rfl))) ?_
  refine Eq.trans (zY_step (by exact rfl) (by exact dX3_longest_1) (by exact rfl) (pc' := 2) (S' := [zI 0, zI x1]) (by exact rfl) (zcn (by exact rfl))) ?_
  refine Eq.trans (zY_step (by exact rfl) (by exact dX3_longest_2) (by exact rfl) (pc' := 4) (S' := [zI 60, zI 0, zI x1]) (by exact rfl) (zcn (by exact rfl))) ?_
  exact zY_S (by exact rfl) (by exact dX3_longest_4) (by exact rfl) (by exact Or.inl rfl) (as := [zI x1, zI 0, zI 60]) (S' := []) (by exact rfl) (by exact rfl) (by exact Nat.le_of_ble_eq_true rfl) (by exact Nat.le_of_ble_eq_true rfl) (zcn (by exact rfl))
theorem b_X3_longest_7 (d : Nat) (y0 x1 x2 : Int) (σ : zS) : zq (d + 1) mX3_longest 7 [some (zR (some 36)), some (zI x1), some (zI x2), none, none, none] [zI y0] σ = (if nrm y0 = 0 then some (some (zI ((-1))), σ) else (zc d mX3_isIn [zI x2, zI 0, zI 1] σ).bind fun r => zq (d + 1) mX3_longest 16 [some (zR (some 36)), some (zI x1), some (zI x2), none, none, none] (r.1.toList ++ []) r.2) := by
  refine Eq.trans (zY_if_eq (by exact rfl) (by exact dX3_longest_7) (t := 19) (by exact rfl) (a2 := nrm y0) (by exact rfl) (L1 := [none, none, none, none, none, none]) (by exact rfl) (zcn (by exact rfl))) (zif ?_ ?_)
  · refine Eq.trans (zY_step (by exact rfl) (by exact dX3_longest_19) (by exact rfl) (pc' := 20) (S' := [zI ((-1))]) (by exact rfl) (zcn (by exact rfl))) ?_
    exact zq_ret (by exact dX3_longest_20) (by exact rfl) (rv := some (zI ((-1)))) (by exact rfl)
  · refine Eq.trans (zY_step (by exact rfl) (by exact dX3_longest_10) (by exact rfl) (pc' := 11) (S' := [zI x2]) (by exact rfl) (zcn (by exact rfl))) ?_
    refine Eq.trans (zY_step (by exact rfl) (by exact dX3_longest_11) (by exact rfl) (pc' := 12) (S' := [zI 0, zI x2]) (by exact rfl) (zcn (by exact rfl))) ?_
    refine Eq.trans (zY_step (by exact rfl) (by exact dX3_longest_12) (by exact rfl) (pc' := 13) (S' := [zI 1, zI 0, zI x2]) (by exact rfl) (zcn (by exact rfl))) ?_
    exact zY_S (by exact rfl) (by exact dX3_longest_13) (by exact rfl) (by exact Or.inl rfl) (as := [zI x2, zI 0, zI 1]) (S' := []) (by exact rfl) (by exact rfl) (by exact Nat.le_of_ble_eq_true rfl) (by exact Nat.le_of_ble_eq_true rfl) (zcn (by exact rfl))
theorem b_X3_longest_16 (d : Nat) (y0 x1 x2 : Int) (σ : zS) : zq (d + 1) mX3_longest 16 [some (zR (some 36)), some (zI x1), some (zI x2), none, none, none] [zI y0] σ = (if ¬ nrm y0 = 0 then (zc d mX3_takes [zR (some 36), zI x1] σ).bind fun r => zq (d + 1) mX3_longest 26 [some (zR (some 36)), some (zI x1), some (zI x2), none, none, none] (r.1.toList ++ []) r.2 else some (some (zI ((-1))), σ)) := by
  refine Eq.trans (zY_if_ne (by exact rfl) (by exact dX3_longest_16) (t := 21) (by exact rfl) (a2 := nrm y0) (by exact rfl) (L2 := [none, none, none, none, none, none]) (zcn (by exact rfl)) (by exact rfl)) (zif ?_ ?_)
  · refine Eq.trans (zY_step (by exact rfl) (by exact dX3_longest_21) (by exact rfl) (pc' := 22) (S' := [zR (some 36)]) (by exact rfl) (zcn (by exact rfl))) ?_
    refine Eq.trans (zY_step (by exact rfl) (by exact dX3_longest_22) (by exact rfl) (pc' := 23) (S' := [zI x1, zR (some 36)]) (by exact rfl) (zcn (by exact rfl))) ?_
    exact zY_V (by exact rfl) (by exact dX3_longest_23) (by exact rfl) (as := [zI x1]) (S' := []) (by exact rfl) (by exact rfl) (by exact rfl) (by exact Nat.le_of_ble_eq_true rfl) (by exact Nat.le_of_ble_eq_true rfl) (by exact Nat.le_of_ble_eq_true rfl) (zcn (by exact rfl))
  · refine Eq.trans (zY_step (by exact rfl) (by exact dX3_longest_19) (by exact rfl) (pc' := 20) (S' := [zI ((-1))]) (by exact rfl) (zcn (by exact rfl))) ?_
    exact zq_ret (by exact dX3_longest_20) (by exact rfl) (rv := some (zI ((-1)))) (by exact rfl)
theorem b_X3_longest_26 (d : Nat) (x1 x2 : Int) (σ : zS) : zq d mX3_longest 26 [some (zR (some 36)), some (zI x1), some (zI x2), none, none, none] [] σ = zq d mX3_longest 35 [some (zR (some 36)), none, some (zI x2), some (zI ((-4))), some (zI 0), some (zI 0)] [] σ := by
  refine Eq.trans (zY_step (by exact rfl) (by exact dX3_longest_26) (by exact rfl) (pc' := 28) (S' := [zI ((-4))]) (by exact rfl) (zcn (by exact rfl))) ?_
  refine Eq.trans (zY_step (by exact rfl) (by exact dX3_longest_28) (by exact rfl) (pc' := 29) (L' := [some (zR (some 36)), some (zI x1), some (zI x2), some (zI ((-4))), none, none]) (S' := []) (by exact rfl) (zcn (by exact rfl))) ?_
  refine Eq.trans (zY_step (by exact rfl) (by exact dX3_longest_29) (by exact rfl) (pc' := 30) (S' := [zI 0]) (by exact rfl) (zcn (by exact rfl))) ?_
  refine Eq.trans (zY_step (by exact rfl) (by exact dX3_longest_30) (by exact rfl) (pc' := 32) (L' := [some (zR (some 36)), some (zI x1), some (zI x2), some (zI ((-4))), some (zI 0), none]) (S' := []) (by exact rfl) (zcn (by exact rfl))) ?_
  refine Eq.trans (zY_step (by exact rfl) (by exact dX3_longest_32) (by exact rfl) (pc' := 33) (S' := [zI 0]) (by exact rfl) (zcn (by exact rfl))) ?_
  exact zY_step (by exact rfl) (by exact dX3_longest_33) (by exact rfl) (pc' := 35) (L' := [some (zR (some 36)), some (zI x1), some (zI x2), some (zI ((-4))), some (zI 0), some (zI 0)]) (S' := []) (L2 := [some (zR (some 36)), none, some (zI x2), some (zI ((-4))), some (zI 0), some (zI 0)]) (by exact rfl) (by exact rfl)
theorem b_X3_longest_35 (d : Nat) (x2 x3 x4 x5 : Int) (σ : zS) : zq (d + 1) mX3_longest 35 [some (zR (some 36)), none, some (zI x2), some (zI x3), some (zI x4), some (zI x5)] [] σ = (if nrm (σ 38 0) ≤ nrm x5 then (if ¬ nrm x2 = 0 then some (some (zI x4), σ) else some (some (zI x3), σ)) else (zc d mX3_runIn [zR (some 36), zI x5] σ).bind fun r => zq (d + 1) mX3_longest 52 [some (zR (some 36)), none, some (zI x2), some (zI x3), some (zI x4), some (zI x5)] (r.1.toList ++ []) r.2) := by
  refine Eq.trans (zY_step (by exact rfl) (by exact dX3_longest_35) (by exact rfl) (pc' := 37) (S' := [zI x5]) (by exact rfl) (zcn (by exact rfl))) ?_
  refine Eq.trans (zY_step (by exact rfl) (by exact dX3_longest_37) (by exact rfl) (pc' := 38) (S' := [zR (some 36), zI x5]) (by exact rfl) (zcn (by exact rfl))) ?_
  refine Eq.trans (zY_getR (by exact rfl) (by exact dX3_longest_38) (by exact rfl) (by exact rfl) (t := 38) (by exact rfl) (zcn (by exact rfl))) ?_
  refine Eq.trans (zY_step (by exact rfl) (by exact dX3_longest_41) (by exact rfl) (pc' := 42) (S' := [zI 0, zR (some 38), zI x5]) (by exact rfl) (zcn (by exact rfl))) ?_
  refine Eq.trans (zY_ialdc (by exact rfl) (by exact dX3_longest_42) (by exact rfl) (by exact rfl) (j := 0) (by decide) (by decide) (zcn (by exact rfl))) ?_
  refine Eq.trans (zY_ic_ge (by exact rfl) (by exact dX3_longest_43) (t := 77) (by exact rfl) (a2 := nrm x5) (b2 := nrm (σ 38 0)) (by exact rfl) (by exact rfl) (zcn (by exact rfl)) (zcn (by exact rfl))) (zif ?_ ?_)
  · refine Eq.trans (zY_step (by exact rfl) (by exact dX3_longest_77) (by exact rfl) (pc' := 78) (S' := [zI x2]) (by exact rfl) (zcn (by exact rfl))) ?_
    refine Eq.trans (zY_if_ne (by exact rfl) (by exact dX3_longest_78) (t := 85) (by exact rfl) (a2 := nrm x2) (by exact rfl) (zcn (by exact rfl)) (zcn (by exact rfl))) (zif ?_ ?_)
    · refine Eq.trans (zY_step (by exact rfl) (by exact dX3_longest_85) (by exact rfl) (pc' := 87) (S' := [zI x4]) (L2 := [none, none, none, none, none, none]) (by exact rfl) (by exact rfl)) ?_
      exact zq_ret (by exact dX3_longest_87) (by exact rfl) (rv := some (zI x4)) (by exact rfl)
    · refine Eq.trans (zY_step (by exact rfl) (by exact dX3_longest_81) (by exact rfl) (pc' := 82) (S' := [zI x3]) (by exact rfl) (zcn (by exact rfl))) ?_
      refine Eq.trans (zY_step (by exact rfl) (by exact dX3_longest_82) (by exact rfl) (pc' := 87) (S' := [zI x3]) (L2 := [none, none, none, none, none, none]) (by exact rfl) (by exact rfl)) ?_
      exact zq_ret (by exact dX3_longest_87) (by exact rfl) (rv := some (zI x3)) (by exact rfl)
  · refine Eq.trans (zY_step (by exact rfl) (by exact dX3_longest_46) (by exact rfl) (pc' := 47) (S' := [zR (some 36)]) (by exact rfl) (zcn (by exact rfl))) ?_
    refine Eq.trans (zY_step (by exact rfl) (by exact dX3_longest_47) (by exact rfl) (pc' := 49) (S' := [zI x5, zR (some 36)]) (by exact rfl) (zcn (by exact rfl))) ?_
    exact zY_V (by exact rfl) (by exact dX3_longest_49) (by exact rfl) (as := [zI x5]) (S' := []) (by exact rfl) (by exact rfl) (by exact rfl) (by exact Nat.le_of_ble_eq_true rfl) (by exact Nat.le_of_ble_eq_true rfl) (by exact Nat.le_of_ble_eq_true rfl) (zcn (by exact rfl))
theorem b_X3_longest_52 (d : Nat) (y0 x2 x3 x4 x5 : Int) (σ : zS) : zq (d + 1) mX3_longest 52 [some (zR (some 36)), none, some (zI x2), some (zI x3), some (zI x4), some (zI x5)] [zI y0] σ = (if nrm x4 < nrm y0 then (zc d mX3_runIn [zR (some 36), zI x5] σ).bind fun r => zq (d + 1) mX3_longest 69 [some (zR (some 36)), none, some (zI x2), some (zI x5), some (zI x4), some (zI x5)] (r.1.toList ++ []) r.2 else zq (d + 1) mX3_longest 71 [some (zR (some 36)), none, some (zI x2), some (zI x3), some (zI x4), some (zI x5)] [] σ) := by
  refine Eq.trans (zY_step (by exact rfl) (by exact dX3_longest_52) (by exact rfl) (pc' := 54) (S' := [zI x4, zI y0]) (by exact rfl) (zcn (by exact rfl))) ?_
  refine Eq.trans (zY_ic_gt (by exact rfl) (by exact dX3_longest_54) (t := 60) (by exact rfl) (a2 := nrm y0) (b2 := nrm x4) (by exact rfl) (by exact rfl) (zcn (by exact rfl)) (zcn (by exact rfl))) (zif ?_ ?_)
  · refine Eq.trans (zY_step (by exact rfl) (by exact dX3_longest_60) (by exact rfl) (pc' := 62) (S' := [zI x5]) (by exact rfl) (zcn (by exact rfl))) ?_
    refine Eq.trans (zY_step (by exact rfl) (by exact dX3_longest_62) (by exact rfl) (pc' := 63) (L' := [some (zR (some 36)), none, some (zI x2), some (zI x5), some (zI x4), some (zI x5)]) (S' := []) (by exact rfl) (zcn (by exact rfl))) ?_
    refine Eq.trans (zY_step (by exact rfl) (by exact dX3_longest_63) (by exact rfl) (pc' := 64) (S' := [zR (some 36)]) (by exact rfl) (zcn (by exact rfl))) ?_
    refine Eq.trans (zY_step (by exact rfl) (by exact dX3_longest_64) (by exact rfl) (pc' := 66) (S' := [zI x5, zR (some 36)]) (by exact rfl) (zcn (by exact rfl))) ?_
    exact zY_V (by exact rfl) (by exact dX3_longest_66) (by exact rfl) (as := [zI x5]) (S' := []) (by exact rfl) (by exact rfl) (by exact rfl) (by exact Nat.le_of_ble_eq_true rfl) (by exact Nat.le_of_ble_eq_true rfl) (by exact Nat.le_of_ble_eq_true rfl) (zcn (by exact rfl))
  · exact zY_step (by exact rfl) (by exact dX3_longest_57) (by exact rfl) (pc' := 71) (S' := []) (by exact rfl) (zcn (by exact rfl))
theorem b_X3_longest_69 (d : Nat) (y0 x2 x3 x4 x5 : Int) (σ : zS) : zq d mX3_longest 69 [some (zR (some 36)), none, some (zI x2), some (zI x3), some (zI x4), some (zI x5)] [zI y0] σ = zq d mX3_longest 71 [some (zR (some 36)), none, some (zI x2), some (zI x3), some (zI y0), some (zI x5)] [] σ := by
  exact zY_step (by exact rfl) (by exact dX3_longest_69) (by exact rfl) (pc' := 71) (L' := [some (zR (some 36)), none, some (zI x2), some (zI x3), some (zI y0), some (zI x5)]) (S' := []) (by exact rfl) (zcn (by exact rfl))
theorem b_X3_longest_71 (d : Nat) (x2 x3 x4 x5 : Int) (σ : zS) : zq d mX3_longest 71 [some (zR (some 36)), none, some (zI x2), some (zI x3), some (zI x4), some (zI x5)] [] σ = zq d mX3_longest 35 [some (zR (some 36)), none, some (zI x2), some (zI x3), some (zI x4), some (zI (x5 + 1))] [] σ := by
  refine Eq.trans (zY_step (by exact rfl) (by exact dX3_longest_71) (by exact rfl) (pc' := 74) (L' := [some (zR (some 36)), none, some (zI x2), some (zI x3), some (zI x4), some (zI (x5 + 1))]) (S' := []) (by exact rfl) (zcn (by exact rfl))) ?_
  exact zY_step (by exact rfl) (by exact dX3_longest_74) (by exact rfl) (pc' := 35) (S' := []) (L2 := [some (zR (some 36)), none, some (zI x2), some (zI x3), some (zI x4), some (zI (x5 + 1))]) (by exact rfl) (by exact rfl)
theorem e_X3_began (d : Nat) (x1 : Int) (σ : zS) : zc (d + 1) mX3_began [zR (some 36), zI x1] σ = (zc d mX3_isIn [zI x1, zI 0, zI 60] σ).bind fun r => zq (d + 1) mX3_began 7 [some (zR (some 36)), some (zI x1), none, none, none] (r.1.toList ++ []) r.2 := by
  refine Eq.trans (zc_zq (L := [some (zR (some 36)), some (zI x1), none, none, none]) (by exact rfl)) ?_
  refine Eq.trans (zY_step (by exact rfl) (by exact dX3_began_0) (by exact rfl) (pc' := 1) (S' := [zI x1]) (by exact rfl) (zcn (by exact rfl))) ?_
  refine Eq.trans (zY_step (by exact rfl) (by exact dX3_began_1) (by exact rfl) (pc' := 2) (S' := [zI 0, zI x1]) (by exact rfl) (zcn (by exact rfl))) ?_
  refine Eq.trans (zY_step (by exact rfl) (by exact dX3_began_2) (by exact rfl) (pc' := 4) (S' := [zI 60, zI 0, zI x1]) (by exact rfl) (zcn (by exact rfl))) ?_
  exact zY_S (by exact rfl) (by exact dX3_began_4) (by exact rfl) (by exact Or.inl rfl) (as := [zI x1, zI 0, zI 60]) (S' := []) (by exact rfl) (by exact rfl) (by exact Nat.le_of_ble_eq_true rfl) (by exact Nat.le_of_ble_eq_true rfl) (zcn (by exact rfl))
theorem b_X3_began_7 (d : Nat) (y0 x1 : Int) (σ : zS) : zq (d + 1) mX3_began 7 [some (zR (some 36)), some (zI x1), none, none, none] [zI y0] σ = (if ¬ nrm y0 = 0 then (zc d mX3_takes [zR (some 36), zI x1] σ).bind fun r => zq (d + 1) mX3_began 17 [some (zR (some 36)), some (zI x1), none, none, none] (r.1.toList ++ []) r.2 else some (some (zI ((-1))), σ)) := by
  refine Eq.trans (zY_if_ne (by exact rfl) (by exact dX3_began_7) (t := 12) (by exact rfl) (a2 := nrm y0) (by exact rfl) (zcn (by exact rfl)) (zcn (by exact rfl))) (zif ?_ ?_)
  · refine Eq.trans (zY_step (by exact rfl) (by exact dX3_began_12) (by exact rfl) (pc' := 13) (S' := [zR (some 36)]) (by exact rfl) (zcn (by exact rfl))) ?_
    refine Eq.trans (zY_step (by exact rfl) (by exact dX3_began_13) (by exact rfl) (pc' := 14) (S' := [zI x1, zR (some 36)]) (by exact rfl) (zcn (by exact rfl))) ?_
    exact zY_V (by exact rfl) (by exact dX3_began_14) (by exact rfl) (as := [zI x1]) (S' := []) (by exact rfl) (by exact rfl) (by exact rfl) (by exact Nat.le_of_ble_eq_true rfl) (by exact Nat.le_of_ble_eq_true rfl) (by exact Nat.le_of_ble_eq_true rfl) (zcn (by exact rfl))
  · refine Eq.trans (zY_step (by exact rfl) (by exact dX3_began_10) (by exact rfl) (pc' := 11) (S' := [zI ((-1))]) (by exact rfl) (zcn (by exact rfl))) ?_
    exact zq_ret (by exact dX3_began_11) (by exact rfl) (rv := some (zI ((-1)))) (by exact rfl)
theorem b_X3_began_17 (d : Nat) (x1 : Int) (σ : zS) : zq (d + 1) mX3_began 17 [some (zR (some 36)), some (zI x1), none, none, none] [] σ = (zc d mX3_tipsAll [zR (some 38)] σ).bind fun r => zq (d + 1) mX3_began 27 [some (zR (some 36)), some (zI x1), some (zI ((-4))), none, none] (r.1.toList ++ []) r.2 := by
  refine Eq.trans (zY_step (by exact rfl) (by exact dX3_began_17) (by exact rfl) (pc' := 19) (S' := [zI ((-4))]) (by exact rfl) (zcn (by exact rfl))) ?_
  refine Eq.trans (zY_step (by exact rfl) (by exact dX3_began_19) (by exact rfl) (pc' := 20) (L' := [some (zR (some 36)), some (zI x1), some (zI ((-4))), none, none]) (S' := []) (by exact rfl) (zcn (by exact rfl))) ?_
  refine Eq.trans (zY_step (by exact rfl) (by exact dX3_began_20) (by exact rfl) (pc' := 21) (S' := [zR (some 36)]) (by exact rfl) (zcn (by exact rfl))) ?_
  refine Eq.trans (zY_getR (by exact rfl) (by exact dX3_began_21) (by exact rfl) (by exact rfl) (t := 38) (by exact rfl) (zcn (by exact rfl))) ?_
  exact zY_S (by exact rfl) (by exact dX3_began_24) (by exact rfl) (by exact Or.inl rfl) (as := [zR (some 38)]) (S' := []) (by exact rfl) (by exact rfl) (by exact Nat.le_of_ble_eq_true rfl) (by exact Nat.le_of_ble_eq_true rfl) (zcn (by exact rfl))
theorem b_X3_began_27 (d : Nat) (y0 x1 x2 : Int) (σ : zS) : zq d mX3_began 27 [some (zR (some 36)), some (zI x1), some (zI x2), none, none] [zI y0] σ = zq d mX3_began 31 [some (zR (some 36)), some (zI x1), some (zI x2), some (zI y0), some (zI 0)] [] σ := by
  refine Eq.trans (zY_step (by exact rfl) (by exact dX3_began_27) (by exact rfl) (pc' := 28) (L' := [some (zR (some 36)), some (zI x1), some (zI x2), some (zI y0), none]) (S' := []) (by exact rfl) (zcn (by exact rfl))) ?_
  refine Eq.trans (zY_step (by exact rfl) (by exact dX3_began_28) (by exact rfl) (pc' := 29) (S' := [zI 0]) (by exact rfl) (zcn (by exact rfl))) ?_
  exact zY_step (by exact rfl) (by exact dX3_began_29) (by exact rfl) (pc' := 31) (L' := [some (zR (some 36)), some (zI x1), some (zI x2), some (zI y0), some (zI 0)]) (S' := []) (by exact rfl) (zcn (by exact rfl))
theorem b_X3_began_31 (d : Nat) (x1 x2 x3 x4 : Int) (σ : zS) : zq (d + 1) mX3_began 31 [some (zR (some 36)), some (zI x1), some (zI x2), some (zI x3), some (zI x4)] [] σ = (if nrm (σ 37 0) ≤ nrm x4 then some (some (zI x2), σ) else (zc d mX3_copies [zR (some 37), zR (some 38)] σ).bind fun r => zq (d + 1) mX3_began 53 [some (zR (some 36)), some (zI x1), some (zI x2), some (zI x3), some (zI x4)] (r.1.toList ++ []) r.2) := by
  refine Eq.trans (zY_step (by exact rfl) (by exact dX3_began_31) (by exact rfl) (pc' := 33) (S' := [zI x4]) (by exact rfl) (zcn (by exact rfl))) ?_
  refine Eq.trans (zY_step (by exact rfl) (by exact dX3_began_33) (by exact rfl) (pc' := 34) (S' := [zR (some 36), zI x4]) (by exact rfl) (zcn (by exact rfl))) ?_
  refine Eq.trans (zY_getR (by exact rfl) (by exact dX3_began_34) (by exact rfl) (by exact rfl) (t := 37) (by exact rfl) (zcn (by exact rfl))) ?_
  refine Eq.trans (zY_step (by exact rfl) (by exact dX3_began_37) (by exact rfl) (pc' := 38) (S' := [zI 0, zR (some 37), zI x4]) (by exact rfl) (zcn (by exact rfl))) ?_
  refine Eq.trans (zY_ialdc (by exact rfl) (by exact dX3_began_38) (by exact rfl) (by exact rfl) (j := 0) (by decide) (by decide) (zcn (by exact rfl))) ?_
  refine Eq.trans (zY_ic_ge (by exact rfl) (by exact dX3_began_39) (t := 102) (by exact rfl) (a2 := nrm x4) (b2 := nrm (σ 37 0)) (by exact rfl) (by exact rfl) (zcn (by exact rfl)) (zcn (by exact rfl))) (zif ?_ ?_)
  · refine Eq.trans (zY_step (by exact rfl) (by exact dX3_began_102) (by exact rfl) (pc' := 103) (S' := [zI x2]) (by exact rfl) (zcn (by exact rfl))) ?_
    exact zq_ret (by exact dX3_began_103) (by exact rfl) (rv := some (zI x2)) (by exact rfl)
  · refine Eq.trans (zY_step (by exact rfl) (by exact dX3_began_42) (by exact rfl) (pc' := 43) (S' := [zR (some 36)]) (by exact rfl) (zcn (by exact rfl))) ?_
    refine Eq.trans (zY_getR (by exact rfl) (by exact dX3_began_43) (by exact rfl) (by exact rfl) (t := 37) (by exact rfl) (zcn (by exact rfl))) ?_
    refine Eq.trans (zY_step (by exact rfl) (by exact dX3_began_46) (by exact rfl) (pc' := 47) (S' := [zR (some 36), zR (some 37)]) (by exact rfl) (zcn (by exact rfl))) ?_
    refine Eq.trans (zY_getR (by exact rfl) (by exact dX3_began_47) (by exact rfl) (by exact rfl) (t := 38) (by exact rfl) (zcn (by exact rfl))) ?_
    exact zY_S (by exact rfl) (by exact dX3_began_50) (by exact rfl) (by exact Or.inl rfl) (as := [zR (some 37), zR (some 38)]) (S' := []) (by exact rfl) (by exact rfl) (by exact Nat.le_of_ble_eq_true rfl) (by exact Nat.le_of_ble_eq_true rfl) (zcn (by exact rfl))
theorem b_X3_began_53 (d : Nat) (x1 x2 x3 x4 : Int) (σ : zS) : zq (d + 1) mX3_began 53 [some (zR (some 36)), some (zI x1), some (zI x2), some (zI x3), some (zI x4)] [] σ = (zc d mX3_blocksIn [zR (some 38), zI x4] σ).bind fun r => zq (d + 1) mX3_began 62 [some (zR (some 36)), some (zI x1), some (zI x2), some (zI x3), some (zI x4)] (r.1.toList ++ []) r.2 := by
  refine Eq.trans (zY_step (by exact rfl) (by exact dX3_began_53) (by exact rfl) (pc' := 54) (S' := [zR (some 36)]) (by exact rfl) (zcn (by exact rfl))) ?_
  refine Eq.trans (zY_getR (by exact rfl) (by exact dX3_began_54) (by exact rfl) (by exact rfl) (t := 38) (by exact rfl) (zcn (by exact rfl))) ?_
  refine Eq.trans (zY_step (by exact rfl) (by exact dX3_began_57) (by exact rfl) (pc' := 59) (S' := [zI x4, zR (some 38)]) (by exact rfl) (zcn (by exact rfl))) ?_
  exact zY_S (by exact rfl) (by exact dX3_began_59) (by exact rfl) (by exact Or.inl rfl) (as := [zR (some 38), zI x4]) (S' := []) (by exact rfl) (by exact rfl) (by exact Nat.le_of_ble_eq_true rfl) (by exact Nat.le_of_ble_eq_true rfl) (zcn (by exact rfl))
theorem b_X3_began_62 (d : Nat) (x1 x2 x3 x4 : Int) (σ : zS) : zq (d + 1) mX3_began 62 [some (zR (some 36)), some (zI x1), some (zI x2), some (zI x3), some (zI x4)] [] σ = (zc d mX3_roundsOn [zR (some 36), zR (some 38), zI x1] σ).bind fun r => zq (d + 1) mX3_began 71 [some (zR (some 36)), some (zI x1), some (zI x2), some (zI x3), some (zI x4)] (r.1.toList ++ []) r.2 := by
  refine Eq.trans (zY_step (by exact rfl) (by exact dX3_began_62) (by exact rfl) (pc' := 63) (S' := [zR (some 36)]) (by exact rfl) (zcn (by exact rfl))) ?_
  refine Eq.trans (zY_step (by exact rfl) (by exact dX3_began_63) (by exact rfl) (pc' := 64) (S' := [zR (some 36), zR (some 36)]) (by exact rfl) (zcn (by exact rfl))) ?_
  refine Eq.trans (zY_getR (by exact rfl) (by exact dX3_began_64) (by exact rfl) (by exact rfl) (t := 38) (by exact rfl) (zcn (by exact rfl))) ?_
  refine Eq.trans (zY_step (by exact rfl) (by exact dX3_began_67) (by exact rfl) (pc' := 68) (S' := [zI x1, zR (some 38), zR (some 36)]) (by exact rfl) (zcn (by exact rfl))) ?_
  exact zY_V (by exact rfl) (by exact dX3_began_68) (by exact rfl) (as := [zR (some 38), zI x1]) (S' := []) (by exact rfl) (by exact rfl) (by exact rfl) (by exact Nat.le_of_ble_eq_true rfl) (by exact Nat.le_of_ble_eq_true rfl) (by exact Nat.le_of_ble_eq_true rfl) (zcn (by exact rfl))
theorem b_X3_began_71 (d : Nat) (x1 x2 x3 x4 : Int) (σ : zS) : zq (d + 1) mX3_began 71 [some (zR (some 36)), some (zI x1), some (zI x2), some (zI x3), some (zI x4)] [] σ = (zc d mX3_tipsAll [zR (some 38)] σ).bind fun r => zq (d + 1) mX3_began 78 [some (zR (some 36)), some (zI x1), some (zI x2), some (zI x3), some (zI x4)] (r.1.toList ++ []) r.2 := by
  refine Eq.trans (zY_step (by exact rfl) (by exact dX3_began_71) (by exact rfl) (pc' := 72) (S' := [zR (some 36)]) (by exact rfl) (zcn (by exact rfl))) ?_
  refine Eq.trans (zY_getR (by exact rfl) (by exact dX3_began_72) (by exact rfl) (by exact rfl) (t := 38) (by exact rfl) (zcn (by exact rfl))) ?_
  exact zY_S (by exact rfl) (by exact dX3_began_75) (by exact rfl) (by exact Or.inl rfl) (as := [zR (some 38)]) (S' := []) (by exact rfl) (by exact rfl) (by exact Nat.le_of_ble_eq_true rfl) (by exact Nat.le_of_ble_eq_true rfl) (zcn (by exact rfl))
theorem b_X3_began_78 (d : Nat) (y0 x1 x2 x3 x4 : Int) (σ : zS) : zq (d + 1) mX3_began 78 [some (zR (some 36)), some (zI x1), some (zI x2), some (zI x3), some (zI x4)] [zI y0] σ = (if nrm y0 < nrm x3 then (zc d mX3_tipsAll [zR (some 38)] σ).bind fun r => zq (d + 1) mX3_began 95 [some (zR (some 36)), some (zI x1), some (zI x4), some (zI x3), some (zI x4)] (r.1.toList ++ []) r.2 else zq (d + 1) mX3_began 96 [some (zR (some 36)), some (zI x1), some (zI x2), some (zI x3), some (zI x4)] [] σ) := by
  refine Eq.trans (zY_step (by exact rfl) (by exact dX3_began_78) (by exact rfl) (pc' := 79) (S' := [zI x3, zI y0]) (by exact rfl) (zcn (by exact rfl))) ?_
  refine Eq.trans (zY_ic_lt (by exact rfl) (by exact dX3_began_79) (t := 85) (by exact rfl) (a2 := nrm y0) (b2 := nrm x3) (by exact rfl) (by exact rfl) (zcn (by exact rfl)) (zcn (by exact rfl))) (zif ?_ ?_)
  · refine Eq.trans (zY_step (by exact rfl) (by exact dX3_began_85) (by exact rfl) (pc' := 87) (S' := [zI x4]) (by exact rfl) (zcn (by exact rfl))) ?_
    refine Eq.trans (zY_step (by exact rfl) (by exact dX3_began_87) (by exact rfl) (pc' := 88) (L' := [some (zR (some 36)), some (zI x1), some (zI x4), some (zI x3), some (zI x4)]) (S' := []) (by exact rfl) (zcn (by exact rfl))) ?_
    refine Eq.trans (zY_step (by exact rfl) (by exact dX3_began_88) (by exact rfl) (pc' := 89) (S' := [zR (some 36)]) (by exact rfl) (zcn (by exact rfl))) ?_
    refine Eq.trans (zY_getR (by exact rfl) (by exact dX3_began_89) (by exact rfl) (by exact rfl) (t := 38) (by exact rfl) (zcn (by exact rfl))) ?_
    exact zY_S (by exact rfl) (by exact dX3_began_92) (by exact rfl) (by exact Or.inl rfl) (as := [zR (some 38)]) (S' := []) (by exact rfl) (by exact rfl) (by exact Nat.le_of_ble_eq_true rfl) (by exact Nat.le_of_ble_eq_true rfl) (zcn (by exact rfl))
  · exact zY_step (by exact rfl) (by exact dX3_began_82) (by exact rfl) (pc' := 96) (S' := []) (by exact rfl) (zcn (by exact rfl))
theorem b_X3_began_95 (d : Nat) (y0 x1 x2 x3 x4 : Int) (σ : zS) : zq d mX3_began 95 [some (zR (some 36)), some (zI x1), some (zI x2), some (zI x3), some (zI x4)] [zI y0] σ = zq d mX3_began 96 [some (zR (some 36)), some (zI x1), some (zI x2), some (zI y0), some (zI x4)] [] σ := by
  exact zY_step (by exact rfl) (by exact dX3_began_95) (by exact rfl) (pc' := 96) (L' := [some (zR (some 36)), some (zI x1), some (zI x2), some (zI y0), some (zI x4)]) (S' := []) (by exact rfl) (zcn (by exact rfl))
theorem b_X3_began_96 (d : Nat) (x1 x2 x3 x4 : Int) (σ : zS) : zq d mX3_began 96 [some (zR (some 36)), some (zI x1), some (zI x2), some (zI x3), some (zI x4)] [] σ = zq d mX3_began 31 [some (zR (some 36)), some (zI x1), some (zI x2), some (zI x3), some (zI (x4 + 1))] [] σ := by
  refine Eq.trans (zY_step (by exact rfl) (by exact dX3_began_96) (by exact rfl) (pc' := 99) (L' := [some (zR (some 36)), some (zI x1), some (zI x2), some (zI x3), some (zI (x4 + 1))]) (S' := []) (by exact rfl) (zcn (by exact rfl))) ?_
  exact zY_step (by exact rfl) (by exact dX3_began_99) (by exact rfl) (pc' := 31) (S' := []) (by exact rfl) (zcn (by exact rfl))
theorem e_X3_lost (d : Nat) (x1 : Int) (σ : zS) : zc (d + 1) mX3_lost [zR (some 36), zI x1] σ = (zc d mX3_isIn [zI x1, zI 0, zI 60] σ).bind fun r => zq (d + 1) mX3_lost 7 [some (zR (some 36)), some (zI x1)] (r.1.toList ++ []) r.2 := by
  refine Eq.trans (zc_zq (L := [some (zR (some 36)), some (zI x1)]) (by exact rfl)) ?_
  refine Eq.trans (zY_step (by exact rfl) (by exact dX3_lost_0) (by exact rfl) (pc' := 1) (S' := [zI x1]) (by exact rfl) (zcn (by exact rfl))) ?_
  refine Eq.trans (zY_step (by exact rfl) (by exact dX3_lost_1) (by exact rfl) (pc' := 2) (S' := [zI 0, zI x1]) (by exact rfl) (zcn (by exact rfl))) ?_
  refine Eq.trans (zY_step (by exact rfl) (by exact dX3_lost_2) (by exact rfl) (pc' := 4) (S' := [zI 60, zI 0, zI x1]) (by exact rfl) (zcn (by exact rfl))) ?_
  exact zY_S (by exact rfl) (by exact dX3_lost_4) (by exact rfl) (by exact Or.inl rfl) (as := [zI x1, zI 0, zI 60]) (S' := []) (by exact rfl) (by exact rfl) (by exact Nat.le_of_ble_eq_true rfl) (by exact Nat.le_of_ble_eq_true rfl) (zcn (by exact rfl))
theorem b_X3_lost_7 (d : Nat) (y0 x1 : Int) (σ : zS) : zq (d + 1) mX3_lost 7 [some (zR (some 36)), some (zI x1)] [zI y0] σ = (if ¬ nrm y0 = 0 then (zc d mX3_takes [zR (some 36), zI x1] σ).bind fun r => zq (d + 1) mX3_lost 18 [some (zR (some 36)), some (zI x1)] (r.1.toList ++ []) r.2 else some (some (zI 1000000001), σ)) := by
  refine Eq.trans (zY_if_ne (by exact rfl) (by exact dX3_lost_7) (t := 13) (by exact rfl) (a2 := nrm y0) (by exact rfl) (zcn (by exact rfl)) (zcn (by exact rfl))) (zif ?_ ?_)
  · refine Eq.trans (zY_step (by exact rfl) (by exact dX3_lost_13) (by exact rfl) (pc' := 14) (S' := [zR (some 36)]) (by exact rfl) (zcn (by exact rfl))) ?_
    refine Eq.trans (zY_step (by exact rfl) (by exact dX3_lost_14) (by exact rfl) (pc' := 15) (S' := [zI x1, zR (some 36)]) (by exact rfl) (zcn (by exact rfl))) ?_
    exact zY_V (by exact rfl) (by exact dX3_lost_15) (by exact rfl) (as := [zI x1]) (S' := []) (by exact rfl) (by exact rfl) (by exact rfl) (by exact Nat.le_of_ble_eq_true rfl) (by exact Nat.le_of_ble_eq_true rfl) (by exact Nat.le_of_ble_eq_true rfl) (zcn (by exact rfl))
  · refine Eq.trans (zY_step (by exact rfl) (by exact dX3_lost_10) (by exact rfl) (pc' := 12) (S' := [zI 1000000001]) (by exact rfl) (zcn (by exact rfl))) ?_
    exact zq_ret (by exact dX3_lost_12) (by exact rfl) (rv := some (zI 1000000001)) (by exact rfl)
theorem b_X3_lost_18 (d : Nat) (x1 : Int) (σ : zS) : zq (d + 1) mX3_lost 18 [some (zR (some 36)), some (zI x1)] [] σ = (zc d mX3_joyAll [zR (some 38)] σ).bind fun r => zq (d + 1) mX3_lost 25 [some (zR (some 36)), some (zI x1)] (r.1.toList ++ []) r.2 := by
  refine Eq.trans (zY_step (by exact rfl) (by exact dX3_lost_18) (by exact rfl) (pc' := 19) (S' := [zR (some 36)]) (by exact rfl) (zcn (by exact rfl))) ?_
  refine Eq.trans (zY_getR (by exact rfl) (by exact dX3_lost_19) (by exact rfl) (by exact rfl) (t := 38) (by exact rfl) (zcn (by exact rfl))) ?_
  exact zY_S (by exact rfl) (by exact dX3_lost_22) (by exact rfl) (by exact Or.inl rfl) (as := [zR (some 38)]) (S' := []) (by exact rfl) (by exact rfl) (by exact Nat.le_of_ble_eq_true rfl) (by exact Nat.le_of_ble_eq_true rfl) (zcn (by exact rfl))
theorem b_X3_lost_25 (d : Nat) (y0 x1 : Int) (σ : zS) : zq d mX3_lost 25 [some (zR (some 36)), some (zI x1)] [zI y0] σ = some (some (zI y0), σ) := by
  exact zq_ret (by exact dX3_lost_25) (by exact rfl) (rv := some (zI y0)) (by exact rfl)
theorem e_X3_best (d : Nat) (x1 : Int) (σ : zS) : zc (d + 1) mX3_best [zR (some 36), zI x1] σ = (if nrm x1 = (-1) then zq (d + 1) mX3_best 16 [some (zR (some 36)), some (zI x1), none] [] σ else (zc d mX3_isRow [zR (some 36), zI x1] σ).bind fun r => zq (d + 1) mX3_best 10 [some (zR (some 36)), some (zI x1), none] (r.1.toList ++ []) r.2) := by
  refine Eq.trans (zc_zq (L := [some (zR (some 36)), some (zI x1), none]) (by exact rfl)) ?_
  refine Eq.trans (zY_step (by exact rfl) (by exact dX3_best_0) (by exact rfl) (pc' := 1) (S' := [zI x1]) (by exact rfl) (zcn (by exact rfl))) ?_
  refine Eq.trans (zY_step (by exact rfl) (by exact dX3_best_1) (by exact rfl) (pc' := 2) (S' := [zI ((-1)), zI x1]) (by exact rfl) (zcn (by exact rfl))) ?_
  refine Eq.trans (zY_ic_eq (by exact rfl) (by exact dX3_best_2) (t := 16) (by exact rfl) (a2 := nrm x1) (b2 := (-1)) (by exact rfl) (by decide) (zcn (by exact rfl)) (zcn (by exact rfl))) (zif ?_ ?_)
  · exact rfl
  · refine Eq.trans (zY_step (by exact rfl) (by exact dX3_best_5) (by exact rfl) (pc' := 6) (S' := [zR (some 36)]) (by exact rfl) (zcn (by exact rfl))) ?_
    refine Eq.trans (zY_step (by exact rfl) (by exact dX3_best_6) (by exact rfl) (pc' := 7) (S' := [zI x1, zR (some 36)]) (by exact rfl) (zcn (by exact rfl))) ?_
    exact zY_V (by exact rfl) (by exact dX3_best_7) (by exact rfl) (as := [zI x1]) (S' := []) (by exact rfl) (by exact rfl) (by exact rfl) (by exact Nat.le_of_ble_eq_true rfl) (by exact Nat.le_of_ble_eq_true rfl) (by exact Nat.le_of_ble_eq_true rfl) (zcn (by exact rfl))
theorem b_X3_best_16 (d : Nat) (x1 : Int) (σ : zS) : zq (d + 1) mX3_best 16 [some (zR (some 36)), some (zI x1), none] [] σ = (zc d mX3_copies [zR (some 37), zR (some 38)] σ).bind fun r => zq (d + 1) mX3_best 27 [some (zR (some 36)), some (zI x1), none] (r.1.toList ++ []) r.2 := by
  refine Eq.trans (zY_step (by exact rfl) (by exact dX3_best_16) (by exact rfl) (pc' := 17) (S' := [zR (some 36)]) (by exact rfl) (zcn (by exact rfl))) ?_
  refine Eq.trans (zY_getR (by exact rfl) (by exact dX3_best_17) (by exact rfl) (by exact rfl) (t := 37) (by exact rfl) (zcn (by exact rfl))) ?_
  refine Eq.trans (zY_step (by exact rfl) (by exact dX3_best_20) (by exact rfl) (pc' := 21) (S' := [zR (some 36), zR (some 37)]) (by exact rfl) (zcn (by exact rfl))) ?_
  refine Eq.trans (zY_getR (by exact rfl) (by exact dX3_best_21) (by exact rfl) (by exact rfl) (t := 38) (by exact rfl) (zcn (by exact rfl))) ?_
  exact zY_S (by exact rfl) (by exact dX3_best_24) (by exact rfl) (by exact Or.inl rfl) (as := [zR (some 37), zR (some 38)]) (S' := []) (by exact rfl) (by exact rfl) (by exact Nat.le_of_ble_eq_true rfl) (by exact Nat.le_of_ble_eq_true rfl) (zcn (by exact rfl))
theorem b_X3_best_10 (d : Nat) (y0 x1 : Int) (σ : zS) : zq d mX3_best 10 [some (zR (some 36)), some (zI x1), none] [zI y0] σ = (if ¬ nrm y0 = 0 then zq d mX3_best 16 [some (zR (some 36)), some (zI x1), none] [] σ else some (some (zI 1000000001), σ)) := by
  refine Eq.trans (zY_if_ne (by exact rfl) (by exact dX3_best_10) (t := 16) (by exact rfl) (a2 := nrm y0) (by exact rfl) (zcn (by exact rfl)) (zcn (by exact rfl))) (zif ?_ ?_)
  · exact rfl
  · refine Eq.trans (zY_step (by exact rfl) (by exact dX3_best_13) (by exact rfl) (pc' := 15) (S' := [zI 1000000001]) (by exact rfl) (zcn (by exact rfl))) ?_
    exact zq_ret (by exact dX3_best_15) (by exact rfl) (rv := some (zI 1000000001)) (by exact rfl)
theorem b_X3_best_27 (d : Nat) (x1 : Int) (σ : zS) : zq d mX3_best 27 [some (zR (some 36)), some (zI x1), none] [] σ = zq d mX3_best 29 [some (zR (some 36)), some (zI x1), some (zI 0)] [] σ := by
  refine Eq.trans (zY_step (by exact rfl) (by exact dX3_best_27) (by exact rfl) (pc' := 28) (S' := [zI 0]) (by exact rfl) (zcn (by exact rfl))) ?_
  exact zY_step (by exact rfl) (by exact dX3_best_28) (by exact rfl) (pc' := 29) (L' := [some (zR (some 36)), some (zI x1), some (zI 0)]) (S' := []) (by exact rfl) (zcn (by exact rfl))
theorem b_X3_best_29 (d : Nat) (x1 x2 : Int) (σ : zS) : zq (d + 1) mX3_best 29 [some (zR (some 36)), some (zI x1), some (zI x2)] [] σ = (if nrm (σ 38 0) ≤ nrm x2 then (if 0 ≤ nrm x1 then (zc d mX3_of [zI x1, zI 2] σ).bind fun r => zq (d + 1) mX3_best 122 [some (zR (some 36)), some (zI x1), some (zI x2)] (r.1.toList ++ [zR (some 38)]) r.2 else (zc d mX3_joyAll [zR (some 38)] σ).bind fun r => zq (d + 1) mX3_best 110 [some (zR (some 36)), some (zI x1), some (zI x2)] (r.1.toList ++ []) r.2) else (zc d mX3_of [zI x2, zI 2] σ).bind fun r => zq (d + 1) mX3_best 48 [some (zR (some 36)), some (zI x1), some (zI x2)] (r.1.toList ++ [zR (some 38)]) r.2) := by
  refine Eq.trans (zY_step (by exact rfl) (by exact dX3_best_29) (by exact rfl) (pc' := 30) (S' := [zI x2]) (by exact rfl) (zcn (by exact rfl))) ?_
  refine Eq.trans (zY_step (by exact rfl) (by exact dX3_best_30) (by exact rfl) (pc' := 31) (S' := [zR (some 36), zI x2]) (by exact rfl) (zcn (by exact rfl))) ?_
  refine Eq.trans (zY_getR (by exact rfl) (by exact dX3_best_31) (by exact rfl) (by exact rfl) (t := 38) (by exact rfl) (zcn (by exact rfl))) ?_
  refine Eq.trans (zY_step (by exact rfl) (by exact dX3_best_34) (by exact rfl) (pc' := 35) (S' := [zI 0, zR (some 38), zI x2]) (by exact rfl) (zcn (by exact rfl))) ?_
  refine Eq.trans (zY_ialdc (by exact rfl) (by exact dX3_best_35) (by exact rfl) (by exact rfl) (j := 0) (by decide) (by decide) (zcn (by exact rfl))) ?_
  refine Eq.trans (zY_ic_ge (by exact rfl) (by exact dX3_best_36) (t := 99) (by exact rfl) (a2 := nrm x2) (b2 := nrm (σ 38 0)) (by exact rfl) (by exact rfl) (zcn (by exact rfl)) (zcn (by exact rfl))) (zif ?_ ?_)
  · refine Eq.trans (zY_step (by exact rfl) (by exact dX3_best_99) (by exact rfl) (pc' := 100) (S' := [zI x1]) (by exact rfl) (zcn (by exact rfl))) ?_
    refine Eq.trans (zY_if_ge (by exact rfl) (by exact dX3_best_100) (t := 113) (by exact rfl) (a2 := nrm x1) (by exact rfl) (zcn (by exact rfl)) (zcn (by exact rfl))) (zif ?_ ?_)
    · refine Eq.trans (zY_step (by exact rfl) (by exact dX3_best_113) (by exact rfl) (pc' := 114) (S' := [zR (some 36)]) (by exact rfl) (zcn (by exact rfl))) ?_
      refine Eq.trans (zY_getR (by exact rfl) (by exact dX3_best_114) (by exact rfl) (by exact rfl) (t := 38) (by exact rfl) (zcn (by exact rfl))) ?_
      refine Eq.trans (zY_step (by exact rfl) (by exact dX3_best_117) (by exact rfl) (pc' := 118) (S' := [zI x1, zR (some 38)]) (by exact rfl) (zcn (by exact rfl))) ?_
      refine Eq.trans (zY_step (by exact rfl) (by exact dX3_best_118) (by exact rfl) (pc' := 119) (S' := [zI 2, zI x1, zR (some 38)]) (by exact rfl) (zcn (by exact rfl))) ?_
      exact zY_S (by exact rfl) (by exact dX3_best_119) (by exact rfl) (by exact Or.inl rfl) (as := [zI x1, zI 2]) (S' := [zR (some 38)]) (by exact rfl) (by exact rfl) (by exact Nat.le_of_ble_eq_true rfl) (by exact Nat.le_of_ble_eq_true rfl) (zcn (by exact rfl))
    · refine Eq.trans (zY_step (by exact rfl) (by exact dX3_best_103) (by exact rfl) (pc' := 104) (S' := [zR (some 36)]) (by exact rfl) (zcn (by exact rfl))) ?_
      refine Eq.trans (zY_getR (by exact rfl) (by exact dX3_best_104) (by exact rfl) (by exact rfl) (t := 38) (by exact rfl) (zcn (by exact rfl))) ?_
      exact zY_S (by exact rfl) (by exact dX3_best_107) (by exact rfl) (by exact Or.inl rfl) (as := [zR (some 38)]) (S' := []) (by exact rfl) (by exact rfl) (by exact Nat.le_of_ble_eq_true rfl) (by exact Nat.le_of_ble_eq_true rfl) (zcn (by exact rfl))
  · refine Eq.trans (zY_step (by exact rfl) (by exact dX3_best_39) (by exact rfl) (pc' := 40) (S' := [zR (some 36)]) (by exact rfl) (zcn (by exact rfl))) ?_
    refine Eq.trans (zY_getR (by exact rfl) (by exact dX3_best_40) (by exact rfl) (by exact rfl) (t := 38) (by exact rfl) (zcn (by exact rfl))) ?_
    refine Eq.trans (zY_step (by exact rfl) (by exact dX3_best_43) (by exact rfl) (pc' := 44) (S' := [zI x2, zR (some 38)]) (by exact rfl) (zcn (by exact rfl))) ?_
    refine Eq.trans (zY_step (by exact rfl) (by exact dX3_best_44) (by exact rfl) (pc' := 45) (S' := [zI 2, zI x2, zR (some 38)]) (by exact rfl) (zcn (by exact rfl))) ?_
    exact zY_S (by exact rfl) (by exact dX3_best_45) (by exact rfl) (by exact Or.inl rfl) (as := [zI x2, zI 2]) (S' := [zR (some 38)]) (by exact rfl) (by exact rfl) (by exact Nat.le_of_ble_eq_true rfl) (by exact Nat.le_of_ble_eq_true rfl) (zcn (by exact rfl))
theorem b_X3_best_122 (d : Nat) (y0 x1 x2 : Int) (σ : zS) : zq d mX3_best 122 [some (zR (some 36)), some (zI x1), some (zI x2)] [zI y0, zR (some 38)] σ = (if zix y0 35 then some (some (zI (σ 38 (nrm y0).toNat)), σ) else none) := by
  refine Eq.trans (zY_iald (by exact rfl) (by exact dX3_best_122) (by exact rfl) (by exact rfl) (by exact rfl)) (zif ?_ rfl)
  · exact zq_ret (by exact dX3_best_123) (by exact rfl) (rv := some (zI (σ 38 (nrm y0).toNat))) (by exact rfl)
theorem b_X3_best_110 (d : Nat) (y0 x1 x2 : Int) (σ : zS) : zq d mX3_best 110 [some (zR (some 36)), some (zI x1), some (zI x2)] [zI y0] σ = some (some (zI y0), σ) := by
  refine Eq.trans (zY_step (by exact rfl) (by exact dX3_best_110) (by exact rfl) (pc' := 123) (S' := [zI y0]) (L2 := [none, none, none]) (by exact rfl) (by exact rfl)) ?_
  exact zq_ret (by exact dX3_best_123) (by exact rfl) (rv := some (zI y0)) (by exact rfl)
theorem b_X3_best_48 (d : Nat) (y0 x1 x2 : Int) (σ : zS) : zq (d + 1) mX3_best 48 [some (zR (some 36)), some (zI x1), some (zI x2)] [zI y0, zR (some 38)] σ = (zc d mX3_can [zR (some 38), zI x2] σ).bind fun r => zq (d + 1) mX3_best 56 [some (zR (some 36)), some (zI x1), some (zI x2)] (r.1.toList ++ [zI y0, zR (some 38)]) r.2 := by
  refine Eq.trans (zY_step (by exact rfl) (by exact dX3_best_48) (by exact rfl) (pc' := 49) (S' := [zR (some 36), zI y0, zR (some 38)]) (by exact rfl) (zcn (by exact rfl))) ?_
  refine Eq.trans (zY_getR (by exact rfl) (by exact dX3_best_49) (by exact rfl) (by exact rfl) (t := 38) (by exact rfl) (zcn (by exact rfl))) ?_
  refine Eq.trans (zY_step (by exact rfl) (by exact dX3_best_52) (by exact rfl) (pc' := 53) (S' := [zI x2, zR (some 38), zI y0, zR (some 38)]) (by exact rfl) (zcn (by exact rfl))) ?_
  exact zY_S (by exact rfl) (by exact dX3_best_53) (by exact rfl) (by exact Or.inl rfl) (as := [zR (some 38), zI x2]) (S' := [zI y0, zR (some 38)]) (by exact rfl) (by exact rfl) (by exact Nat.le_of_ble_eq_true rfl) (by exact Nat.le_of_ble_eq_true rfl) (zcn (by exact rfl))
theorem b_X3_best_56 (d : Nat) (y0 y1 x1 x2 : Int) (σ : zS) : zq (d + 1) mX3_best 56 [some (zR (some 36)), some (zI x1), some (zI x2)] [zI y0, zI y1, zR (some 38)] σ = (if nrm y0 ≤ 0 then zq (d + 1) mX3_best 91 [some (zR (some 36)), some (zI x1), some (zI x2)] [zI y1, zR (some 38)] σ else (zc d mX3_worthOf [zR (some 38), zI x2] σ).bind fun r => zq (d + 1) mX3_best 67 [some (zR (some 36)), some (zI x1), some (zI x2)] (r.1.toList ++ [zI y1, zR (some 38)]) r.2) := by
  refine Eq.trans (zY_if_le (by exact rfl) (by exact dX3_best_56) (t := 91) (by exact rfl) (a2 := nrm y0) (by exact rfl) (zcn (by exact rfl)) (zcn (by exact rfl))) (zif ?_ ?_)
  · exact rfl
  · refine Eq.trans (zY_step (by exact rfl) (by exact dX3_best_59) (by exact rfl) (pc' := 60) (S' := [zR (some 36), zI y1, zR (some 38)]) (by exact rfl) (zcn (by exact rfl))) ?_
    refine Eq.trans (zY_getR (by exact rfl) (by exact dX3_best_60) (by exact rfl) (by exact rfl) (t := 38) (by exact rfl) (zcn (by exact rfl))) ?_
    refine Eq.trans (zY_step (by exact rfl) (by exact dX3_best_63) (by exact rfl) (pc' := 64) (S' := [zI x2, zR (some 38), zI y1, zR (some 38)]) (by exact rfl) (zcn (by exact rfl))) ?_
    exact zY_S (by exact rfl) (by exact dX3_best_64) (by exact rfl) (by exact Or.inl rfl) (as := [zR (some 38), zI x2]) (S' := [zI y1, zR (some 38)]) (by exact rfl) (by exact rfl) (by exact Nat.le_of_ble_eq_true rfl) (by exact Nat.le_of_ble_eq_true rfl) (zcn (by exact rfl))
theorem b_X3_best_91 (d : Nat) (y0 x1 x2 : Int) (σ : zS) : zq d mX3_best 91 [some (zR (some 36)), some (zI x1), some (zI x2)] [zI y0, zR (some 38)] σ = zq d mX3_best 92 [some (zR (some 36)), some (zI x1), some (zI x2)] [zI 0, zI y0, zR (some 38)] σ := by
  exact zY_step (by exact rfl) (by exact dX3_best_91) (by exact rfl) (pc' := 92) (S' := [zI 0, zI y0, zR (some 38)]) (by exact rfl) (zcn (by exact rfl))
theorem b_X3_best_67 (d : Nat) (y0 y1 x1 x2 : Int) (σ : zS) : zq (d + 1) mX3_best 67 [some (zR (some 36)), some (zI x1), some (zI x2)] [zI y0, zI y1, zR (some 38)] σ = (zc d mX3_worthOf [zR (some 38), zI (x2 + 1)] σ).bind fun r => zq (d + 1) mX3_best 77 [some (zR (some 36)), some (zI x1), some (zI x2)] (r.1.toList ++ [zI y0, zI y1, zR (some 38)]) r.2 := by
  refine Eq.trans (zY_step (by exact rfl) (by exact dX3_best_67) (by exact rfl) (pc' := 68) (S' := [zR (some 36), zI y0, zI y1, zR (some 38)]) (by exact rfl) (zcn (by exact rfl))) ?_
  refine Eq.trans (zY_getR (by exact rfl) (by exact dX3_best_68) (by exact rfl) (by exact rfl) (t := 38) (by exact rfl) (zcn (by exact rfl))) ?_
  refine Eq.trans (zY_step (by exact rfl) (by exact dX3_best_71) (by exact rfl) (pc' := 72) (S' := [zI x2, zR (some 38), zI y0, zI y1, zR (some 38)]) (by exact rfl) (zcn (by exact rfl))) ?_
  refine Eq.trans (zY_step (by exact rfl) (by exact dX3_best_72) (by exact rfl) (pc' := 73) (S' := [zI 1, zI x2, zR (some 38), zI y0, zI y1, zR (some 38)]) (by exact rfl) (zcn (by exact rfl))) ?_
  refine Eq.trans (zY_step (by exact rfl) (by exact dX3_best_73) (by exact rfl) (pc' := 74) (S' := [zI (x2 + 1), zR (some 38), zI y0, zI y1, zR (some 38)]) (by exact rfl) (zcn (by exact rfl))) ?_
  exact zY_S (by exact rfl) (by exact dX3_best_74) (by exact rfl) (by exact Or.inl rfl) (as := [zR (some 38), zI (x2 + 1)]) (S' := [zI y0, zI y1, zR (some 38)]) (by exact rfl) (by exact rfl) (by exact Nat.le_of_ble_eq_true rfl) (by exact Nat.le_of_ble_eq_true rfl) (zcn (by exact rfl))
theorem b_X3_best_92 (d : Nat) (y0 y1 x1 x2 : Int) (σ : zS) : zq d mX3_best 92 [some (zR (some 36)), some (zI x1), some (zI x2)] [zI y0, zI y1, zR (some 38)] σ = (if zix y1 35 then zq d mX3_best 29 [some (zR (some 36)), some (zI x1), some (zI (x2 + 1))] [] (zup σ 38 (nrm y1).toNat y0) else none) := by
  refine Eq.trans (zY_iast (by exact rfl) (by exact dX3_best_92) (by exact rfl) (by exact rfl) (zcn (by exact rfl))) (zif ?_ rfl)
  · refine Eq.trans (zY_step (by exact rfl) (by exact dX3_best_93) (by exact rfl) (pc' := 96) (L' := [some (zR (some 36)), some (zI x1), some (zI (x2 + 1))]) (S' := []) (by exact rfl) (zcn (by exact rfl))) ?_
    exact zY_step (by exact rfl) (by exact dX3_best_96) (by exact rfl) (pc' := 29) (S' := []) (by exact rfl) (zcn (by exact rfl))
theorem b_X3_best_77 (d : Nat) (y0 y1 y2 x1 x2 : Int) (σ : zS) : zq (d + 1) mX3_best 77 [some (zR (some 36)), some (zI x1), some (zI x2)] [zI y0, zI y1, zI y2, zR (some 38)] σ = (if nrm y1 ≤ nrm y0 then zq (d + 1) mX3_best 91 [some (zR (some 36)), some (zI x1), some (zI x2)] [zI y2, zR (some 38)] σ else (zc d mX3_can [zR (some 38), zI x2] σ).bind fun r => zq (d + 1) mX3_best 88 [some (zR (some 36)), some (zI x1), some (zI x2)] (r.1.toList ++ [zI y2, zR (some 38)]) r.2) := by
  refine Eq.trans (zY_ic_le (by exact rfl) (by exact dX3_best_77) (t := 91) (by exact rfl) (a2 := nrm y1) (b2 := nrm y0) (by exact rfl) (by exact rfl) (zcn (by exact rfl)) (zcn (by exact rfl))) (zif ?_ ?_)
  · exact rfl
  · refine Eq.trans (zY_step (by exact rfl) (by exact dX3_best_80) (by exact rfl) (pc' := 81) (S' := [zR (some 36), zI y2, zR (some 38)]) (by exact rfl) (zcn (by exact rfl))) ?_
    refine Eq.trans (zY_getR (by exact rfl) (by exact dX3_best_81) (by exact rfl) (by exact rfl) (t := 38) (by exact rfl) (zcn (by exact rfl))) ?_
    refine Eq.trans (zY_step (by exact rfl) (by exact dX3_best_84) (by exact rfl) (pc' := 85) (S' := [zI x2, zR (some 38), zI y2, zR (some 38)]) (by exact rfl) (zcn (by exact rfl))) ?_
    exact zY_S (by exact rfl) (by exact dX3_best_85) (by exact rfl) (by exact Or.inl rfl) (as := [zR (some 38), zI x2]) (S' := [zI y2, zR (some 38)]) (by exact rfl) (by exact rfl) (by exact Nat.le_of_ble_eq_true rfl) (by exact Nat.le_of_ble_eq_true rfl) (zcn (by exact rfl))
theorem b_X3_best_88 (d : Nat) (y0 y1 x1 x2 : Int) (σ : zS) : zq d mX3_best 88 [some (zR (some 36)), some (zI x1), some (zI x2)] [zI y0, zI y1, zR (some 38)] σ = zq d mX3_best 92 [some (zR (some 36)), some (zI x1), some (zI x2)] [zI y0, zI y1, zR (some 38)] σ := by
  exact zY_step (by exact rfl) (by exact dX3_best_88) (by exact rfl) (pc' := 92) (S' := [zI y0, zI y1, zR (some 38)]) (by exact rfl) (zcn (by exact rfl))
theorem e_X3_joyBy (d : Nat) (x1 : Int) (σ : zS) : zc (d + 1) mX3_joyBy [zR (some 36), zI x1] σ = (if ¬ nrm x1 = 1 then (if ¬ nrm x1 = 0 then (zc d mX3_copies [zR (some 37), zR (some 38)] σ).bind fun r => zq (d + 1) mX3_joyBy 36 [some (zR (some 36)), some (zI x1), none] (r.1.toList ++ []) r.2 else (zc d mX3_takes [zR (some 36), zI 60] σ).bind fun r => zq (d + 1) mX3_joyBy 17 [some (zR (some 36)), some (zI x1), none] (r.1.toList ++ []) r.2) else some (some (zI 0), σ)) := by
  refine Eq.trans (zc_zq (L := [some (zR (some 36)), some (zI x1), none]) (by exact rfl)) ?_
  refine Eq.trans (zY_step (by exact rfl) (by exact dX3_joyBy_0) (by exact rfl) (pc' := 1) (S' := [zI x1]) (by exact rfl) (zcn (by exact rfl))) ?_
  refine Eq.trans (zY_step (by exact rfl) (by exact dX3_joyBy_1) (by exact rfl) (pc' := 2) (S' := [zI 1, zI x1]) (by exact rfl) (zcn (by exact rfl))) ?_
  refine Eq.trans (zY_ic_ne (by exact rfl) (by exact dX3_joyBy_2) (t := 7) (by exact rfl) (a2 := nrm x1) (b2 := 1) (by exact rfl) (by decide) (zcn (by exact rfl)) (zcn (by exact rfl))) (zif ?_ ?_)
  · refine Eq.trans (zY_step (by exact rfl) (by exact dX3_joyBy_7) (by exact rfl) (pc' := 8) (S' := [zI x1]) (by exact rfl) (zcn (by exact rfl))) ?_
    refine Eq.trans (zY_if_ne (by exact rfl) (by exact dX3_joyBy_8) (t := 25) (by exact rfl) (a2 := nrm x1) (by exact rfl) (zcn (by exact rfl)) (zcn (by exact rfl))) (zif ?_ ?_)
    · refine Eq.trans (zY_step (by exact rfl) (by exact dX3_joyBy_25) (by exact rfl) (pc' := 26) (S' := [zR (some 36)]) (by exact rfl) (zcn (by exact rfl))) ?_
      refine Eq.trans (zY_getR (by exact rfl) (by exact dX3_joyBy_26) (by exact rfl) (by exact rfl) (t := 37) (by exact rfl) (zcn (by exact rfl))) ?_
      refine Eq.trans (zY_step (by exact rfl) (by exact dX3_joyBy_29) (by exact rfl) (pc' := 30) (S' := [zR (some 36), zR (some 37)]) (by exact rfl) (zcn (by exact rfl))) ?_
      refine Eq.trans (zY_getR (by exact rfl) (by exact dX3_joyBy_30) (by exact rfl) (by exact rfl) (t := 38) (by exact rfl) (zcn (by exact rfl))) ?_
      exact zY_S (by exact rfl) (by exact dX3_joyBy_33) (by exact rfl) (by exact Or.inl rfl) (as := [zR (some 37), zR (some 38)]) (S' := []) (by exact rfl) (by exact rfl) (by exact Nat.le_of_ble_eq_true rfl) (by exact Nat.le_of_ble_eq_true rfl) (zcn (by exact rfl))
    · refine Eq.trans (zY_step (by exact rfl) (by exact dX3_joyBy_11) (by exact rfl) (pc' := 12) (S' := [zR (some 36)]) (by exact rfl) (zcn (by exact rfl))) ?_
      refine Eq.trans (zY_step (by exact rfl) (by exact dX3_joyBy_12) (by exact rfl) (pc' := 14) (S' := [zI 60, zR (some 36)]) (by exact rfl) (zcn (by exact rfl))) ?_
      exact zY_V (by exact rfl) (by exact dX3_joyBy_14) (by exact rfl) (as := [zI 60]) (S' := []) (by exact rfl) (by exact rfl) (by exact rfl) (by exact Nat.le_of_ble_eq_true rfl) (by exact Nat.le_of_ble_eq_true rfl) (by exact Nat.le_of_ble_eq_true rfl) (zcn (by exact rfl))
  · refine Eq.trans (zY_step (by exact rfl) (by exact dX3_joyBy_5) (by exact rfl) (pc' := 6) (S' := [zI 0]) (by exact rfl) (zcn (by exact rfl))) ?_
    exact zq_ret (by exact dX3_joyBy_6) (by exact rfl) (rv := some (zI 0)) (by exact rfl)
theorem b_X3_joyBy_36 (d : Nat) (x1 : Int) (σ : zS) : zq d mX3_joyBy 36 [some (zR (some 36)), some (zI x1), none] [] σ = zq d mX3_joyBy 38 [some (zR (some 36)), none, some (zI 0)] [] σ := by
  refine Eq.trans (zY_step (by exact rfl) (by exact dX3_joyBy_36) (by exact rfl) (pc' := 37) (S' := [zI 0]) (by exact rfl) (zcn (by exact rfl))) ?_
  exact zY_step (by exact rfl) (by exact dX3_joyBy_37) (by exact rfl) (pc' := 38) (L' := [some (zR (some 36)), some (zI x1), some (zI 0)]) (S' := []) (L2 := [some (zR (some 36)), none, some (zI 0)]) (by exact rfl) (by exact rfl)
theorem b_X3_joyBy_17 (d : Nat) (x1 : Int) (σ : zS) : zq (d + 1) mX3_joyBy 17 [some (zR (some 36)), some (zI x1), none] [] σ = (zc d mX3_joyAll [zR (some 38)] σ).bind fun r => zq (d + 1) mX3_joyBy 24 [some (zR (some 36)), some (zI x1), none] (r.1.toList ++ []) r.2 := by
  refine Eq.trans (zY_step (by exact rfl) (by exact dX3_joyBy_17) (by exact rfl) (pc' := 18) (S' := [zR (some 36)]) (by exact rfl) (zcn (by exact rfl))) ?_
  refine Eq.trans (zY_getR (by exact rfl) (by exact dX3_joyBy_18) (by exact rfl) (by exact rfl) (t := 38) (by exact rfl) (zcn (by exact rfl))) ?_
  exact zY_S (by exact rfl) (by exact dX3_joyBy_21) (by exact rfl) (by exact Or.inl rfl) (as := [zR (some 38)]) (S' := []) (by exact rfl) (by exact rfl) (by exact Nat.le_of_ble_eq_true rfl) (by exact Nat.le_of_ble_eq_true rfl) (zcn (by exact rfl))
theorem b_X3_joyBy_38 (d : Nat) (x2 : Int) (σ : zS) : zq (d + 1) mX3_joyBy 38 [some (zR (some 36)), none, some (zI x2)] [] σ = (if nrm (σ 38 0) ≤ nrm x2 then (zc d mX3_joyAll [zR (some 38)] σ).bind fun r => zq (d + 1) mX3_joyBy 79 [some (zR (some 36)), none, some (zI x2)] (r.1.toList ++ []) r.2 else (zc d mX3_of [zI x2, zI 2] σ).bind fun r => zq (d + 1) mX3_joyBy 57 [some (zR (some 36)), none, some (zI x2)] (r.1.toList ++ [zR (some 38)]) r.2) := by
  refine Eq.trans (zY_step (by exact rfl) (by exact dX3_joyBy_38) (by exact rfl) (pc' := 39) (S' := [zI x2]) (by exact rfl) (zcn (by exact rfl))) ?_
  refine Eq.trans (zY_step (by exact rfl) (by exact dX3_joyBy_39) (by exact rfl) (pc' := 40) (S' := [zR (some 36), zI x2]) (by exact rfl) (zcn (by exact rfl))) ?_
  refine Eq.trans (zY_getR (by exact rfl) (by exact dX3_joyBy_40) (by exact rfl) (by exact rfl) (t := 38) (by exact rfl) (zcn (by exact rfl))) ?_
  refine Eq.trans (zY_step (by exact rfl) (by exact dX3_joyBy_43) (by exact rfl) (pc' := 44) (S' := [zI 0, zR (some 38), zI x2]) (by exact rfl) (zcn (by exact rfl))) ?_
  refine Eq.trans (zY_ialdc (by exact rfl) (by exact dX3_joyBy_44) (by exact rfl) (by exact rfl) (j := 0) (by decide) (by decide) (zcn (by exact rfl))) ?_
  refine Eq.trans (zY_ic_ge (by exact rfl) (by exact dX3_joyBy_45) (t := 72) (by exact rfl) (a2 := nrm x2) (b2 := nrm (σ 38 0)) (by exact rfl) (by exact rfl) (zcn (by exact rfl)) (zcn (by exact rfl))) (zif ?_ ?_)
  · refine Eq.trans (zY_step (by exact rfl) (by exact dX3_joyBy_72) (by exact rfl) (pc' := 73) (S' := [zR (some 36)]) (by exact rfl) (zcn (by exact rfl))) ?_
    refine Eq.trans (zY_getR (by exact rfl) (by exact dX3_joyBy_73) (by exact rfl) (by exact rfl) (t := 38) (by exact rfl) (zcn (by exact rfl))) ?_
    exact zY_S (by exact rfl) (by exact dX3_joyBy_76) (by exact rfl) (by exact Or.inl rfl) (as := [zR (some 38)]) (S' := []) (by exact rfl) (by exact rfl) (by exact Nat.le_of_ble_eq_true rfl) (by exact Nat.le_of_ble_eq_true rfl) (zcn (by exact rfl))
  · refine Eq.trans (zY_step (by exact rfl) (by exact dX3_joyBy_48) (by exact rfl) (pc' := 49) (S' := [zR (some 36)]) (by exact rfl) (zcn (by exact rfl))) ?_
    refine Eq.trans (zY_getR (by exact rfl) (by exact dX3_joyBy_49) (by exact rfl) (by exact rfl) (t := 38) (by exact rfl) (zcn (by exact rfl))) ?_
    refine Eq.trans (zY_step (by exact rfl) (by exact dX3_joyBy_52) (by exact rfl) (pc' := 53) (S' := [zI x2, zR (some 38)]) (by exact rfl) (zcn (by exact rfl))) ?_
    refine Eq.trans (zY_step (by exact rfl) (by exact dX3_joyBy_53) (by exact rfl) (pc' := 54) (S' := [zI 2, zI x2, zR (some 38)]) (by exact rfl) (zcn (by exact rfl))) ?_
    exact zY_S (by exact rfl) (by exact dX3_joyBy_54) (by exact rfl) (by exact Or.inl rfl) (as := [zI x2, zI 2]) (S' := [zR (some 38)]) (by exact rfl) (by exact rfl) (by exact Nat.le_of_ble_eq_true rfl) (by exact Nat.le_of_ble_eq_true rfl) (zcn (by exact rfl))
theorem b_X3_joyBy_24 (d : Nat) (y0 x1 : Int) (σ : zS) : zq d mX3_joyBy 24 [some (zR (some 36)), some (zI x1), none] [zI y0] σ = some (some (zI y0), σ) := by
  exact zq_ret (by exact dX3_joyBy_24) (by exact rfl) (rv := some (zI y0)) (by exact rfl)
theorem b_X3_joyBy_79 (d : Nat) (y0 x2 : Int) (σ : zS) : zq d mX3_joyBy 79 [some (zR (some 36)), none, some (zI x2)] [zI y0] σ = some (some (zI y0), σ) := by
  exact zq_ret (by exact dX3_joyBy_79) (by exact rfl) (rv := some (zI y0)) (by exact rfl)
theorem b_X3_joyBy_57 (d : Nat) (y0 x2 : Int) (σ : zS) : zq (d + 1) mX3_joyBy 57 [some (zR (some 36)), none, some (zI x2)] [zI y0, zR (some 38)] σ = (zc d mX3_can [zR (some 38), zI x2] σ).bind fun r => zq (d + 1) mX3_joyBy 65 [some (zR (some 36)), none, some (zI x2)] (r.1.toList ++ [zI y0, zR (some 38)]) r.2 := by
  refine Eq.trans (zY_step (by exact rfl) (by exact dX3_joyBy_57) (by exact rfl) (pc' := 58) (S' := [zR (some 36), zI y0, zR (some 38)]) (by exact rfl) (zcn (by exact rfl))) ?_
  refine Eq.trans (zY_getR (by exact rfl) (by exact dX3_joyBy_58) (by exact rfl) (by exact rfl) (t := 38) (by exact rfl) (zcn (by exact rfl))) ?_
  refine Eq.trans (zY_step (by exact rfl) (by exact dX3_joyBy_61) (by exact rfl) (pc' := 62) (S' := [zI x2, zR (some 38), zI y0, zR (some 38)]) (by exact rfl) (zcn (by exact rfl))) ?_
  exact zY_S (by exact rfl) (by exact dX3_joyBy_62) (by exact rfl) (by exact Or.inl rfl) (as := [zR (some 38), zI x2]) (S' := [zI y0, zR (some 38)]) (by exact rfl) (by exact rfl) (by exact Nat.le_of_ble_eq_true rfl) (by exact Nat.le_of_ble_eq_true rfl) (zcn (by exact rfl))
theorem b_X3_joyBy_65 (d : Nat) (y0 y1 x2 : Int) (σ : zS) : zq d mX3_joyBy 65 [some (zR (some 36)), none, some (zI x2)] [zI y0, zI y1, zR (some 38)] σ = (if zix y1 35 then zq d mX3_joyBy 38 [some (zR (some 36)), none, some (zI (x2 + 1))] [] (zup σ 38 (nrm y1).toNat y0) else none) := by
  refine Eq.trans (zY_iast (by exact rfl) (by exact dX3_joyBy_65) (by exact rfl) (by exact rfl) (zcn (by exact rfl))) (zif ?_ rfl)
  · refine Eq.trans (zY_step (by exact rfl) (by exact dX3_joyBy_66) (by exact rfl) (pc' := 69) (L' := [some (zR (some 36)), none, some (zI (x2 + 1))]) (S' := []) (by exact rfl) (zcn (by exact rfl))) ?_
    exact zY_step (by exact rfl) (by exact dX3_joyBy_69) (by exact rfl) (pc' := 38) (S' := []) (L2 := [some (zR (some 36)), none, some (zI (x2 + 1))]) (by exact rfl) (by exact rfl)
theorem e_X3_laws (d : Nat) (x1 : Int) (σ : zS) : zc (d + 1) mX3_laws [zR (some 36), zI x1] σ = (zc d mX3_isIn [zI x1, zI ((-1)), zI 2] σ).bind fun r => zq (d + 1) mX3_laws 6 [some (zR (some 36)), some (zI x1), none, none] (r.1.toList ++ []) r.2 := by
  refine Eq.trans (zc_zq (L := [some (zR (some 36)), some (zI x1), none, none]) (by exact rfl)) ?_
  refine Eq.trans (zY_step (by exact rfl) (by exact dX3_laws_0) (by exact rfl) (pc' := 1) (S' := [zI x1]) (by exact rfl) (zcn (by exact rfl))) ?_
  refine Eq.trans (zY_step (by exact rfl) (by exact dX3_laws_1) (by exact rfl) (pc' := 2) (S' := [zI ((-1)), zI x1]) (by exact rfl) (zcn (by exact rfl))) ?_
  refine Eq.trans (zY_step (by exact rfl) (by exact dX3_laws_2) (by exact rfl) (pc' := 3) (S' := [zI 2, zI ((-1)), zI x1]) (by exact rfl) (zcn (by exact rfl))) ?_
  exact zY_S (by exact rfl) (by exact dX3_laws_3) (by exact rfl) (by exact Or.inl rfl) (as := [zI x1, zI ((-1)), zI 2]) (S' := []) (by exact rfl) (by exact rfl) (by exact Nat.le_of_ble_eq_true rfl) (by exact Nat.le_of_ble_eq_true rfl) (zcn (by exact rfl))
theorem b_X3_laws_6 (d : Nat) (y0 x1 : Int) (σ : zS) : zq (d + 1) mX3_laws 6 [some (zR (some 36)), some (zI x1), none, none] [zI y0] σ = (if ¬ nrm y0 = 0 then (if nrm x1 < 0 then zq (d + 1) mX3_laws 26 [some (zR (some 36)), none, some (zI 0), some (zI 1)] [] σ else (zc d mX3_joyBy [zR (some 36), zI x1] σ).bind fun r => zq (d + 1) mX3_laws 21 [some (zR (some 36)), some (zI x1), none, none] (r.1.toList ++ []) r.2) else some (some (zI 1000000001), σ)) := by
  refine Eq.trans (zY_if_ne (by exact rfl) (by exact dX3_laws_6) (t := 12) (by exact rfl) (a2 := nrm y0) (by exact rfl) (zcn (by exact rfl)) (zcn (by exact rfl))) (zif ?_ ?_)
  · refine Eq.trans (zY_step (by exact rfl) (by exact dX3_laws_12) (by exact rfl) (pc' := 13) (S' := [zI x1]) (by exact rfl) (zcn (by exact rfl))) ?_
    refine Eq.trans (zY_if_lt (by exact rfl) (by exact dX3_laws_13) (t := 22) (by exact rfl) (a2 := nrm x1) (by exact rfl) (zcn (by exact rfl)) (zcn (by exact rfl))) (zif ?_ ?_)
    · refine Eq.trans (zY_step (by exact rfl) (by exact dX3_laws_22) (by exact rfl) (pc' := 23) (S' := [zI 0]) (by exact rfl) (zcn (by exact rfl))) ?_
      refine Eq.trans (zY_step (by exact rfl) (by exact dX3_laws_23) (by exact rfl) (pc' := 24) (L' := [some (zR (some 36)), some (zI x1), some (zI 0), none]) (S' := []) (by exact rfl) (zcn (by exact rfl))) ?_
      refine Eq.trans (zY_step (by exact rfl) (by exact dX3_laws_24) (by exact rfl) (pc' := 25) (S' := [zI 1]) (by exact rfl) (zcn (by exact rfl))) ?_
      exact zY_step (by exact rfl) (by exact dX3_laws_25) (by exact rfl) (pc' := 26) (L' := [some (zR (some 36)), some (zI x1), some (zI 0), some (zI 1)]) (S' := []) (L2 := [some (zR (some 36)), none, some (zI 0), some (zI 1)]) (by exact rfl) (by exact rfl)
    · refine Eq.trans (zY_step (by exact rfl) (by exact dX3_laws_16) (by exact rfl) (pc' := 17) (S' := [zR (some 36)]) (by exact rfl) (zcn (by exact rfl))) ?_
      refine Eq.trans (zY_step (by exact rfl) (by exact dX3_laws_17) (by exact rfl) (pc' := 18) (S' := [zI x1, zR (some 36)]) (by exact rfl) (zcn (by exact rfl))) ?_
      exact zY_V (by exact rfl) (by exact dX3_laws_18) (by exact rfl) (as := [zI x1]) (S' := []) (by exact rfl) (by exact rfl) (by exact rfl) (by exact Nat.le_of_ble_eq_true rfl) (by exact Nat.le_of_ble_eq_true rfl) (by exact Nat.le_of_ble_eq_true rfl) (zcn (by exact rfl))
  · refine Eq.trans (zY_step (by exact rfl) (by exact dX3_laws_9) (by exact rfl) (pc' := 11) (S' := [zI 1000000001]) (by exact rfl) (zcn (by exact rfl))) ?_
    exact zq_ret (by exact dX3_laws_11) (by exact rfl) (rv := some (zI 1000000001)) (by exact rfl)
theorem b_X3_laws_26 (d : Nat) (x2 x3 : Int) (σ : zS) : zq (d + 1) mX3_laws 26 [some (zR (some 36)), none, some (zI x2), some (zI x3)] [] σ = (if 3 ≤ nrm x3 then some (some (zI x2), σ) else (zc d mX3_joyBy [zR (some 36), zI x3] σ).bind fun r => zq (d + 1) mX3_laws 36 [some (zR (some 36)), none, some (zI x2), some (zI x3)] (r.1.toList ++ []) r.2) := by
  refine Eq.trans (zY_step (by exact rfl) (by exact dX3_laws_26) (by exact rfl) (pc' := 27) (S' := [zI x3]) (by exact rfl) (zcn (by exact rfl))) ?_
  refine Eq.trans (zY_step (by exact rfl) (by exact dX3_laws_27) (by exact rfl) (pc' := 28) (S' := [zI 3, zI x3]) (by exact rfl) (zcn (by exact rfl))) ?_
  refine Eq.trans (zY_ic_ge (by exact rfl) (by exact dX3_laws_28) (t := 52) (by exact rfl) (a2 := nrm x3) (b2 := 3) (by exact rfl) (by decide) (zcn (by exact rfl)) (zcn (by exact rfl))) (zif ?_ ?_)
  · refine Eq.trans (zY_step (by exact rfl) (by exact dX3_laws_52) (by exact rfl) (pc' := 53) (S' := [zI x2]) (by exact rfl) (zcn (by exact rfl))) ?_
    exact zq_ret (by exact dX3_laws_53) (by exact rfl) (rv := some (zI x2)) (by exact rfl)
  · refine Eq.trans (zY_step (by exact rfl) (by exact dX3_laws_31) (by exact rfl) (pc' := 32) (S' := [zR (some 36)]) (by exact rfl) (zcn (by exact rfl))) ?_
    refine Eq.trans (zY_step (by exact rfl) (by exact dX3_laws_32) (by exact rfl) (pc' := 33) (S' := [zI x3, zR (some 36)]) (by exact rfl) (zcn (by exact rfl))) ?_
    exact zY_V (by exact rfl) (by exact dX3_laws_33) (by exact rfl) (as := [zI x3]) (S' := []) (by exact rfl) (by exact rfl) (by exact rfl) (by exact Nat.le_of_ble_eq_true rfl) (by exact Nat.le_of_ble_eq_true rfl) (by exact Nat.le_of_ble_eq_true rfl) (zcn (by exact rfl))
theorem b_X3_laws_21 (d : Nat) (y0 x1 : Int) (σ : zS) : zq d mX3_laws 21 [some (zR (some 36)), some (zI x1), none, none] [zI y0] σ = some (some (zI y0), σ) := by
  exact zq_ret (by exact dX3_laws_21) (by exact rfl) (rv := some (zI y0)) (by exact rfl)
theorem b_X3_laws_36 (d : Nat) (y0 x2 x3 : Int) (σ : zS) : zq (d + 1) mX3_laws 36 [some (zR (some 36)), none, some (zI x2), some (zI x3)] [zI y0] σ = (zc d mX3_joyBy [zR (some 36), zI x2] σ).bind fun r => zq (d + 1) mX3_laws 41 [some (zR (some 36)), none, some (zI x2), some (zI x3)] (r.1.toList ++ [zI y0]) r.2 := by
  refine Eq.trans (zY_step (by exact rfl) (by exact dX3_laws_36) (by exact rfl) (pc' := 37) (S' := [zR (some 36), zI y0]) (by exact rfl) (zcn (by exact rfl))) ?_
  refine Eq.trans (zY_step (by exact rfl) (by exact dX3_laws_37) (by exact rfl) (pc' := 38) (S' := [zI x2, zR (some 36), zI y0]) (by exact rfl) (zcn (by exact rfl))) ?_
  exact zY_V (by exact rfl) (by exact dX3_laws_38) (by exact rfl) (as := [zI x2]) (S' := [zI y0]) (by exact rfl) (by exact rfl) (by exact rfl) (by exact Nat.le_of_ble_eq_true rfl) (by exact Nat.le_of_ble_eq_true rfl) (by exact Nat.le_of_ble_eq_true rfl) (zcn (by exact rfl))
theorem b_X3_laws_41 (d : Nat) (y0 y1 x2 x3 : Int) (σ : zS) : zq d mX3_laws 41 [some (zR (some 36)), none, some (zI x2), some (zI x3)] [zI y0, zI y1] σ = (if nrm y1 ≤ nrm y0 then zq d mX3_laws 46 [some (zR (some 36)), none, some (zI x2), some (zI x3)] [] σ else zq d mX3_laws 46 [some (zR (some 36)), none, some (zI x3), some (zI x3)] [] σ) := by
  refine Eq.trans (zY_ic_le (by exact rfl) (by exact dX3_laws_41) (t := 46) (by exact rfl) (a2 := nrm y1) (b2 := nrm y0) (by exact rfl) (by exact rfl) (zcn (by exact rfl)) (zcn (by exact rfl))) (zif ?_ ?_)
  · exact rfl
  · refine Eq.trans (zY_step (by exact rfl) (by exact dX3_laws_44) (by exact rfl) (pc' := 45) (S' := [zI x3]) (by exact rfl) (zcn (by exact rfl))) ?_
    exact zY_step (by exact rfl) (by exact dX3_laws_45) (by exact rfl) (pc' := 46) (L' := [some (zR (some 36)), none, some (zI x3), some (zI x3)]) (S' := []) (by exact rfl) (zcn (by exact rfl))
theorem b_X3_laws_46 (d : Nat) (x2 x3 : Int) (σ : zS) : zq d mX3_laws 46 [some (zR (some 36)), none, some (zI x2), some (zI x3)] [] σ = zq d mX3_laws 26 [some (zR (some 36)), none, some (zI x2), some (zI (x3 + 1))] [] σ := by
  refine Eq.trans (zY_step (by exact rfl) (by exact dX3_laws_46) (by exact rfl) (pc' := 49) (L' := [some (zR (some 36)), none, some (zI x2), some (zI (x3 + 1))]) (S' := []) (by exact rfl) (zcn (by exact rfl))) ?_
  exact zY_step (by exact rfl) (by exact dX3_laws_49) (by exact rfl) (pc' := 26) (S' := []) (L2 := [some (zR (some 36)), none, some (zI x2), some (zI (x3 + 1))]) (by exact rfl) (by exact rfl)
theorem e_X3_pays (d : Nat) (x1 : Int) (σ : zS) : zc (d + 1) mX3_pays [zR (some 36), zI x1] σ = (zc d mX3_isIn [zI x1, zI 0, zI ((σ 37 0) - 2)] σ).bind fun r => zq (d + 1) mX3_pays 13 [some (zR (some 36)), some (zI x1)] (r.1.toList ++ []) r.2 := by
  refine Eq.trans (zc_zq (L := [some (zR (some 36)), some (zI x1)]) (by exact rfl)) ?_
  refine Eq.trans (zY_step (by exact rfl) (by exact dX3_pays_0) (by exact rfl) (pc' := 1) (S' := [zI x1]) (by exact rfl) (zcn (by exact rfl))) ?_
  refine Eq.trans (zY_step (by exact rfl) (by exact dX3_pays_1) (by exact rfl) (pc' := 2) (S' := [zI 0, zI x1]) (by exact rfl) (zcn (by exact rfl))) ?_
  refine Eq.trans (zY_step (by exact rfl) (by exact dX3_pays_2) (by exact rfl) (pc' := 3) (S' := [zR (some 36), zI 0, zI x1]) (by exact rfl) (zcn (by exact rfl))) ?_
  refine Eq.trans (zY_getR (by exact rfl) (by exact dX3_pays_3) (by exact rfl) (by exact rfl) (t := 37) (by exact rfl) (zcn (by exact rfl))) ?_
  refine Eq.trans (zY_step (by exact rfl) (by exact dX3_pays_6) (by exact rfl) (pc' := 7) (S' := [zI 0, zR (some 37), zI 0, zI x1]) (by exact rfl) (zcn (by exact rfl))) ?_
  refine Eq.trans (zY_ialdc (by exact rfl) (by exact dX3_pays_7) (by exact rfl) (by exact rfl) (j := 0) (by decide) (by decide) (zcn (by exact rfl))) ?_
  refine Eq.trans (zY_step (by exact rfl) (by exact dX3_pays_8) (by exact rfl) (pc' := 9) (S' := [zI 2, zI (σ 37 0), zI 0, zI x1]) (by exact rfl) (zcn (by exact rfl))) ?_
  refine Eq.trans (zY_step (by exact rfl) (by exact dX3_pays_9) (by exact rfl) (pc' := 10) (S' := [zI ((σ 37 0) - 2), zI 0, zI x1]) (by exact rfl) (zcn (by exact rfl))) ?_
  exact zY_S (by exact rfl) (by exact dX3_pays_10) (by exact rfl) (by exact Or.inl rfl) (as := [zI x1, zI 0, zI ((σ 37 0) - 2)]) (S' := []) (by exact rfl) (by exact rfl) (by exact Nat.le_of_ble_eq_true rfl) (by exact Nat.le_of_ble_eq_true rfl) (zcn (by exact rfl))
theorem b_X3_pays_13 (d : Nat) (y0 x1 : Int) (σ : zS) : zq (d + 1) mX3_pays 13 [some (zR (some 36)), some (zI x1)] [zI y0] σ = (if ¬ nrm y0 = 0 then (zc d mX3_of [zI x1, zI 2] σ).bind fun r => zq (d + 1) mX3_pays 28 [some (zR (some 36)), some (zI x1)] (r.1.toList ++ [zR (some 37)]) r.2 else some (some (zI 1000000001), σ)) := by
  refine Eq.trans (zY_if_ne (by exact rfl) (by exact dX3_pays_13) (t := 19) (by exact rfl) (a2 := nrm y0) (by exact rfl) (zcn (by exact rfl)) (zcn (by exact rfl))) (zif ?_ ?_)
  · refine Eq.trans (zY_step (by exact rfl) (by exact dX3_pays_19) (by exact rfl) (pc' := 20) (S' := [zR (some 36)]) (by exact rfl) (zcn (by exact rfl))) ?_
    refine Eq.trans (zY_getR (by exact rfl) (by exact dX3_pays_20) (by exact rfl) (by exact rfl) (t := 37) (by exact rfl) (zcn (by exact rfl))) ?_
    refine Eq.trans (zY_step (by exact rfl) (by exact dX3_pays_23) (by exact rfl) (pc' := 24) (S' := [zI x1, zR (some 37)]) (by exact rfl) (zcn (by exact rfl))) ?_
    refine Eq.trans (zY_step (by exact rfl) (by exact dX3_pays_24) (by exact rfl) (pc' := 25) (S' := [zI 2, zI x1, zR (some 37)]) (by exact rfl) (zcn (by exact rfl))) ?_
    exact zY_S (by exact rfl) (by exact dX3_pays_25) (by exact rfl) (by exact Or.inl rfl) (as := [zI x1, zI 2]) (S' := [zR (some 37)]) (by exact rfl) (by exact rfl) (by exact Nat.le_of_ble_eq_true rfl) (by exact Nat.le_of_ble_eq_true rfl) (zcn (by exact rfl))
  · refine Eq.trans (zY_step (by exact rfl) (by exact dX3_pays_16) (by exact rfl) (pc' := 18) (S' := [zI 1000000001]) (by exact rfl) (zcn (by exact rfl))) ?_
    exact zq_ret (by exact dX3_pays_18) (by exact rfl) (rv := some (zI 1000000001)) (by exact rfl)
theorem b_X3_pays_28 (d : Nat) (y0 x1 : Int) (σ : zS) : zq (d + 1) mX3_pays 28 [some (zR (some 36)), some (zI x1)] [zI y0, zR (some 37)] σ = (if zix y0 35 then (zc d mX3_worthOf [zR (some 37), zI (x1 + 1)] σ).bind fun r => zq (d + 1) mX3_pays 39 [some (zR (some 36)), some (zI x1)] (r.1.toList ++ [zI (σ 37 (nrm y0).toNat)]) r.2 else none) := by
  refine Eq.trans (zY_iald (by exact rfl) (by exact dX3_pays_28) (by exact rfl) (by exact rfl) (zcn (by exact rfl))) (zif ?_ rfl)
  · refine Eq.trans (zY_step (by exact rfl) (by exact dX3_pays_29) (by exact rfl) (pc' := 30) (S' := [zR (some 36), zI (σ 37 (nrm y0).toNat)]) (by exact rfl) (zcn (by exact rfl))) ?_
    refine Eq.trans (zY_getR (by exact rfl) (by exact dX3_pays_30) (by exact rfl) (by exact rfl) (t := 37) (by exact rfl) (zcn (by exact rfl))) ?_
    refine Eq.trans (zY_step (by exact rfl) (by exact dX3_pays_33) (by exact rfl) (pc' := 34) (S' := [zI x1, zR (some 37), zI (σ 37 (nrm y0).toNat)]) (by exact rfl) (zcn (by exact rfl))) ?_
    refine Eq.trans (zY_step (by exact rfl) (by exact dX3_pays_34) (by exact rfl) (pc' := 35) (S' := [zI 1, zI x1, zR (some 37), zI (σ 37 (nrm y0).toNat)]) (by exact rfl) (zcn (by exact rfl))) ?_
    refine Eq.trans (zY_step (by exact rfl) (by exact dX3_pays_35) (by exact rfl) (pc' := 36) (S' := [zI (x1 + 1), zR (some 37), zI (σ 37 (nrm y0).toNat)]) (by exact rfl) (zcn (by exact rfl))) ?_
    exact zY_S (by exact rfl) (by exact dX3_pays_36) (by exact rfl) (by exact Or.inl rfl) (as := [zR (some 37), zI (x1 + 1)]) (S' := [zI (σ 37 (nrm y0).toNat)]) (by exact rfl) (by exact rfl) (by exact Nat.le_of_ble_eq_true rfl) (by exact Nat.le_of_ble_eq_true rfl) (zcn (by exact rfl))
theorem b_X3_pays_39 (d : Nat) (y0 y1 x1 : Int) (σ : zS) : zq (d + 1) mX3_pays 39 [some (zR (some 36)), some (zI x1)] [zI y0, zI y1] σ = (zc d mX3_worthOf [zR (some 37), zI x1] σ).bind fun r => zq (d + 1) mX3_pays 47 [some (zR (some 36)), some (zI x1)] (r.1.toList ++ [zI y0, zI y1]) r.2 := by
  refine Eq.trans (zY_step (by exact rfl) (by exact dX3_pays_39) (by exact rfl) (pc' := 40) (S' := [zR (some 36), zI y0, zI y1]) (by exact rfl) (zcn (by exact rfl))) ?_
  refine Eq.trans (zY_getR (by exact rfl) (by exact dX3_pays_40) (by exact rfl) (by exact rfl) (t := 37) (by exact rfl) (zcn (by exact rfl))) ?_
  refine Eq.trans (zY_step (by exact rfl) (by exact dX3_pays_43) (by exact rfl) (pc' := 44) (S' := [zI x1, zR (some 37), zI y0, zI y1]) (by exact rfl) (zcn (by exact rfl))) ?_
  exact zY_S (by exact rfl) (by exact dX3_pays_44) (by exact rfl) (by exact Or.inl rfl) (as := [zR (some 37), zI x1]) (S' := [zI y0, zI y1]) (by exact rfl) (by exact rfl) (by exact Nat.le_of_ble_eq_true rfl) (by exact Nat.le_of_ble_eq_true rfl) (zcn (by exact rfl))
theorem b_X3_pays_47 (d : Nat) (y0 y1 y2 x1 : Int) (σ : zS) : zq d mX3_pays 47 [some (zR (some 36)), some (zI x1)] [zI y0, zI y1, zI y2] σ = some (some (zI (y2 * (y1 - y0))), σ) := by
  refine Eq.trans (zY_step (by exact rfl) (by exact dX3_pays_47) (by exact rfl) (pc' := 48) (S' := [zI (y1 - y0), zI y2]) (by exact rfl) (zcn (by exact rfl))) ?_
  refine Eq.trans (zY_step (by exact rfl) (by exact dX3_pays_48) (by exact rfl) (pc' := 49) (S' := [zI (y2 * (y1 - y0))]) (by exact rfl) (zcn (by exact rfl))) ?_
  exact zq_ret (by exact dX3_pays_49) (by exact rfl) (rv := some (zI (y2 * (y1 - y0)))) (by exact rfl)
theorem e_X3_price (d : Nat) (x1 : Int) (σ : zS) : zc (d + 1) mX3_price [zR (some 36), zI x1] σ = (zc d mX3_isIn [zI x1, zI 0, zI ((σ 37 0) - 2)] σ).bind fun r => zq (d + 1) mX3_price 13 [some (zR (some 36)), some (zI x1)] (r.1.toList ++ []) r.2 := by
  refine Eq.trans (zc_zq (L := [some (zR (some 36)), some (zI x1)]) (by exact rfl)) ?_
  refine Eq.trans (zY_step (by exact rfl) (by exact dX3_price_0) (by exact rfl) (pc' := 1) (S' := [zI x1]) (by exact rfl) (zcn (by exact rfl))) ?_
  refine Eq.trans (zY_step (by exact rfl) (by exact dX3_price_1) (by exact rfl) (pc' := 2) (S' := [zI 0, zI x1]) (by exact rfl) (zcn (by exact rfl))) ?_
  refine Eq.trans (zY_step (by exact rfl) (by exact dX3_price_2) (by exact rfl) (pc' := 3) (S' := [zR (some 36), zI 0, zI x1]) (by exact rfl) (zcn (by exact rfl))) ?_
  refine Eq.trans (zY_getR (by exact rfl) (by exact dX3_price_3) (by exact rfl) (by exact rfl) (t := 37) (by exact rfl) (zcn (by exact rfl))) ?_
  refine Eq.trans (zY_step (by exact rfl) (by exact dX3_price_6) (by exact rfl) (pc' := 7) (S' := [zI 0, zR (some 37), zI 0, zI x1]) (by exact rfl) (zcn (by exact rfl))) ?_
  refine Eq.trans (zY_ialdc (by exact rfl) (by exact dX3_price_7) (by exact rfl) (by exact rfl) (j := 0) (by decide) (by decide) (zcn (by exact rfl))) ?_
  refine Eq.trans (zY_step (by exact rfl) (by exact dX3_price_8) (by exact rfl) (pc' := 9) (S' := [zI 2, zI (σ 37 0), zI 0, zI x1]) (by exact rfl) (zcn (by exact rfl))) ?_
  refine Eq.trans (zY_step (by exact rfl) (by exact dX3_price_9) (by exact rfl) (pc' := 10) (S' := [zI ((σ 37 0) - 2), zI 0, zI x1]) (by exact rfl) (zcn (by exact rfl))) ?_
  exact zY_S (by exact rfl) (by exact dX3_price_10) (by exact rfl) (by exact Or.inl rfl) (as := [zI x1, zI 0, zI ((σ 37 0) - 2)]) (S' := []) (by exact rfl) (by exact rfl) (by exact Nat.le_of_ble_eq_true rfl) (by exact Nat.le_of_ble_eq_true rfl) (zcn (by exact rfl))
theorem b_X3_price_13 (d : Nat) (y0 x1 : Int) (σ : zS) : zq (d + 1) mX3_price 13 [some (zR (some 36)), some (zI x1)] [zI y0] σ = (if ¬ nrm y0 = 0 then (zc d mX3_of [zI x1, zI 2] σ).bind fun r => zq (d + 1) mX3_price 28 [some (zR (some 36)), some (zI x1)] (r.1.toList ++ [zR (some 37)]) r.2 else some (some (zI 1000000001), σ)) := by
  refine Eq.trans (zY_if_ne (by exact rfl) (by exact dX3_price_13) (t := 19) (by exact rfl) (a2 := nrm y0) (by exact rfl) (zcn (by exact rfl)) (zcn (by exact rfl))) (zif ?_ ?_)
  · refine Eq.trans (zY_step (by exact rfl) (by exact dX3_price_19) (by exact rfl) (pc' := 20) (S' := [zR (some 36)]) (by exact rfl) (zcn (by exact rfl))) ?_
    refine Eq.trans (zY_getR (by exact rfl) (by exact dX3_price_20) (by exact rfl) (by exact rfl) (t := 37) (by exact rfl) (zcn (by exact rfl))) ?_
    refine Eq.trans (zY_step (by exact rfl) (by exact dX3_price_23) (by exact rfl) (pc' := 24) (S' := [zI x1, zR (some 37)]) (by exact rfl) (zcn (by exact rfl))) ?_
    refine Eq.trans (zY_step (by exact rfl) (by exact dX3_price_24) (by exact rfl) (pc' := 25) (S' := [zI 2, zI x1, zR (some 37)]) (by exact rfl) (zcn (by exact rfl))) ?_
    exact zY_S (by exact rfl) (by exact dX3_price_25) (by exact rfl) (by exact Or.inl rfl) (as := [zI x1, zI 2]) (S' := [zR (some 37)]) (by exact rfl) (by exact rfl) (by exact Nat.le_of_ble_eq_true rfl) (by exact Nat.le_of_ble_eq_true rfl) (zcn (by exact rfl))
  · refine Eq.trans (zY_step (by exact rfl) (by exact dX3_price_16) (by exact rfl) (pc' := 18) (S' := [zI 1000000001]) (by exact rfl) (zcn (by exact rfl))) ?_
    exact zq_ret (by exact dX3_price_18) (by exact rfl) (rv := some (zI 1000000001)) (by exact rfl)
theorem b_X3_price_28 (d : Nat) (y0 x1 : Int) (σ : zS) : zq (d + 1) mX3_price 28 [some (zR (some 36)), some (zI x1)] [zI y0, zR (some 37)] σ = (if zix y0 35 then (zc d mX3_worthOf [zR (some 37), zI (x1 + 1)] σ).bind fun r => zq (d + 1) mX3_price 39 [some (zR (some 36)), some (zI x1)] (r.1.toList ++ [zI (σ 37 (nrm y0).toNat)]) r.2 else none) := by
  refine Eq.trans (zY_iald (by exact rfl) (by exact dX3_price_28) (by exact rfl) (by exact rfl) (zcn (by exact rfl))) (zif ?_ rfl)
  · refine Eq.trans (zY_step (by exact rfl) (by exact dX3_price_29) (by exact rfl) (pc' := 30) (S' := [zR (some 36), zI (σ 37 (nrm y0).toNat)]) (by exact rfl) (zcn (by exact rfl))) ?_
    refine Eq.trans (zY_getR (by exact rfl) (by exact dX3_price_30) (by exact rfl) (by exact rfl) (t := 37) (by exact rfl) (zcn (by exact rfl))) ?_
    refine Eq.trans (zY_step (by exact rfl) (by exact dX3_price_33) (by exact rfl) (pc' := 34) (S' := [zI x1, zR (some 37), zI (σ 37 (nrm y0).toNat)]) (by exact rfl) (zcn (by exact rfl))) ?_
    refine Eq.trans (zY_step (by exact rfl) (by exact dX3_price_34) (by exact rfl) (pc' := 35) (S' := [zI 1, zI x1, zR (some 37), zI (σ 37 (nrm y0).toNat)]) (by exact rfl) (zcn (by exact rfl))) ?_
    refine Eq.trans (zY_step (by exact rfl) (by exact dX3_price_35) (by exact rfl) (pc' := 36) (S' := [zI (x1 + 1), zR (some 37), zI (σ 37 (nrm y0).toNat)]) (by exact rfl) (zcn (by exact rfl))) ?_
    exact zY_S (by exact rfl) (by exact dX3_price_36) (by exact rfl) (by exact Or.inl rfl) (as := [zR (some 37), zI (x1 + 1)]) (S' := [zI (σ 37 (nrm y0).toNat)]) (by exact rfl) (by exact rfl) (by exact Nat.le_of_ble_eq_true rfl) (by exact Nat.le_of_ble_eq_true rfl) (zcn (by exact rfl))
theorem b_X3_price_39 (d : Nat) (y0 y1 x1 : Int) (σ : zS) : zq (d + 1) mX3_price 39 [some (zR (some 36)), some (zI x1)] [zI y0, zI y1] σ = (zc d mX3_worthOf [zR (some 37), zI x1] σ).bind fun r => zq (d + 1) mX3_price 47 [some (zR (some 36)), some (zI x1)] (r.1.toList ++ [zI y0, zI y1]) r.2 := by
  refine Eq.trans (zY_step (by exact rfl) (by exact dX3_price_39) (by exact rfl) (pc' := 40) (S' := [zR (some 36), zI y0, zI y1]) (by exact rfl) (zcn (by exact rfl))) ?_
  refine Eq.trans (zY_getR (by exact rfl) (by exact dX3_price_40) (by exact rfl) (by exact rfl) (t := 37) (by exact rfl) (zcn (by exact rfl))) ?_
  refine Eq.trans (zY_step (by exact rfl) (by exact dX3_price_43) (by exact rfl) (pc' := 44) (S' := [zI x1, zR (some 37), zI y0, zI y1]) (by exact rfl) (zcn (by exact rfl))) ?_
  exact zY_S (by exact rfl) (by exact dX3_price_44) (by exact rfl) (by exact Or.inl rfl) (as := [zR (some 37), zI x1]) (S' := [zI y0, zI y1]) (by exact rfl) (by exact rfl) (by exact Nat.le_of_ble_eq_true rfl) (by exact Nat.le_of_ble_eq_true rfl) (zcn (by exact rfl))
theorem b_X3_price_47 (d : Nat) (y0 y1 y2 x1 : Int) (σ : zS) : zq d mX3_price 47 [some (zR (some 36)), some (zI x1)] [zI y0, zI y1, zI y2] σ = some (some (zI ((nrm (y2 * (y1 + y0))).tdiv 2)), σ) := by
  refine Eq.trans (zY_step (by exact rfl) (by exact dX3_price_47) (by exact rfl) (pc' := 48) (S' := [zI (y1 + y0), zI y2]) (by exact rfl) (zcn (by exact rfl))) ?_
  refine Eq.trans (zY_step (by exact rfl) (by exact dX3_price_48) (by exact rfl) (pc' := 49) (S' := [zI (y2 * (y1 + y0))]) (by exact rfl) (zcn (by exact rfl))) ?_
  refine Eq.trans (zY_step (by exact rfl) (by exact dX3_price_49) (by exact rfl) (pc' := 50) (S' := [zI 2, zI (y2 * (y1 + y0))]) (by exact rfl) (zcn (by exact rfl))) ?_
  refine Eq.trans (zY_divc (by exact rfl) (by exact dX3_price_50) (c := 2) (by decide) (by decide) (zcn (by exact rfl))) ?_
  exact zq_ret (by exact dX3_price_51) (by exact rfl) (rv := some (zI ((nrm (y2 * (y1 + y0))).tdiv 2))) (by exact rfl)
theorem e_X3_seats (d : Nat) (x1 x2 x3 : Int) (σ : zS) : zc (d + 1) mX3_seats [zR (some 36), zI x1, zI x2, zI x3] σ = (if ¬ nrm x2 = 0 then zq (d + 1) mX3_seats 165 [some (zR (some 36)), some (zI x1), some (zI x2), some (zI x3), some (zI 0)] [] σ else (zc d mX3_copies [zR (some 37), zR (some 38)] σ).bind fun r => zq (d + 1) mX3_seats 15 [some (zR (some 36)), some (zI x1), some (zI x2), some (zI x3), none] (r.1.toList ++ []) r.2) := by
  refine Eq.trans (zc_zq (L := [some (zR (some 36)), some (zI x1), some (zI x2), some (zI x3), none]) (by exact rfl)) ?_
  refine Eq.trans (zY_step (by exact rfl) (by exact dX3_seats_0) (by exact rfl) (pc' := 1) (S' := [zI x2]) (by exact rfl) (zcn (by exact rfl))) ?_
  refine Eq.trans (zY_if_ne (by exact rfl) (by exact dX3_seats_1) (t := 162) (by exact rfl) (a2 := nrm x2) (by exact rfl) (zcn (by exact rfl)) (zcn (by exact rfl))) (zif ?_ ?_)
  · refine Eq.trans (zY_step (by exact rfl) (by exact dX3_seats_162) (by exact rfl) (pc' := 163) (S' := [zI 0]) (by exact rfl) (zcn (by exact rfl))) ?_
    exact zY_step (by exact rfl) (by exact dX3_seats_163) (by exact rfl) (pc' := 165) (L' := [some (zR (some 36)), some (zI x1), some (zI x2), some (zI x3), some (zI 0)]) (S' := []) (by exact rfl) (zcn (by exact rfl))
  · refine Eq.trans (zY_step (by exact rfl) (by exact dX3_seats_4) (by exact rfl) (pc' := 5) (S' := [zR (some 36)]) (by exact rfl) (zcn (by exact rfl))) ?_
    refine Eq.trans (zY_getR (by exact rfl) (by exact dX3_seats_5) (by exact rfl) (by exact rfl) (t := 37) (by exact rfl) (zcn (by exact rfl))) ?_
    refine Eq.trans (zY_step (by exact rfl) (by exact dX3_seats_8) (by exact rfl) (pc' := 9) (S' := [zR (some 36), zR (some 37)]) (by exact rfl) (zcn (by exact rfl))) ?_
    refine Eq.trans (zY_getR (by exact rfl) (by exact dX3_seats_9) (by exact rfl) (by exact rfl) (t := 38) (by exact rfl) (zcn (by exact rfl))) ?_
    exact zY_S (by exact rfl) (by exact dX3_seats_12) (by exact rfl) (by exact Or.inl rfl) (as := [zR (some 37), zR (some 38)]) (S' := []) (by exact rfl) (by exact rfl) (by exact Nat.le_of_ble_eq_true rfl) (by exact Nat.le_of_ble_eq_true rfl) (zcn (by exact rfl))
theorem b_X3_seats_165 (d : Nat) (x1 x2 x3 x4 : Int) (σ : zS) : zq (d + 1) mX3_seats 165 [some (zR (some 36)), some (zI x1), some (zI x2), some (zI x3), some (zI x4)] [] σ = (if nrm (σ 37 0) ≤ nrm x4 then some (none, σ) else (zc d mX3_has [zI x2, zI x4] σ).bind fun r => zq (d + 1) mX3_seats 182 [some (zR (some 36)), some (zI x1), some (zI x2), some (zI x3), some (zI x4)] (r.1.toList ++ []) r.2) := by
  refine Eq.trans (zY_step (by exact rfl) (by exact dX3_seats_165) (by exact rfl) (pc' := 167) (S' := [zI x4]) (by exact rfl) (zcn (by exact rfl))) ?_
  refine Eq.trans (zY_step (by exact rfl) (by exact dX3_seats_167) (by exact rfl) (pc' := 168) (S' := [zR (some 36), zI x4]) (by exact rfl) (zcn (by exact rfl))) ?_
  refine Eq.trans (zY_getR (by exact rfl) (by exact dX3_seats_168) (by exact rfl) (by exact rfl) (t := 37) (by exact rfl) (zcn (by exact rfl))) ?_
  refine Eq.trans (zY_step (by exact rfl) (by exact dX3_seats_171) (by exact rfl) (pc' := 172) (S' := [zI 0, zR (some 37), zI x4]) (by exact rfl) (zcn (by exact rfl))) ?_
  refine Eq.trans (zY_ialdc (by exact rfl) (by exact dX3_seats_172) (by exact rfl) (by exact rfl) (j := 0) (by decide) (by decide) (zcn (by exact rfl))) ?_
  refine Eq.trans (zY_ic_ge (by exact rfl) (by exact dX3_seats_173) (t := 218) (by exact rfl) (a2 := nrm x4) (b2 := nrm (σ 37 0)) (by exact rfl) (by exact rfl) (zcn (by exact rfl)) (zcn (by exact rfl))) (zif ?_ ?_)
  · exact zq_ret (by exact dX3_seats_218) (by exact rfl) (rv := none) (by exact rfl)
  · refine Eq.trans (zY_step (by exact rfl) (by exact dX3_seats_176) (by exact rfl) (pc' := 177) (S' := [zI x2]) (by exact rfl) (zcn (by exact rfl))) ?_
    refine Eq.trans (zY_step (by exact rfl) (by exact dX3_seats_177) (by exact rfl) (pc' := 179) (S' := [zI x4, zI x2]) (by exact rfl) (zcn (by exact rfl))) ?_
    exact zY_S (by exact rfl) (by exact dX3_seats_179) (by exact rfl) (by exact Or.inl rfl) (as := [zI x2, zI x4]) (S' := []) (by exact rfl) (by exact rfl) (by exact Nat.le_of_ble_eq_true rfl) (by exact Nat.le_of_ble_eq_true rfl) (zcn (by exact rfl))
theorem b_X3_seats_15 (d : Nat) (x1 x2 x3 : Int) (σ : zS) : zq d mX3_seats 15 [some (zR (some 36)), some (zI x1), some (zI x2), some (zI x3), none] [] σ = zq d mX3_seats 18 [some (zR (some 36)), none, none, some (zI x3), some (zI 0)] [] σ := by
  refine Eq.trans (zY_step (by exact rfl) (by exact dX3_seats_15) (by exact rfl) (pc' := 16) (S' := [zI 0]) (by exact rfl) (zcn (by exact rfl))) ?_
  exact zY_step (by exact rfl) (by exact dX3_seats_16) (by exact rfl) (pc' := 18) (L' := [some (zR (some 36)), some (zI x1), some (zI x2), some (zI x3), some (zI 0)]) (S' := []) (L2 := [some (zR (some 36)), none, none, some (zI x3), some (zI 0)]) (by exact rfl) (by exact rfl)
theorem b_X3_seats_182 (d : Nat) (y0 x1 x2 x3 x4 : Int) (σ : zS) : zq (d + 1) mX3_seats 182 [some (zR (some 36)), some (zI x1), some (zI x2), some (zI x3), some (zI x4)] [zI y0] σ = (if ¬ nrm y0 = 0 then (if zix x1 8 then (zc d mX3_seats [zR (some 36), zI (x1 + 1), zI (zand x2 (zxor (zshl 1 x4) ((-1)))), zI x3] (zup σ 43 (nrm x1).toNat x4)).bind fun r => zq (d + 1) mX3_seats 212 [some (zR (some 36)), some (zI x1), some (zI x2), some (zI x3), some (zI x4)] (r.1.toList ++ []) r.2 else none) else zq (d + 1) mX3_seats 212 [some (zR (some 36)), some (zI x1), some (zI x2), some (zI x3), some (zI x4)] [] σ) := by
  refine Eq.trans (zY_if_ne (by exact rfl) (by exact dX3_seats_182) (t := 188) (by exact rfl) (a2 := nrm y0) (by exact rfl) (zcn (by exact rfl)) (zcn (by exact rfl))) (zif ?_ ?_)
  · refine Eq.trans (zY_step (by exact rfl) (by exact dX3_seats_188) (by exact rfl) (pc' := 189) (S' := [zR (some 36)]) (by exact rfl) (zcn (by exact rfl))) ?_
    refine Eq.trans (zY_getR (by exact rfl) (by exact dX3_seats_189) (by exact rfl) (by exact rfl) (t := 43) (by exact rfl) (zcn (by exact rfl))) ?_
    refine Eq.trans (zY_step (by exact rfl) (by exact dX3_seats_192) (by exact rfl) (pc' := 193) (S' := [zI x1, zR (some 43)]) (by exact rfl) (zcn (by exact rfl))) ?_
    refine Eq.trans (zY_step (by exact rfl) (by exact dX3_seats_193) (by exact rfl) (pc' := 195) (S' := [zI x4, zI x1, zR (some 43)]) (by exact rfl) (zcn (by exact rfl))) ?_
    refine Eq.trans (zY_iast (by exact rfl) (by exact dX3_seats_195) (by exact rfl) (by exact rfl) (zcn (by exact rfl))) (zif ?_ rfl)
    · refine Eq.trans (zY_step (by exact rfl) (by exact dX3_seats_196) (by exact rfl) (pc' := 197) (S' := [zR (some 36)]) (by exact rfl) (zcn (by exact rfl))) ?_
      refine Eq.trans (zY_step (by exact rfl) (by exact dX3_seats_197) (by exact rfl) (pc' := 198) (S' := [zI x1, zR (some 36)]) (by exact rfl) (zcn (by exact rfl))) ?_
      refine Eq.trans (zY_step (by exact rfl) (by exact dX3_seats_198) (by exact rfl) (pc' := 199) (S' := [zI 1, zI x1, zR (some 36)]) (by exact rfl) (zcn (by exact rfl))) ?_
      refine Eq.trans (zY_step (by exact rfl) (by exact dX3_seats_199) (by exact rfl) (pc' := 200) (S' := [zI (x1 + 1), zR (some 36)]) (by exact rfl) (zcn (by exact rfl))) ?_
      refine Eq.trans (zY_step (by exact rfl) (by exact dX3_seats_200) (by exact rfl) (pc' := 201) (S' := [zI x2, zI (x1 + 1), zR (some 36)]) (by exact rfl) (zcn (by exact rfl))) ?_
      refine Eq.trans (zY_step (by exact rfl) (by exact dX3_seats_201) (by exact rfl) (pc' := 202) (S' := [zI 1, zI x2, zI (x1 + 1), zR (some 36)]) (by exact rfl) (zcn (by exact rfl))) ?_
      refine Eq.trans (zY_step (by exact rfl) (by exact dX3_seats_202) (by exact rfl) (pc' := 204) (S' := [zI x4, zI 1, zI x2, zI (x1 + 1), zR (some 36)]) (by exact rfl) (zcn (by exact rfl))) ?_
      refine Eq.trans (zY_step (by exact rfl) (by exact dX3_seats_204) (by exact rfl) (pc' := 205) (S' := [zI (zshl 1 x4), zI x2, zI (x1 + 1), zR (some 36)]) (by exact rfl) (zcn (by exact rfl))) ?_
      refine Eq.trans (zY_step (by exact rfl) (by exact dX3_seats_205) (by exact rfl) (pc' := 206) (S' := [zI ((-1)), zI (zshl 1 x4), zI x2, zI (x1 + 1), zR (some 36)]) (by exact rfl) (zcn (by exact rfl))) ?_
      refine Eq.trans (zY_step (by exact rfl) (by exact dX3_seats_206) (by exact rfl) (pc' := 207) (S' := [zI (zxor (zshl 1 x4) ((-1))), zI x2, zI (x1 + 1), zR (some 36)]) (by exact rfl) (zcn (by exact rfl))) ?_
      refine Eq.trans (zY_step (by exact rfl) (by exact dX3_seats_207) (by exact rfl) (pc' := 208) (S' := [zI (zand x2 (zxor (zshl 1 x4) ((-1)))), zI (x1 + 1), zR (some 36)]) (by exact rfl) (zcn (by exact rfl))) ?_
      refine Eq.trans (zY_step (by exact rfl) (by exact dX3_seats_208) (by exact rfl) (pc' := 209) (S' := [zI x3, zI (zand x2 (zxor (zshl 1 x4) ((-1)))), zI (x1 + 1), zR (some 36)]) (by exact rfl) (zcn (by exact rfl))) ?_
      exact zY_V (by exact rfl) (by exact dX3_seats_209) (by exact rfl) (as := [zI (x1 + 1), zI (zand x2 (zxor (zshl 1 x4) ((-1)))), zI x3]) (S' := []) (by exact rfl) (by exact rfl) (by exact rfl) (by exact Nat.le_of_ble_eq_true rfl) (by exact Nat.le_of_ble_eq_true rfl) (by exact Nat.le_of_ble_eq_true rfl) (zcn (by exact rfl))
  · exact zY_step (by exact rfl) (by exact dX3_seats_185) (by exact rfl) (pc' := 212) (S' := []) (by exact rfl) (zcn (by exact rfl))
theorem b_X3_seats_18 (d : Nat) (x3 x4 : Int) (σ : zS) : zq (d + 1) mX3_seats 18 [some (zR (some 36)), none, none, some (zI x3), some (zI x4)] [] σ = (if nrm (σ 37 0) ≤ nrm x4 then (zc d mX3_upright [zR (some 38)] σ).bind fun r => zq (d + 1) mX3_seats 96 [some (zR (some 36)), none, none, some (zI x3), some (zI x4)] (r.1.toList ++ []) r.2 else (zc d mX3_of [zI x4, zI 0] σ).bind fun r => zq (d + 1) mX3_seats 39 [some (zR (some 36)), none, none, some (zI x3), some (zI x4)] (r.1.toList ++ [zR (some 38)]) r.2) := by
  refine Eq.trans (zY_step (by exact rfl) (by exact dX3_seats_18) (by exact rfl) (pc' := 20) (S' := [zI x4]) (by exact rfl) (zcn (by exact rfl))) ?_
  refine Eq.trans (zY_step (by exact rfl) (by exact dX3_seats_20) (by exact rfl) (pc' := 21) (S' := [zR (some 36), zI x4]) (by exact rfl) (zcn (by exact rfl))) ?_
  refine Eq.trans (zY_getR (by exact rfl) (by exact dX3_seats_21) (by exact rfl) (by exact rfl) (t := 37) (by exact rfl) (zcn (by exact rfl))) ?_
  refine Eq.trans (zY_step (by exact rfl) (by exact dX3_seats_24) (by exact rfl) (pc' := 25) (S' := [zI 0, zR (some 37), zI x4]) (by exact rfl) (zcn (by exact rfl))) ?_
  refine Eq.trans (zY_ialdc (by exact rfl) (by exact dX3_seats_25) (by exact rfl) (by exact rfl) (j := 0) (by decide) (by decide) (zcn (by exact rfl))) ?_
  refine Eq.trans (zY_ic_ge (by exact rfl) (by exact dX3_seats_26) (t := 89) (by exact rfl) (a2 := nrm x4) (b2 := nrm (σ 37 0)) (by exact rfl) (by exact rfl) (zcn (by exact rfl)) (zcn (by exact rfl))) (zif ?_ ?_)
  · refine Eq.trans (zY_step (by exact rfl) (by exact dX3_seats_89) (by exact rfl) (pc' := 90) (S' := [zR (some 36)]) (by exact rfl) (zcn (by exact rfl))) ?_
    refine Eq.trans (zY_getR (by exact rfl) (by exact dX3_seats_90) (by exact rfl) (by exact rfl) (t := 38) (by exact rfl) (zcn (by exact rfl))) ?_
    exact zY_S (by exact rfl) (by exact dX3_seats_93) (by exact rfl) (by exact Or.inl rfl) (as := [zR (some 38)]) (S' := []) (by exact rfl) (by exact rfl) (by exact Nat.le_of_ble_eq_true rfl) (by exact Nat.le_of_ble_eq_true rfl) (zcn (by exact rfl))
  · refine Eq.trans (zY_step (by exact rfl) (by exact dX3_seats_29) (by exact rfl) (pc' := 30) (S' := [zR (some 36)]) (by exact rfl) (zcn (by exact rfl))) ?_
    refine Eq.trans (zY_getR (by exact rfl) (by exact dX3_seats_30) (by exact rfl) (by exact rfl) (t := 38) (by exact rfl) (zcn (by exact rfl))) ?_
    refine Eq.trans (zY_step (by exact rfl) (by exact dX3_seats_33) (by exact rfl) (pc' := 35) (S' := [zI x4, zR (some 38)]) (by exact rfl) (zcn (by exact rfl))) ?_
    refine Eq.trans (zY_step (by exact rfl) (by exact dX3_seats_35) (by exact rfl) (pc' := 36) (S' := [zI 0, zI x4, zR (some 38)]) (by exact rfl) (zcn (by exact rfl))) ?_
    exact zY_S (by exact rfl) (by exact dX3_seats_36) (by exact rfl) (by exact Or.inl rfl) (as := [zI x4, zI 0]) (S' := [zR (some 38)]) (by exact rfl) (by exact rfl) (by exact Nat.le_of_ble_eq_true rfl) (by exact Nat.le_of_ble_eq_true rfl) (zcn (by exact rfl))
theorem b_X3_seats_212 (d : Nat) (x1 x2 x3 x4 : Int) (σ : zS) : zq d mX3_seats 212 [some (zR (some 36)), some (zI x1), some (zI x2), some (zI x3), some (zI x4)] [] σ = zq d mX3_seats 165 [some (zR (some 36)), some (zI x1), some (zI x2), some (zI x3), some (zI (x4 + 1))] [] σ := by
  refine Eq.trans (zY_step (by exact rfl) (by exact dX3_seats_212) (by exact rfl) (pc' := 215) (L' := [some (zR (some 36)), some (zI x1), some (zI x2), some (zI x3), some (zI (x4 + 1))]) (S' := []) (by exact rfl) (zcn (by exact rfl))) ?_
  exact zY_step (by exact rfl) (by exact dX3_seats_215) (by exact rfl) (pc' := 165) (S' := []) (by exact rfl) (zcn (by exact rfl))
theorem b_X3_seats_96 (d : Nat) (x3 x4 : Int) (σ : zS) : zq (d + 1) mX3_seats 96 [some (zR (some 36)), none, none, some (zI x3), some (zI x4)] [] σ = (zc d mX3_roundsOn [zR (some 36), zR (some 38), zI x3] σ).bind fun r => zq (d + 1) mX3_seats 105 [some (zR (some 36)), none, none, some (zI x3), some (zI x4)] (r.1.toList ++ []) r.2 := by
  refine Eq.trans (zY_step (by exact rfl) (by exact dX3_seats_96) (by exact rfl) (pc' := 97) (S' := [zR (some 36)]) (by exact rfl) (zcn (by exact rfl))) ?_
  refine Eq.trans (zY_step (by exact rfl) (by exact dX3_seats_97) (by exact rfl) (pc' := 98) (S' := [zR (some 36), zR (some 36)]) (by exact rfl) (zcn (by exact rfl))) ?_
  refine Eq.trans (zY_getR (by exact rfl) (by exact dX3_seats_98) (by exact rfl) (by exact rfl) (t := 38) (by exact rfl) (zcn (by exact rfl))) ?_
  refine Eq.trans (zY_step (by exact rfl) (by exact dX3_seats_101) (by exact rfl) (pc' := 102) (S' := [zI x3, zR (some 38), zR (some 36)]) (by exact rfl) (zcn (by exact rfl))) ?_
  exact zY_V (by exact rfl) (by exact dX3_seats_102) (by exact rfl) (as := [zR (some 38), zI x3]) (S' := []) (by exact rfl) (by exact rfl) (by exact rfl) (by exact Nat.le_of_ble_eq_true rfl) (by exact Nat.le_of_ble_eq_true rfl) (by exact Nat.le_of_ble_eq_true rfl) (zcn (by exact rfl))
theorem b_X3_seats_39 (d : Nat) (y0 x3 x4 : Int) (σ : zS) : zq (d + 1) mX3_seats 39 [some (zR (some 36)), none, none, some (zI x3), some (zI x4)] [zI y0, zR (some 38)] σ = (if zix x4 8 then (zc d mX3_of [zI (σ 43 (nrm x4).toNat), zI 0] σ).bind fun r => zq (d + 1) mX3_seats 54 [some (zR (some 36)), none, none, some (zI x3), some (zI x4)] (r.1.toList ++ [zR (some 37), zI y0, zR (some 38)]) r.2 else none) := by
  refine Eq.trans (zY_step (by exact rfl) (by exact dX3_seats_39) (by exact rfl) (pc' := 40) (S' := [zR (some 36), zI y0, zR (some 38)]) (by exact rfl) (zcn (by exact rfl))) ?_
  refine Eq.trans (zY_getR (by exact rfl) (by exact dX3_seats_40) (by exact rfl) (by exact rfl) (t := 37) (by exact rfl) (zcn (by exact rfl))) ?_
  refine Eq.trans (zY_step (by exact rfl) (by exact dX3_seats_43) (by exact rfl) (pc' := 44) (S' := [zR (some 36), zR (some 37), zI y0, zR (some 38)]) (by exact rfl) (zcn (by exact rfl))) ?_
  refine Eq.trans (zY_getR (by exact rfl) (by exact dX3_seats_44) (by exact rfl) (by exact rfl) (t := 43) (by exact rfl) (zcn (by exact rfl))) ?_
  refine Eq.trans (zY_step (by exact rfl) (by exact dX3_seats_47) (by exact rfl) (pc' := 49) (S' := [zI x4, zR (some 43), zR (some 37), zI y0, zR (some 38)]) (by exact rfl) (zcn (by exact rfl))) ?_
  refine Eq.trans (zY_iald (by exact rfl) (by exact dX3_seats_49) (by exact rfl) (by exact rfl) (zcn (by exact rfl))) (zif ?_ rfl)
  · refine Eq.trans (zY_step (by exact rfl) (by exact dX3_seats_50) (by exact rfl) (pc' := 51) (S' := [zI 0, zI (σ 43 (nrm x4).toNat), zR (some 37), zI y0, zR (some 38)]) (by exact rfl) (zcn (by exact rfl))) ?_
    exact zY_S (by exact rfl) (by exact dX3_seats_51) (by exact rfl) (by exact Or.inl rfl) (as := [zI (σ 43 (nrm x4).toNat), zI 0]) (S' := [zR (some 37), zI y0, zR (some 38)]) (by exact rfl) (by exact rfl) (by exact Nat.le_of_ble_eq_true rfl) (by exact Nat.le_of_ble_eq_true rfl) (zcn (by exact rfl))
theorem b_X3_seats_105 (d : Nat) (x3 x4 : Int) (σ : zS) : zq (d + 1) mX3_seats 105 [some (zR (some 36)), none, none, some (zI x3), some (zI x4)] [] σ = (zc d mX3_joyAll [zR (some 38)] σ).bind fun r => zq (d + 1) mX3_seats 112 [some (zR (some 36)), none, none, some (zI x3), some (zI x4)] (r.1.toList ++ []) r.2 := by
  refine Eq.trans (zY_step (by exact rfl) (by exact dX3_seats_105) (by exact rfl) (pc' := 106) (S' := [zR (some 36)]) (by exact rfl) (zcn (by exact rfl))) ?_
  refine Eq.trans (zY_getR (by exact rfl) (by exact dX3_seats_106) (by exact rfl) (by exact rfl) (t := 38) (by exact rfl) (zcn (by exact rfl))) ?_
  exact zY_S (by exact rfl) (by exact dX3_seats_109) (by exact rfl) (by exact Or.inl rfl) (as := [zR (some 38)]) (S' := []) (by exact rfl) (by exact rfl) (by exact Nat.le_of_ble_eq_true rfl) (by exact Nat.le_of_ble_eq_true rfl) (zcn (by exact rfl))
theorem b_X3_seats_54 (d : Nat) (y0 y2 x3 x4 : Int) (σ : zS) : zq (d + 1) mX3_seats 54 [some (zR (some 36)), none, none, some (zI x3), some (zI x4)] [zI y0, zR (some 37), zI y2, zR (some 38)] σ = (if zix y0 35 then (if zix y2 35 then (zc d mX3_of [zI x4, zI 1] (zup σ 38 (nrm y2).toNat (σ 37 (nrm y0).toNat))).bind fun r => zq (d + 1) mX3_seats 66 [some (zR (some 36)), none, none, some (zI x3), some (zI x4)] (r.1.toList ++ [zR (some 38)]) r.2 else none) else none) := by
  refine Eq.trans (zY_iald (by exact rfl) (by exact dX3_seats_54) (by exact rfl) (by exact rfl) (zcn (by exact rfl))) (zif ?_ rfl)
  · refine Eq.trans (zY_iast (by exact rfl) (by exact dX3_seats_55) (by exact rfl) (by exact rfl) (zcn (by exact rfl))) (zif ?_ rfl)
    · refine Eq.trans (zY_step (by exact rfl) (by exact dX3_seats_56) (by exact rfl) (pc' := 57) (S' := [zR (some 36)]) (by exact rfl) (zcn (by exact rfl))) ?_
      refine Eq.trans (zY_getR (by exact rfl) (by exact dX3_seats_57) (by exact rfl) (by exact rfl) (t := 38) (by exact rfl) (zcn (by exact rfl))) ?_
      refine Eq.trans (zY_step (by exact rfl) (by exact dX3_seats_60) (by exact rfl) (pc' := 62) (S' := [zI x4, zR (some 38)]) (by exact rfl) (zcn (by exact rfl))) ?_
      refine Eq.trans (zY_step (by exact rfl) (by exact dX3_seats_62) (by exact rfl) (pc' := 63) (S' := [zI 1, zI x4, zR (some 38)]) (by exact rfl) (zcn (by exact rfl))) ?_
      exact zY_S (by exact rfl) (by exact dX3_seats_63) (by exact rfl) (by exact Or.inl rfl) (as := [zI x4, zI 1]) (S' := [zR (some 38)]) (by exact rfl) (by exact rfl) (by exact Nat.le_of_ble_eq_true rfl) (by exact Nat.le_of_ble_eq_true rfl) (zcn (by exact rfl))
theorem b_X3_seats_112 (d : Nat) (y0 x3 x4 : Int) (σ : zS) : zq (d + 1) mX3_seats 112 [some (zR (some 36)), none, none, some (zI x3), some (zI x4)] [zI y0] σ = (if nrm (σ 36 12) < nrm y0 then (zc d mX3_joyAll [zR (some 38)] σ).bind fun r => zq (d + 1) mX3_seats 128 [some (zR (some 36)), none, none, some (zI x3), some (zI x4)] (r.1.toList ++ [zR (some 36)]) r.2 else some (none, σ)) := by
  refine Eq.trans (zY_step (by exact rfl) (by exact dX3_seats_112) (by exact rfl) (pc' := 113) (S' := [zR (some 36), zI y0]) (by exact rfl) (zcn (by exact rfl))) ?_
  refine Eq.trans (zY_getI (by exact rfl) (by exact dX3_seats_113) (by exact rfl) (by exact rfl) (by exact rfl) (zcn (by exact rfl))) ?_
  refine Eq.trans (zY_ic_gt (by exact rfl) (by exact dX3_seats_116) (t := 120) (by exact rfl) (a2 := nrm y0) (b2 := nrm (σ 36 12)) (by exact rfl) (by exact rfl) (zcn (by exact rfl)) (zcn (by exact rfl))) (zif ?_ ?_)
  · refine Eq.trans (zY_step (by exact rfl) (by exact dX3_seats_120) (by exact rfl) (pc' := 121) (S' := [zR (some 36)]) (by exact rfl) (zcn (by exact rfl))) ?_
    refine Eq.trans (zY_step (by exact rfl) (by exact dX3_seats_121) (by exact rfl) (pc' := 122) (S' := [zR (some 36), zR (some 36)]) (by exact rfl) (zcn (by exact rfl))) ?_
    refine Eq.trans (zY_getR (by exact rfl) (by exact dX3_seats_122) (by exact rfl) (by exact rfl) (t := 38) (by exact rfl) (zcn (by exact rfl))) ?_
    exact zY_S (by exact rfl) (by exact dX3_seats_125) (by exact rfl) (by exact Or.inl rfl) (as := [zR (some 38)]) (S' := [zR (some 36)]) (by exact rfl) (by exact rfl) (by exact Nat.le_of_ble_eq_true rfl) (by exact Nat.le_of_ble_eq_true rfl) (zcn (by exact rfl))
  · exact zq_ret (by exact dX3_seats_119) (by exact rfl) (rv := none) (by exact rfl)
theorem b_X3_seats_66 (d : Nat) (y0 x3 x4 : Int) (σ : zS) : zq (d + 1) mX3_seats 66 [some (zR (some 36)), none, none, some (zI x3), some (zI x4)] [zI y0, zR (some 38)] σ = (if zix x4 8 then (zc d mX3_of [zI (σ 43 (nrm x4).toNat), zI 1] σ).bind fun r => zq (d + 1) mX3_seats 81 [some (zR (some 36)), none, none, some (zI x3), some (zI x4)] (r.1.toList ++ [zR (some 37), zI y0, zR (some 38)]) r.2 else none) := by
  refine Eq.trans (zY_step (by exact rfl) (by exact dX3_seats_66) (by exact rfl) (pc' := 67) (S' := [zR (some 36), zI y0, zR (some 38)]) (by exact rfl) (zcn (by exact rfl))) ?_
  refine Eq.trans (zY_getR (by exact rfl) (by exact dX3_seats_67) (by exact rfl) (by exact rfl) (t := 37) (by exact rfl) (zcn (by exact rfl))) ?_
  refine Eq.trans (zY_step (by exact rfl) (by exact dX3_seats_70) (by exact rfl) (pc' := 71) (S' := [zR (some 36), zR (some 37), zI y0, zR (some 38)]) (by exact rfl) (zcn (by exact rfl))) ?_
  refine Eq.trans (zY_getR (by exact rfl) (by exact dX3_seats_71) (by exact rfl) (by exact rfl) (t := 43) (by exact rfl) (zcn (by exact rfl))) ?_
  refine Eq.trans (zY_step (by exact rfl) (by exact dX3_seats_74) (by exact rfl) (pc' := 76) (S' := [zI x4, zR (some 43), zR (some 37), zI y0, zR (some 38)]) (by exact rfl) (zcn (by exact rfl))) ?_
  refine Eq.trans (zY_iald (by exact rfl) (by exact dX3_seats_76) (by exact rfl) (by exact rfl) (zcn (by exact rfl))) (zif ?_ rfl)
  · refine Eq.trans (zY_step (by exact rfl) (by exact dX3_seats_77) (by exact rfl) (pc' := 78) (S' := [zI 1, zI (σ 43 (nrm x4).toNat), zR (some 37), zI y0, zR (some 38)]) (by exact rfl) (zcn (by exact rfl))) ?_
    exact zY_S (by exact rfl) (by exact dX3_seats_78) (by exact rfl) (by exact Or.inl rfl) (as := [zI (σ 43 (nrm x4).toNat), zI 1]) (S' := [zR (some 37), zI y0, zR (some 38)]) (by exact rfl) (by exact rfl) (by exact Nat.le_of_ble_eq_true rfl) (by exact Nat.le_of_ble_eq_true rfl) (zcn (by exact rfl))
theorem b_X3_seats_128 (d : Nat) (y0 x3 x4 : Int) (σ : zS) : zq d mX3_seats 128 [some (zR (some 36)), none, none, some (zI x3), some (zI x4)] [zI y0, zR (some 36)] σ = zq d mX3_seats 134 [some (zR (some 36)), none, none, none, some (zI 0)] [] (zup σ 36 12 y0) := by
  refine Eq.trans (zY_putI (by exact rfl) (by exact dX3_seats_128) (by exact rfl) (by exact rfl) (by exact rfl) (by exact fun h => absurd h (by decide)) (zcn (by exact rfl))) ?_
  refine Eq.trans (zY_step (by exact rfl) (by exact dX3_seats_131) (by exact rfl) (pc' := 132) (S' := [zI 0]) (by exact rfl) (zcn (by exact rfl))) ?_
  exact zY_step (by exact rfl) (by exact dX3_seats_132) (by exact rfl) (pc' := 134) (L' := [some (zR (some 36)), none, none, some (zI x3), some (zI 0)]) (S' := []) (L2 := [some (zR (some 36)), none, none, none, some (zI 0)]) (by exact rfl) (by exact rfl)
theorem b_X3_seats_81 (d : Nat) (y0 y2 x3 x4 : Int) (σ : zS) : zq d mX3_seats 81 [some (zR (some 36)), none, none, some (zI x3), some (zI x4)] [zI y0, zR (some 37), zI y2, zR (some 38)] σ = (if zix y0 35 then (if zix y2 35 then zq d mX3_seats 18 [some (zR (some 36)), none, none, some (zI x3), some (zI (x4 + 1))] [] (zup σ 38 (nrm y2).toNat (σ 37 (nrm y0).toNat)) else none) else none) := by
  refine Eq.trans (zY_iald (by exact rfl) (by exact dX3_seats_81) (by exact rfl) (by exact rfl) (zcn (by exact rfl))) (zif ?_ rfl)
  · refine Eq.trans (zY_iast (by exact rfl) (by exact dX3_seats_82) (by exact rfl) (by exact rfl) (zcn (by exact rfl))) (zif ?_ rfl)
    · refine Eq.trans (zY_step (by exact rfl) (by exact dX3_seats_83) (by exact rfl) (pc' := 86) (L' := [some (zR (some 36)), none, none, some (zI x3), some (zI (x4 + 1))]) (S' := []) (by exact rfl) (zcn (by exact rfl))) ?_
      exact zY_step (by exact rfl) (by exact dX3_seats_86) (by exact rfl) (pc' := 18) (S' := []) (L2 := [some (zR (some 36)), none, none, some (zI x3), some (zI (x4 + 1))]) (by exact rfl) (by exact rfl)
theorem b_X3_seats_134 (d : Nat) (x4 : Int) (σ : zS) : zq d mX3_seats 134 [some (zR (some 36)), none, none, none, some (zI x4)] [] σ = (if 8 ≤ nrm x4 then some (none, σ) else (if zix x4 8 then (if zix x4 8 then zq d mX3_seats 134 [some (zR (some 36)), none, none, none, some (zI (x4 + 1))] [] (zup σ 44 (nrm x4).toNat (σ 43 (nrm x4).toNat)) else none) else none)) := by
  refine Eq.trans (zY_step (by exact rfl) (by exact dX3_seats_134) (by exact rfl) (pc' := 136) (S' := [zI x4]) (by exact rfl) (zcn (by exact rfl))) ?_
  refine Eq.trans (zY_step (by exact rfl) (by exact dX3_seats_136) (by exact rfl) (pc' := 138) (S' := [zI 8, zI x4]) (by exact rfl) (zcn (by exact rfl))) ?_
  refine Eq.trans (zY_ic_ge (by exact rfl) (by exact dX3_seats_138) (t := 161) (by exact rfl) (a2 := nrm x4) (b2 := 8) (by exact rfl) (by decide) (zcn (by exact rfl)) (zcn (by exact rfl))) (zif ?_ ?_)
  · exact zq_ret (by exact dX3_seats_161) (by exact rfl) (rv := none) (by exact rfl)
  · refine Eq.trans (zY_step (by exact rfl) (by exact dX3_seats_141) (by exact rfl) (pc' := 142) (S' := [zR (some 36)]) (by exact rfl) (zcn (by exact rfl))) ?_
    refine Eq.trans (zY_getR (by exact rfl) (by exact dX3_seats_142) (by exact rfl) (by exact rfl) (t := 44) (by exact rfl) (zcn (by exact rfl))) ?_
    refine Eq.trans (zY_step (by exact rfl) (by exact dX3_seats_145) (by exact rfl) (pc' := 147) (S' := [zI x4, zR (some 44)]) (by exact rfl) (zcn (by exact rfl))) ?_
    refine Eq.trans (zY_step (by exact rfl) (by exact dX3_seats_147) (by exact rfl) (pc' := 148) (S' := [zR (some 36), zI x4, zR (some 44)]) (by exact rfl) (zcn (by exact rfl))) ?_
    refine Eq.trans (zY_getR (by exact rfl) (by exact dX3_seats_148) (by exact rfl) (by exact rfl) (t := 43) (by exact rfl) (zcn (by exact rfl))) ?_
    refine Eq.trans (zY_step (by exact rfl) (by exact dX3_seats_151) (by exact rfl) (pc' := 153) (S' := [zI x4, zR (some 43), zI x4, zR (some 44)]) (by exact rfl) (zcn (by exact rfl))) ?_
    refine Eq.trans (zY_iald (by exact rfl) (by exact dX3_seats_153) (by exact rfl) (by exact rfl) (zcn (by exact rfl))) (zif ?_ rfl)
    · refine Eq.trans (zY_iast (by exact rfl) (by exact dX3_seats_154) (by exact rfl) (by exact rfl) (zcn (by exact rfl))) (zif ?_ rfl)
      · refine Eq.trans (zY_step (by exact rfl) (by exact dX3_seats_155) (by exact rfl) (pc' := 158) (L' := [some (zR (some 36)), none, none, none, some (zI (x4 + 1))]) (S' := []) (by exact rfl) (zcn (by exact rfl))) ?_
        exact zY_step (by exact rfl) (by exact dX3_seats_158) (by exact rfl) (pc' := 134) (S' := []) (L2 := [some (zR (some 36)), none, none, none, some (zI (x4 + 1))]) (by exact rfl) (by exact rfl)
theorem e_X3_order (d : Nat) (x1 x2 : Int) (σ : zS) : zc (d + 1) mX3_order [zR (some 36), zI x1, zI x2] σ = (zc d mX3_isIn [zI x1, zI 0, zI 9] σ).bind fun r => zq (d + 1) mX3_order 7 [some (zR (some 36)), some (zI x1), some (zI x2)] (r.1.toList ++ []) r.2 := by
  refine Eq.trans (zc_zq (L := [some (zR (some 36)), some (zI x1), some (zI x2)]) (by exact rfl)) ?_
  refine Eq.trans (zY_step (by exact rfl) (by exact dX3_order_0) (by exact rfl) (pc' := 1) (S' := [zI x1]) (by exact rfl) (zcn (by exact rfl))) ?_
  refine Eq.trans (zY_step (by exact rfl) (by exact dX3_order_1) (by exact rfl) (pc' := 2) (S' := [zI 0, zI x1]) (by exact rfl) (zcn (by exact rfl))) ?_
  refine Eq.trans (zY_step (by exact rfl) (by exact dX3_order_2) (by exact rfl) (pc' := 4) (S' := [zI 9, zI 0, zI x1]) (by exact rfl) (zcn (by exact rfl))) ?_
  exact zY_S (by exact rfl) (by exact dX3_order_4) (by exact rfl) (by exact Or.inl rfl) (as := [zI x1, zI 0, zI 9]) (S' := []) (by exact rfl) (by exact rfl) (by exact Nat.le_of_ble_eq_true rfl) (by exact Nat.le_of_ble_eq_true rfl) (zcn (by exact rfl))
theorem b_X3_order_7 (d : Nat) (y0 x1 x2 : Int) (σ : zS) : zq (d + 1) mX3_order 7 [some (zR (some 36)), some (zI x1), some (zI x2)] [zI y0] σ = (if nrm y0 = 0 then some (some (zI 1000000001), σ) else (if nrm x2 = (-1) then zq (d + 1) mX3_order 26 [some (zR (some 36)), some (zI x1), some (zI x2)] [] σ else (zc d mX3_isRow [zR (some 36), zI x2] σ).bind fun r => zq (d + 1) mX3_order 20 [some (zR (some 36)), some (zI x1), some (zI x2)] (r.1.toList ++ []) r.2)) := by
  refine Eq.trans (zY_if_eq (by exact rfl) (by exact dX3_order_7) (t := 23) (by exact rfl) (a2 := nrm y0) (by exact rfl) (L1 := [none, none, none]) (by exact rfl) (zcn (by exact rfl))) (zif ?_ ?_)
  · refine Eq.trans (zY_step (by exact rfl) (by exact dX3_order_23) (by exact rfl) (pc' := 25) (S' := [zI 1000000001]) (by exact rfl) (zcn (by exact rfl))) ?_
    exact zq_ret (by exact dX3_order_25) (by exact rfl) (rv := some (zI 1000000001)) (by exact rfl)
  · refine Eq.trans (zY_step (by exact rfl) (by exact dX3_order_10) (by exact rfl) (pc' := 11) (S' := [zI x2]) (by exact rfl) (zcn (by exact rfl))) ?_
    refine Eq.trans (zY_step (by exact rfl) (by exact dX3_order_11) (by exact rfl) (pc' := 12) (S' := [zI ((-1)), zI x2]) (by exact rfl) (zcn (by exact rfl))) ?_
    refine Eq.trans (zY_ic_eq (by exact rfl) (by exact dX3_order_12) (t := 26) (by exact rfl) (a2 := nrm x2) (b2 := (-1)) (by exact rfl) (by decide) (zcn (by exact rfl)) (zcn (by exact rfl))) (zif ?_ ?_)
    · exact rfl
    · refine Eq.trans (zY_step (by exact rfl) (by exact dX3_order_15) (by exact rfl) (pc' := 16) (S' := [zR (some 36)]) (by exact rfl) (zcn (by exact rfl))) ?_
      refine Eq.trans (zY_step (by exact rfl) (by exact dX3_order_16) (by exact rfl) (pc' := 17) (S' := [zI x2, zR (some 36)]) (by exact rfl) (zcn (by exact rfl))) ?_
      exact zY_V (by exact rfl) (by exact dX3_order_17) (by exact rfl) (as := [zI x2]) (S' := []) (by exact rfl) (by exact rfl) (by exact rfl) (by exact Nat.le_of_ble_eq_true rfl) (by exact Nat.le_of_ble_eq_true rfl) (by exact Nat.le_of_ble_eq_true rfl) (zcn (by exact rfl))
theorem b_X3_order_26 (d : Nat) (x1 x2 : Int) (σ : zS) : zq (d + 1) mX3_order 26 [some (zR (some 36)), some (zI x1), some (zI x2)] [] σ = (if nrm (σ 37 0) ≤ 6 then (zc d mX3_seats [zR (some 36), zI 0, zI ((zshl 1 ((zup σ 36 12 ((-1000000000))) 37 0)) - 1), zI x1] (zup σ 36 12 ((-1000000000)))).bind fun r => zq (d + 1) mX3_order 62 [some (zR (some 36)), some (zI x1), some (zI x2)] (r.1.toList ++ []) r.2 else some (some (zI 1000000003), σ)) := by
  refine Eq.trans (zY_step (by exact rfl) (by exact dX3_order_26) (by exact rfl) (pc' := 27) (S' := [zR (some 36)]) (by exact rfl) (zcn (by exact rfl))) ?_
  refine Eq.trans (zY_getR (by exact rfl) (by exact dX3_order_27) (by exact rfl) (by exact rfl) (t := 37) (by exact rfl) (zcn (by exact rfl))) ?_
  refine Eq.trans (zY_step (by exact rfl) (by exact dX3_order_30) (by exact rfl) (pc' := 31) (S' := [zI 0, zR (some 37)]) (by exact rfl) (zcn (by exact rfl))) ?_
  refine Eq.trans (zY_ialdc (by exact rfl) (by exact dX3_order_31) (by exact rfl) (by exact rfl) (j := 0) (by decide) (by decide) (zcn (by exact rfl))) ?_
  refine Eq.trans (zY_step (by exact rfl) (by exact dX3_order_32) (by exact rfl) (pc' := 34) (S' := [zI 6, zI (σ 37 0)]) (by exact rfl) (zcn (by exact rfl))) ?_
  refine Eq.trans (zY_ic_le (by exact rfl) (by exact dX3_order_34) (t := 40) (by exact rfl) (a2 := nrm (σ 37 0)) (b2 := 6) (by exact rfl) (by decide) (zcn (by exact rfl)) (zcn (by exact rfl))) (zif ?_ ?_)
  · refine Eq.trans (zY_step (by exact rfl) (by exact dX3_order_40) (by exact rfl) (pc' := 41) (S' := [zR (some 36)]) (by exact rfl) (zcn (by exact rfl))) ?_
    refine Eq.trans (zY_step (by exact rfl) (by exact dX3_order_41) (by exact rfl) (pc' := 43) (S' := [zI ((-1000000000)), zR (some 36)]) (by exact rfl) (zcn (by exact rfl))) ?_
    refine Eq.trans (zY_putI (by exact rfl) (by exact dX3_order_43) (by exact rfl) (by exact rfl) (by exact rfl) (by exact fun h => absurd h (by decide)) (zcn (by exact rfl))) ?_
    refine Eq.trans (zY_step (by exact rfl) (by exact dX3_order_46) (by exact rfl) (pc' := 47) (S' := [zR (some 36)]) (by exact rfl) (zcn (by exact rfl))) ?_
    refine Eq.trans (zY_step (by exact rfl) (by exact dX3_order_47) (by exact rfl) (pc' := 48) (S' := [zI 0, zR (some 36)]) (by exact rfl) (zcn (by exact rfl))) ?_
    refine Eq.trans (zY_step (by exact rfl) (by exact dX3_order_48) (by exact rfl) (pc' := 49) (S' := [zI 1, zI 0, zR (some 36)]) (by exact rfl) (zcn (by exact rfl))) ?_
    refine Eq.trans (zY_step (by exact rfl) (by exact dX3_order_49) (by exact rfl) (pc' := 50) (S' := [zR (some 36), zI 1, zI 0, zR (some 36)]) (by exact rfl) (zcn (by exact rfl))) ?_
    refine Eq.trans (zY_getR (by exact rfl) (by exact dX3_order_50) (by exact rfl) (by exact rfl) (t := 37) (by exact rfl) (zcn (by exact rfl))) ?_
    refine Eq.trans (zY_step (by exact rfl) (by exact dX3_order_53) (by exact rfl) (pc' := 54) (S' := [zI 0, zR (some 37), zI 1, zI 0, zR (some 36)]) (by exact rfl) (zcn (by exact rfl))) ?_
    refine Eq.trans (zY_ialdc (by exact rfl) (by exact dX3_order_54) (by exact rfl) (by exact rfl) (j := 0) (by decide) (by decide) (zcn (by exact rfl))) ?_
    refine Eq.trans (zY_step (by exact rfl) (by exact dX3_order_55) (by exact rfl) (pc' := 56) (S' := [zI (zshl 1 ((zup σ 36 12 ((-1000000000))) 37 0)), zI 0, zR (some 36)]) (by exact rfl) (zcn (by exact rfl))) ?_
    refine Eq.trans (zY_step (by exact rfl) (by exact dX3_order_56) (by exact rfl) (pc' := 57) (S' := [zI 1, zI (zshl 1 ((zup σ 36 12 ((-1000000000))) 37 0)), zI 0, zR (some 36)]) (by exact rfl) (zcn (by exact rfl))) ?_
    refine Eq.trans (zY_step (by exact rfl) (by exact dX3_order_57) (by exact rfl) (pc' := 58) (S' := [zI ((zshl 1 ((zup σ 36 12 ((-1000000000))) 37 0)) - 1), zI 0, zR (some 36)]) (by exact rfl) (zcn (by exact rfl))) ?_
    refine Eq.trans (zY_step (by exact rfl) (by exact dX3_order_58) (by exact rfl) (pc' := 59) (S' := [zI x1, zI ((zshl 1 ((zup σ 36 12 ((-1000000000))) 37 0)) - 1), zI 0, zR (some 36)]) (by exact rfl) (zcn (by exact rfl))) ?_
    exact zY_V (by exact rfl) (by exact dX3_order_59) (by exact rfl) (as := [zI 0, zI ((zshl 1 ((zup σ 36 12 ((-1000000000))) 37 0)) - 1), zI x1]) (S' := []) (by exact rfl) (by exact rfl) (by exact rfl) (by exact Nat.le_of_ble_eq_true rfl) (by exact Nat.le_of_ble_eq_true rfl) (by exact Nat.le_of_ble_eq_true rfl) (zcn (by exact rfl))
  · refine Eq.trans (zY_step (by exact rfl) (by exact dX3_order_37) (by exact rfl) (pc' := 39) (S' := [zI 1000000003]) (by exact rfl) (zcn (by exact rfl))) ?_
    exact zq_ret (by exact dX3_order_39) (by exact rfl) (rv := some (zI 1000000003)) (by exact rfl)
theorem b_X3_order_20 (d : Nat) (y0 x1 x2 : Int) (σ : zS) : zq d mX3_order 20 [some (zR (some 36)), some (zI x1), some (zI x2)] [zI y0] σ = (if ¬ nrm y0 = 0 then zq d mX3_order 26 [some (zR (some 36)), some (zI x1), some (zI x2)] [] σ else some (some (zI 1000000001), σ)) := by
  refine Eq.trans (zY_if_ne (by exact rfl) (by exact dX3_order_20) (t := 26) (by exact rfl) (a2 := nrm y0) (by exact rfl) (L2 := [none, none, none]) (zcn (by exact rfl)) (by exact rfl)) (zif ?_ ?_)
  · exact rfl
  · refine Eq.trans (zY_step (by exact rfl) (by exact dX3_order_23) (by exact rfl) (pc' := 25) (S' := [zI 1000000001]) (by exact rfl) (zcn (by exact rfl))) ?_
    exact zq_ret (by exact dX3_order_25) (by exact rfl) (rv := some (zI 1000000001)) (by exact rfl)
theorem b_X3_order_62 (d : Nat) (x1 x2 : Int) (σ : zS) : zq d mX3_order 62 [some (zR (some 36)), some (zI x1), some (zI x2)] [] σ = (if 0 ≤ nrm x2 then (if zix x2 8 then some (some (zI (σ 44 (nrm x2).toNat)), σ) else none) else some (some (zI (σ 36 12)), σ)) := by
  refine Eq.trans (zY_step (by exact rfl) (by exact dX3_order_62) (by exact rfl) (pc' := 63) (S' := [zI x2]) (by exact rfl) (zcn (by exact rfl))) ?_
  refine Eq.trans (zY_if_ge (by exact rfl) (by exact dX3_order_63) (t := 73) (by exact rfl) (a2 := nrm x2) (by exact rfl) (zcn (by exact rfl)) (zcn (by exact rfl))) (zif ?_ ?_)
  · refine Eq.trans (zY_step (by exact rfl) (by exact dX3_order_73) (by exact rfl) (pc' := 74) (S' := [zR (some 36)]) (by exact rfl) (zcn (by exact rfl))) ?_
    refine Eq.trans (zY_getR (by exact rfl) (by exact dX3_order_74) (by exact rfl) (by exact rfl) (t := 44) (by exact rfl) (zcn (by exact rfl))) ?_
    refine Eq.trans (zY_step (by exact rfl) (by exact dX3_order_77) (by exact rfl) (pc' := 78) (S' := [zI x2, zR (some 44)]) (by exact rfl) (zcn (by exact rfl))) ?_
    refine Eq.trans (zY_iald (by exact rfl) (by exact dX3_order_78) (by exact rfl) (by exact rfl) (by exact rfl)) (zif ?_ rfl)
    · exact zq_ret (by exact dX3_order_79) (by exact rfl) (rv := some (zI (σ 44 (nrm x2).toNat))) (by exact rfl)
  · refine Eq.trans (zY_step (by exact rfl) (by exact dX3_order_66) (by exact rfl) (pc' := 67) (S' := [zR (some 36)]) (by exact rfl) (zcn (by exact rfl))) ?_
    refine Eq.trans (zY_getI (by exact rfl) (by exact dX3_order_67) (by exact rfl) (by exact rfl) (by exact rfl) (zcn (by exact rfl))) ?_
    refine Eq.trans (zY_step (by exact rfl) (by exact dX3_order_70) (by exact rfl) (pc' := 79) (S' := [zI (σ 36 12)]) (L2 := [none, none, none]) (by exact rfl) (by exact rfl)) ?_
    exact zq_ret (by exact dX3_order_79) (by exact rfl) (rv := some (zI (σ 36 12))) (by exact rfl)
theorem e_X3_swap (d : Nat) (x1 : Int) (σ : zS) : zc (d + 1) mX3_swap [zR (some 36), zI x1] σ = (zc d mX3_isIn [zI x1, zI 0, zI 60] σ).bind fun r => zq (d + 1) mX3_swap 7 [some (zR (some 36)), some (zI x1), none, none, none, none] (r.1.toList ++ []) r.2 := by
  refine Eq.trans (zc_zq (L := [some (zR (some 36)), some (zI x1), none, none, none, none]) (by exact rfl)) ?_
  refine Eq.trans (zY_step (by exact rfl) (by exact dX3_swap_0) (by exact rfl) (pc' := 1) (S' := [zI x1]) (by exact rfl) (zcn (by exact rfl))) ?_
  refine Eq.trans (zY_step (by exact rfl) (by exact dX3_swap_1) (by exact rfl) (pc' := 2) (S' := [zI 0, zI x1]) (by exact rfl) (zcn (by exact rfl))) ?_
  refine Eq.trans (zY_step (by exact rfl) (by exact dX3_swap_2) (by exact rfl) (pc' := 4) (S' := [zI 60, zI 0, zI x1]) (by exact rfl) (zcn (by exact rfl))) ?_
  exact zY_S (by exact rfl) (by exact dX3_swap_4) (by exact rfl) (by exact Or.inl rfl) (as := [zI x1, zI 0, zI 60]) (S' := []) (by exact rfl) (by exact rfl) (by exact Nat.le_of_ble_eq_true rfl) (by exact Nat.le_of_ble_eq_true rfl) (zcn (by exact rfl))
theorem b_X3_swap_7 (d : Nat) (y0 x1 : Int) (σ : zS) : zq (d + 1) mX3_swap 7 [some (zR (some 36)), some (zI x1), none, none, none, none] [zI y0] σ = (if ¬ nrm y0 = 0 then (zc d mX3_copies [zR (some 37), zR (some 38)] σ).bind fun r => zq (d + 1) mX3_swap 23 [some (zR (some 36)), some (zI x1), none, none, none, none] (r.1.toList ++ []) r.2 else some (some (zI ((-1))), σ)) := by
  refine Eq.trans (zY_if_ne (by exact rfl) (by exact dX3_swap_7) (t := 12) (by exact rfl) (a2 := nrm y0) (by exact rfl) (zcn (by exact rfl)) (zcn (by exact rfl))) (zif ?_ ?_)
  · refine Eq.trans (zY_step (by exact rfl) (by exact dX3_swap_12) (by exact rfl) (pc' := 13) (S' := [zR (some 36)]) (by exact rfl) (zcn (by exact rfl))) ?_
    refine Eq.trans (zY_getR (by exact rfl) (by exact dX3_swap_13) (by exact rfl) (by exact rfl) (t := 37) (by exact rfl) (zcn (by exact rfl))) ?_
    refine Eq.trans (zY_step (by exact rfl) (by exact dX3_swap_16) (by exact rfl) (pc' := 17) (S' := [zR (some 36), zR (some 37)]) (by exact rfl) (zcn (by exact rfl))) ?_
    refine Eq.trans (zY_getR (by exact rfl) (by exact dX3_swap_17) (by exact rfl) (by exact rfl) (t := 38) (by exact rfl) (zcn (by exact rfl))) ?_
    exact zY_S (by exact rfl) (by exact dX3_swap_20) (by exact rfl) (by exact Or.inl rfl) (as := [zR (some 37), zR (some 38)]) (S' := []) (by exact rfl) (by exact rfl) (by exact Nat.le_of_ble_eq_true rfl) (by exact Nat.le_of_ble_eq_true rfl) (zcn (by exact rfl))
  · refine Eq.trans (zY_step (by exact rfl) (by exact dX3_swap_10) (by exact rfl) (pc' := 11) (S' := [zI ((-1))]) (by exact rfl) (zcn (by exact rfl))) ?_
    exact zq_ret (by exact dX3_swap_11) (by exact rfl) (rv := some (zI ((-1)))) (by exact rfl)
theorem b_X3_swap_23 (d : Nat) (x1 : Int) (σ : zS) : zq (d + 1) mX3_swap 23 [some (zR (some 36)), some (zI x1), none, none, none, none] [] σ = (zc d mX3_upright [zR (some 38)] σ).bind fun r => zq (d + 1) mX3_swap 30 [some (zR (some 36)), some (zI x1), none, none, none, none] (r.1.toList ++ []) r.2 := by
  refine Eq.trans (zY_step (by exact rfl) (by exact dX3_swap_23) (by exact rfl) (pc' := 24) (S' := [zR (some 36)]) (by exact rfl) (zcn (by exact rfl))) ?_
  refine Eq.trans (zY_getR (by exact rfl) (by exact dX3_swap_24) (by exact rfl) (by exact rfl) (t := 38) (by exact rfl) (zcn (by exact rfl))) ?_
  exact zY_S (by exact rfl) (by exact dX3_swap_27) (by exact rfl) (by exact Or.inl rfl) (as := [zR (some 38)]) (S' := []) (by exact rfl) (by exact rfl) (by exact Nat.le_of_ble_eq_true rfl) (by exact Nat.le_of_ble_eq_true rfl) (zcn (by exact rfl))
theorem b_X3_swap_30 (d : Nat) (x1 : Int) (σ : zS) : zq (d + 1) mX3_swap 30 [some (zR (some 36)), some (zI x1), none, none, none, none] [] σ = (zc d mX3_roundsOn [zR (some 36), zR (some 38), zI x1] σ).bind fun r => zq (d + 1) mX3_swap 39 [some (zR (some 36)), some (zI x1), none, none, none, none] (r.1.toList ++ []) r.2 := by
  refine Eq.trans (zY_step (by exact rfl) (by exact dX3_swap_30) (by exact rfl) (pc' := 31) (S' := [zR (some 36)]) (by exact rfl) (zcn (by exact rfl))) ?_
  refine Eq.trans (zY_step (by exact rfl) (by exact dX3_swap_31) (by exact rfl) (pc' := 32) (S' := [zR (some 36), zR (some 36)]) (by exact rfl) (zcn (by exact rfl))) ?_
  refine Eq.trans (zY_getR (by exact rfl) (by exact dX3_swap_32) (by exact rfl) (by exact rfl) (t := 38) (by exact rfl) (zcn (by exact rfl))) ?_
  refine Eq.trans (zY_step (by exact rfl) (by exact dX3_swap_35) (by exact rfl) (pc' := 36) (S' := [zI x1, zR (some 38), zR (some 36)]) (by exact rfl) (zcn (by exact rfl))) ?_
  exact zY_V (by exact rfl) (by exact dX3_swap_36) (by exact rfl) (as := [zR (some 38), zI x1]) (S' := []) (by exact rfl) (by exact rfl) (by exact rfl) (by exact Nat.le_of_ble_eq_true rfl) (by exact Nat.le_of_ble_eq_true rfl) (by exact Nat.le_of_ble_eq_true rfl) (zcn (by exact rfl))
theorem b_X3_swap_39 (d : Nat) (x1 : Int) (σ : zS) : zq (d + 1) mX3_swap 39 [some (zR (some 36)), some (zI x1), none, none, none, none] [] σ = (zc d mX3_joyAll [zR (some 38)] σ).bind fun r => zq (d + 1) mX3_swap 49 [some (zR (some 36)), some (zI x1), some (zI ((-4))), none, none, none] (r.1.toList ++ []) r.2 := by
  refine Eq.trans (zY_step (by exact rfl) (by exact dX3_swap_39) (by exact rfl) (pc' := 41) (S' := [zI ((-4))]) (by exact rfl) (zcn (by exact rfl))) ?_
  refine Eq.trans (zY_step (by exact rfl) (by exact dX3_swap_41) (by exact rfl) (pc' := 42) (L' := [some (zR (some 36)), some (zI x1), some (zI ((-4))), none, none, none]) (S' := []) (by exact rfl) (zcn (by exact rfl))) ?_
  refine Eq.trans (zY_step (by exact rfl) (by exact dX3_swap_42) (by exact rfl) (pc' := 43) (S' := [zR (some 36)]) (by exact rfl) (zcn (by exact rfl))) ?_
  refine Eq.trans (zY_getR (by exact rfl) (by exact dX3_swap_43) (by exact rfl) (by exact rfl) (t := 38) (by exact rfl) (zcn (by exact rfl))) ?_
  exact zY_S (by exact rfl) (by exact dX3_swap_46) (by exact rfl) (by exact Or.inl rfl) (as := [zR (some 38)]) (S' := []) (by exact rfl) (by exact rfl) (by exact Nat.le_of_ble_eq_true rfl) (by exact Nat.le_of_ble_eq_true rfl) (zcn (by exact rfl))
theorem b_X3_swap_49 (d : Nat) (y0 x1 x2 : Int) (σ : zS) : zq d mX3_swap 49 [some (zR (some 36)), some (zI x1), some (zI x2), none, none, none] [zI y0] σ = zq d mX3_swap 53 [some (zR (some 36)), some (zI x1), some (zI x2), some (zI y0), some (zI 0), none] [] σ := by
  refine Eq.trans (zY_step (by exact rfl) (by exact dX3_swap_49) (by exact rfl) (pc' := 50) (L' := [some (zR (some 36)), some (zI x1), some (zI x2), some (zI y0), none, none]) (S' := []) (by exact rfl) (zcn (by exact rfl))) ?_
  refine Eq.trans (zY_step (by exact rfl) (by exact dX3_swap_50) (by exact rfl) (pc' := 51) (S' := [zI 0]) (by exact rfl) (zcn (by exact rfl))) ?_
  exact zY_step (by exact rfl) (by exact dX3_swap_51) (by exact rfl) (pc' := 53) (L' := [some (zR (some 36)), some (zI x1), some (zI x2), some (zI y0), some (zI 0), none]) (S' := []) (L2 := [some (zR (some 36)), some (zI x1), some (zI x2), some (zI y0), some (zI 0), none]) (by exact rfl) (by exact rfl)
theorem b_X3_swap_53 (d : Nat) (x1 x2 x3 x4 : Int) (σ : zS) : zq d mX3_swap 53 [some (zR (some 36)), some (zI x1), some (zI x2), some (zI x3), some (zI x4), none] [] σ = (if nrm (σ 37 0) ≤ nrm x4 then some (some (zI x2), σ) else zq d mX3_swap 70 [some (zR (some 36)), some (zI x1), some (zI x2), some (zI x3), some (zI x4), some (zI (x4 + 1))] [] σ) := by
  refine Eq.trans (zY_step (by exact rfl) (by exact dX3_swap_53) (by exact rfl) (pc' := 55) (S' := [zI x4]) (by exact rfl) (zcn (by exact rfl))) ?_
  refine Eq.trans (zY_step (by exact rfl) (by exact dX3_swap_55) (by exact rfl) (pc' := 56) (S' := [zR (some 36), zI x4]) (by exact rfl) (zcn (by exact rfl))) ?_
  refine Eq.trans (zY_getR (by exact rfl) (by exact dX3_swap_56) (by exact rfl) (by exact rfl) (t := 37) (by exact rfl) (zcn (by exact rfl))) ?_
  refine Eq.trans (zY_step (by exact rfl) (by exact dX3_swap_59) (by exact rfl) (pc' := 60) (S' := [zI 0, zR (some 37), zI x4]) (by exact rfl) (zcn (by exact rfl))) ?_
  refine Eq.trans (zY_ialdc (by exact rfl) (by exact dX3_swap_60) (by exact rfl) (by exact rfl) (j := 0) (by decide) (by decide) (zcn (by exact rfl))) ?_
  refine Eq.trans (zY_ic_ge (by exact rfl) (by exact dX3_swap_61) (t := 155) (by exact rfl) (a2 := nrm x4) (b2 := nrm (σ 37 0)) (by exact rfl) (by exact rfl) (zcn (by exact rfl)) (zcn (by exact rfl))) (zif ?_ ?_)
  · refine Eq.trans (zY_step (by exact rfl) (by exact dX3_swap_155) (by exact rfl) (pc' := 156) (S' := [zI x2]) (by exact rfl) (zcn (by exact rfl))) ?_
    exact zq_ret (by exact dX3_swap_156) (by exact rfl) (rv := some (zI x2)) (by exact rfl)
  · refine Eq.trans (zY_step (by exact rfl) (by exact dX3_swap_64) (by exact rfl) (pc' := 66) (S' := [zI x4]) (by exact rfl) (zcn (by exact rfl))) ?_
    refine Eq.trans (zY_step (by exact rfl) (by exact dX3_swap_66) (by exact rfl) (pc' := 67) (S' := [zI 1, zI x4]) (by exact rfl) (zcn (by exact rfl))) ?_
    refine Eq.trans (zY_step (by exact rfl) (by exact dX3_swap_67) (by exact rfl) (pc' := 68) (S' := [zI (x4 + 1)]) (by exact rfl) (zcn (by exact rfl))) ?_
    exact zY_step (by exact rfl) (by exact dX3_swap_68) (by exact rfl) (pc' := 70) (L' := [some (zR (some 36)), some (zI x1), some (zI x2), some (zI x3), some (zI x4), some (zI (x4 + 1))]) (S' := []) (by exact rfl) (zcn (by exact rfl))
theorem b_X3_swap_70 (d : Nat) (x1 x2 x3 x4 x5 : Int) (σ : zS) : zq (d + 1) mX3_swap 70 [some (zR (some 36)), some (zI x1), some (zI x2), some (zI x3), some (zI x4), some (zI x5)] [] σ = (if nrm (σ 37 0) ≤ nrm x5 then zq (d + 1) mX3_swap 53 [some (zR (some 36)), some (zI x1), some (zI x2), some (zI x3), some (zI (x4 + 1)), none] [] σ else (zc d mX3_copies [zR (some 37), zR (some 38)] σ).bind fun r => zq (d + 1) mX3_swap 92 [some (zR (some 36)), some (zI x1), some (zI x2), some (zI x3), some (zI x4), some (zI x5)] (r.1.toList ++ []) r.2) := by
  refine Eq.trans (zY_step (by exact rfl) (by exact dX3_swap_70) (by exact rfl) (pc' := 72) (S' := [zI x5]) (by exact rfl) (zcn (by exact rfl))) ?_
  refine Eq.trans (zY_step (by exact rfl) (by exact dX3_swap_72) (by exact rfl) (pc' := 73) (S' := [zR (some 36), zI x5]) (by exact rfl) (zcn (by exact rfl))) ?_
  refine Eq.trans (zY_getR (by exact rfl) (by exact dX3_swap_73) (by exact rfl) (by exact rfl) (t := 37) (by exact rfl) (zcn (by exact rfl))) ?_
  refine Eq.trans (zY_step (by exact rfl) (by exact dX3_swap_76) (by exact rfl) (pc' := 77) (S' := [zI 0, zR (some 37), zI x5]) (by exact rfl) (zcn (by exact rfl))) ?_
  refine Eq.trans (zY_ialdc (by exact rfl) (by exact dX3_swap_77) (by exact rfl) (by exact rfl) (j := 0) (by decide) (by decide) (zcn (by exact rfl))) ?_
  refine Eq.trans (zY_ic_ge (by exact rfl) (by exact dX3_swap_78) (t := 149) (by exact rfl) (a2 := nrm x5) (b2 := nrm (σ 37 0)) (by exact rfl) (by exact rfl) (zcn (by exact rfl)) (zcn (by exact rfl))) (zif ?_ ?_)
  · refine Eq.trans (zY_step (by exact rfl) (by exact dX3_swap_149) (by exact rfl) (pc' := 152) (L' := [some (zR (some 36)), some (zI x1), some (zI x2), some (zI x3), some (zI (x4 + 1)), some (zI x5)]) (S' := []) (by exact rfl) (zcn (by exact rfl))) ?_
    exact zY_step (by exact rfl) (by exact dX3_swap_152) (by exact rfl) (pc' := 53) (S' := []) (L2 := [some (zR (some 36)), some (zI x1), some (zI x2), some (zI x3), some (zI (x4 + 1)), none]) (by exact rfl) (by exact rfl)
  · refine Eq.trans (zY_step (by exact rfl) (by exact dX3_swap_81) (by exact rfl) (pc' := 82) (S' := [zR (some 36)]) (by exact rfl) (zcn (by exact rfl))) ?_
    refine Eq.trans (zY_getR (by exact rfl) (by exact dX3_swap_82) (by exact rfl) (by exact rfl) (t := 37) (by exact rfl) (zcn (by exact rfl))) ?_
    refine Eq.trans (zY_step (by exact rfl) (by exact dX3_swap_85) (by exact rfl) (pc' := 86) (S' := [zR (some 36), zR (some 37)]) (by exact rfl) (zcn (by exact rfl))) ?_
    refine Eq.trans (zY_getR (by exact rfl) (by exact dX3_swap_86) (by exact rfl) (by exact rfl) (t := 38) (by exact rfl) (zcn (by exact rfl))) ?_
    exact zY_S (by exact rfl) (by exact dX3_swap_89) (by exact rfl) (by exact Or.inl rfl) (as := [zR (some 37), zR (some 38)]) (S' := []) (by exact rfl) (by exact rfl) (by exact Nat.le_of_ble_eq_true rfl) (by exact Nat.le_of_ble_eq_true rfl) (zcn (by exact rfl))
theorem b_X3_swap_92 (d : Nat) (x1 x2 x3 x4 x5 : Int) (σ : zS) : zq (d + 1) mX3_swap 92 [some (zR (some 36)), some (zI x1), some (zI x2), some (zI x3), some (zI x4), some (zI x5)] [] σ = (zc d mX3_changes [zR (some 38), zI x4, zI x5] σ).bind fun r => zq (d + 1) mX3_swap 103 [some (zR (some 36)), some (zI x1), some (zI x2), some (zI x3), some (zI x4), some (zI x5)] (r.1.toList ++ []) r.2 := by
  refine Eq.trans (zY_step (by exact rfl) (by exact dX3_swap_92) (by exact rfl) (pc' := 93) (S' := [zR (some 36)]) (by exact rfl) (zcn (by exact rfl))) ?_
  refine Eq.trans (zY_getR (by exact rfl) (by exact dX3_swap_93) (by exact rfl) (by exact rfl) (t := 38) (by exact rfl) (zcn (by exact rfl))) ?_
  refine Eq.trans (zY_step (by exact rfl) (by exact dX3_swap_96) (by exact rfl) (pc' := 98) (S' := [zI x4, zR (some 38)]) (by exact rfl) (zcn (by exact rfl))) ?_
  refine Eq.trans (zY_step (by exact rfl) (by exact dX3_swap_98) (by exact rfl) (pc' := 100) (S' := [zI x5, zI x4, zR (some 38)]) (by exact rfl) (zcn (by exact rfl))) ?_
  exact zY_S (by exact rfl) (by exact dX3_swap_100) (by exact rfl) (by exact Or.inl rfl) (as := [zR (some 38), zI x4, zI x5]) (S' := []) (by exact rfl) (by exact rfl) (by exact Nat.le_of_ble_eq_true rfl) (by exact Nat.le_of_ble_eq_true rfl) (zcn (by exact rfl))
theorem b_X3_swap_103 (d : Nat) (x1 x2 x3 x4 x5 : Int) (σ : zS) : zq (d + 1) mX3_swap 103 [some (zR (some 36)), some (zI x1), some (zI x2), some (zI x3), some (zI x4), some (zI x5)] [] σ = (zc d mX3_roundsOn [zR (some 36), zR (some 38), zI x1] σ).bind fun r => zq (d + 1) mX3_swap 112 [some (zR (some 36)), some (zI x1), some (zI x2), some (zI x3), some (zI x4), some (zI x5)] (r.1.toList ++ []) r.2 := by
  refine Eq.trans (zY_step (by exact rfl) (by exact dX3_swap_103) (by exact rfl) (pc' := 104) (S' := [zR (some 36)]) (by exact rfl) (zcn (by exact rfl))) ?_
  refine Eq.trans (zY_step (by exact rfl) (by exact dX3_swap_104) (by exact rfl) (pc' := 105) (S' := [zR (some 36), zR (some 36)]) (by exact rfl) (zcn (by exact rfl))) ?_
  refine Eq.trans (zY_getR (by exact rfl) (by exact dX3_swap_105) (by exact rfl) (by exact rfl) (t := 38) (by exact rfl) (zcn (by exact rfl))) ?_
  refine Eq.trans (zY_step (by exact rfl) (by exact dX3_swap_108) (by exact rfl) (pc' := 109) (S' := [zI x1, zR (some 38), zR (some 36)]) (by exact rfl) (zcn (by exact rfl))) ?_
  exact zY_V (by exact rfl) (by exact dX3_swap_109) (by exact rfl) (as := [zR (some 38), zI x1]) (S' := []) (by exact rfl) (by exact rfl) (by exact rfl) (by exact Nat.le_of_ble_eq_true rfl) (by exact Nat.le_of_ble_eq_true rfl) (by exact Nat.le_of_ble_eq_true rfl) (zcn (by exact rfl))
theorem b_X3_swap_112 (d : Nat) (x1 x2 x3 x4 x5 : Int) (σ : zS) : zq (d + 1) mX3_swap 112 [some (zR (some 36)), some (zI x1), some (zI x2), some (zI x3), some (zI x4), some (zI x5)] [] σ = (zc d mX3_joyAll [zR (some 38)] σ).bind fun r => zq (d + 1) mX3_swap 119 [some (zR (some 36)), some (zI x1), some (zI x2), some (zI x3), some (zI x4), some (zI x5)] (r.1.toList ++ []) r.2 := by
  refine Eq.trans (zY_step (by exact rfl) (by exact dX3_swap_112) (by exact rfl) (pc' := 113) (S' := [zR (some 36)]) (by exact rfl) (zcn (by exact rfl))) ?_
  refine Eq.trans (zY_getR (by exact rfl) (by exact dX3_swap_113) (by exact rfl) (by exact rfl) (t := 38) (by exact rfl) (zcn (by exact rfl))) ?_
  exact zY_S (by exact rfl) (by exact dX3_swap_116) (by exact rfl) (by exact Or.inl rfl) (as := [zR (some 38)]) (S' := []) (by exact rfl) (by exact rfl) (by exact Nat.le_of_ble_eq_true rfl) (by exact Nat.le_of_ble_eq_true rfl) (zcn (by exact rfl))
theorem b_X3_swap_119 (d : Nat) (y0 x1 x2 x3 x4 x5 : Int) (σ : zS) : zq (d + 1) mX3_swap 119 [some (zR (some 36)), some (zI x1), some (zI x2), some (zI x3), some (zI x4), some (zI x5)] [zI y0] σ = (if nrm x3 < nrm y0 then (zc d mX3_joyAll [zR (some 38)] σ).bind fun r => zq (d + 1) mX3_swap 142 [some (zR (some 36)), some (zI x1), some (zI ((10 * x4) + x5)), some (zI x3), some (zI x4), some (zI x5)] (r.1.toList ++ []) r.2 else zq (d + 1) mX3_swap 143 [some (zR (some 36)), some (zI x1), some (zI x2), some (zI x3), some (zI x4), some (zI x5)] [] σ) := by
  refine Eq.trans (zY_step (by exact rfl) (by exact dX3_swap_119) (by exact rfl) (pc' := 120) (S' := [zI x3, zI y0]) (by exact rfl) (zcn (by exact rfl))) ?_
  refine Eq.trans (zY_ic_gt (by exact rfl) (by exact dX3_swap_120) (t := 126) (by exact rfl) (a2 := nrm y0) (b2 := nrm x3) (by exact rfl) (by exact rfl) (zcn (by exact rfl)) (zcn (by exact rfl))) (zif ?_ ?_)
  · refine Eq.trans (zY_step (by exact rfl) (by exact dX3_swap_126) (by exact rfl) (pc' := 128) (S' := [zI 10]) (by exact rfl) (zcn (by exact rfl))) ?_
    refine Eq.trans (zY_step (by exact rfl) (by exact dX3_swap_128) (by exact rfl) (pc' := 130) (S' := [zI x4, zI 10]) (by exact rfl) (zcn (by exact rfl))) ?_
    refine Eq.trans (zY_step (by exact rfl) (by exact dX3_swap_130) (by exact rfl) (pc' := 131) (S' := [zI (10 * x4)]) (by exact rfl) (zcn (by exact rfl))) ?_
    refine Eq.trans (zY_step (by exact rfl) (by exact dX3_swap_131) (by exact rfl) (pc' := 133) (S' := [zI x5, zI (10 * x4)]) (by exact rfl) (zcn (by exact rfl))) ?_
    refine Eq.trans (zY_step (by exact rfl) (by exact dX3_swap_133) (by exact rfl) (pc' := 134) (S' := [zI ((10 * x4) + x5)]) (by exact rfl) (zcn (by exact rfl))) ?_
    refine Eq.trans (zY_step (by exact rfl) (by exact dX3_swap_134) (by exact rfl) (pc' := 135) (L' := [some (zR (some 36)), some (zI x1), some (zI ((10 * x4) + x5)), some (zI x3), some (zI x4), some (zI x5)]) (S' := []) (by exact rfl) (zcn (by exact rfl))) ?_
    refine Eq.trans (zY_step (by exact rfl) (by exact dX3_swap_135) (by exact rfl) (pc' := 136) (S' := [zR (some 36)]) (by exact rfl) (zcn (by exact rfl))) ?_
    refine Eq.trans (zY_getR (by exact rfl) (by exact dX3_swap_136) (by exact rfl) (by exact rfl) (t := 38) (by exact rfl) (zcn (by exact rfl))) ?_
    exact zY_S (by exact rfl) (by exact dX3_swap_139) (by exact rfl) (by exact Or.inl rfl) (as := [zR (some 38)]) (S' := []) (by exact rfl) (by exact rfl) (by exact Nat.le_of_ble_eq_true rfl) (by exact Nat.le_of_ble_eq_true rfl) (zcn (by exact rfl))
  · exact zY_step (by exact rfl) (by exact dX3_swap_123) (by exact rfl) (pc' := 143) (S' := []) (by exact rfl) (zcn (by exact rfl))
theorem b_X3_swap_142 (d : Nat) (y0 x1 x2 x3 x4 x5 : Int) (σ : zS) : zq d mX3_swap 142 [some (zR (some 36)), some (zI x1), some (zI x2), some (zI x3), some (zI x4), some (zI x5)] [zI y0] σ = zq d mX3_swap 143 [some (zR (some 36)), some (zI x1), some (zI x2), some (zI y0), some (zI x4), some (zI x5)] [] σ := by
  exact zY_step (by exact rfl) (by exact dX3_swap_142) (by exact rfl) (pc' := 143) (L' := [some (zR (some 36)), some (zI x1), some (zI x2), some (zI y0), some (zI x4), some (zI x5)]) (S' := []) (by exact rfl) (zcn (by exact rfl))
theorem b_X3_swap_143 (d : Nat) (x1 x2 x3 x4 x5 : Int) (σ : zS) : zq d mX3_swap 143 [some (zR (some 36)), some (zI x1), some (zI x2), some (zI x3), some (zI x4), some (zI x5)] [] σ = zq d mX3_swap 70 [some (zR (some 36)), some (zI x1), some (zI x2), some (zI x3), some (zI x4), some (zI (x5 + 1))] [] σ := by
  refine Eq.trans (zY_step (by exact rfl) (by exact dX3_swap_143) (by exact rfl) (pc' := 146) (L' := [some (zR (some 36)), some (zI x1), some (zI x2), some (zI x3), some (zI x4), some (zI (x5 + 1))]) (S' := []) (by exact rfl) (zcn (by exact rfl))) ?_
  exact zY_step (by exact rfl) (by exact dX3_swap_146) (by exact rfl) (pc' := 70) (S' := []) (by exact rfl) (zcn (by exact rfl))
theorem e_X3_stops (d : Nat) (x1 : Int) (σ : zS) : zc (d + 1) mX3_stops [zR (some 36), zI x1] σ = (zc d mX3_isIn [zI x1, zI 1, zI 60] σ).bind fun r => zq (d + 1) mX3_stops 7 [some (zR (some 36)), some (zI x1), none, none, none] (r.1.toList ++ []) r.2 := by
  refine Eq.trans (zc_zq (L := [some (zR (some 36)), some (zI x1), none, none, none]) (by exact rfl)) ?_
  refine Eq.trans (zY_step (by exact rfl) (by exact dX3_stops_0) (by exact rfl) (pc' := 1) (S' := [zI x1]) (by exact rfl) (zcn (by exact rfl))) ?_
  refine Eq.trans (zY_step (by exact rfl) (by exact dX3_stops_1) (by exact rfl) (pc' := 2) (S' := [zI 1, zI x1]) (by exact rfl) (zcn (by exact rfl))) ?_
  refine Eq.trans (zY_step (by exact rfl) (by exact dX3_stops_2) (by exact rfl) (pc' := 4) (S' := [zI 60, zI 1, zI x1]) (by exact rfl) (zcn (by exact rfl))) ?_
  exact zY_S (by exact rfl) (by exact dX3_stops_4) (by exact rfl) (by exact Or.inl rfl) (as := [zI x1, zI 1, zI 60]) (S' := []) (by exact rfl) (by exact rfl) (by exact Nat.le_of_ble_eq_true rfl) (by exact Nat.le_of_ble_eq_true rfl) (zcn (by exact rfl))
theorem b_X3_stops_7 (d : Nat) (y0 x1 : Int) (σ : zS) : zq d mX3_stops 7 [some (zR (some 36)), some (zI x1), none, none, none] [zI y0] σ = (if ¬ nrm y0 = 0 then zq d mX3_stops 25 [some (zR (some 36)), some (zI x1), some (zI ((zshl 1 (σ 37 0)) - 1)), some (zI 0), none] [] σ else some (some (zI ((-1))), σ)) := by
  refine Eq.trans (zY_if_ne (by exact rfl) (by exact dX3_stops_7) (t := 12) (by exact rfl) (a2 := nrm y0) (by exact rfl) (zcn (by exact rfl)) (zcn (by exact rfl))) (zif ?_ ?_)
  · refine Eq.trans (zY_step (by exact rfl) (by exact dX3_stops_12) (by exact rfl) (pc' := 13) (S' := [zI 1]) (by exact rfl) (zcn (by exact rfl))) ?_
    refine Eq.trans (zY_step (by exact rfl) (by exact dX3_stops_13) (by exact rfl) (pc' := 14) (S' := [zR (some 36), zI 1]) (by exact rfl) (zcn (by exact rfl))) ?_
    refine Eq.trans (zY_getR (by exact rfl) (by exact dX3_stops_14) (by exact rfl) (by exact rfl) (t := 37) (by exact rfl) (zcn (by exact rfl))) ?_
    refine Eq.trans (zY_step (by exact rfl) (by exact dX3_stops_17) (by exact rfl) (pc' := 18) (S' := [zI 0, zR (some 37), zI 1]) (by exact rfl) (zcn (by exact rfl))) ?_
    refine Eq.trans (zY_ialdc (by exact rfl) (by exact dX3_stops_18) (by exact rfl) (by exact rfl) (j := 0) (by decide) (by decide) (zcn (by exact rfl))) ?_
    refine Eq.trans (zY_step (by exact rfl) (by exact dX3_stops_19) (by exact rfl) (pc' := 20) (S' := [zI (zshl 1 (σ 37 0))]) (by exact rfl) (zcn (by exact rfl))) ?_
    refine Eq.trans (zY_step (by exact rfl) (by exact dX3_stops_20) (by exact rfl) (pc' := 21) (S' := [zI 1, zI (zshl 1 (σ 37 0))]) (by exact rfl) (zcn (by exact rfl))) ?_
    refine Eq.trans (zY_step (by exact rfl) (by exact dX3_stops_21) (by exact rfl) (pc' := 22) (S' := [zI ((zshl 1 (σ 37 0)) - 1)]) (by exact rfl) (zcn (by exact rfl))) ?_
    refine Eq.trans (zY_step (by exact rfl) (by exact dX3_stops_22) (by exact rfl) (pc' := 23) (L' := [some (zR (some 36)), some (zI x1), some (zI ((zshl 1 (σ 37 0)) - 1)), none, none]) (S' := []) (by exact rfl) (zcn (by exact rfl))) ?_
    refine Eq.trans (zY_step (by exact rfl) (by exact dX3_stops_23) (by exact rfl) (pc' := 24) (S' := [zI 0]) (by exact rfl) (zcn (by exact rfl))) ?_
    exact zY_step (by exact rfl) (by exact dX3_stops_24) (by exact rfl) (pc' := 25) (L' := [some (zR (some 36)), some (zI x1), some (zI ((zshl 1 (σ 37 0)) - 1)), some (zI 0), none]) (S' := []) (by exact rfl) (zcn (by exact rfl))
  · refine Eq.trans (zY_step (by exact rfl) (by exact dX3_stops_10) (by exact rfl) (pc' := 11) (S' := [zI ((-1))]) (by exact rfl) (zcn (by exact rfl))) ?_
    exact zq_ret (by exact dX3_stops_11) (by exact rfl) (rv := some (zI ((-1)))) (by exact rfl)
theorem b_X3_stops_25 (d : Nat) (x1 x2 x3 : Int) (σ : zS) : zq (d + 1) mX3_stops 25 [some (zR (some 36)), some (zI x1), some (zI x2), some (zI x3), none] [] σ = (if nrm (zshl 1 (σ 37 0)) ≤ nrm x3 then some (some (zI x2), σ) else (zc d mX3_bits [zI x3] σ).bind fun r => zq (d + 1) mX3_stops 41 [some (zR (some 36)), some (zI x1), some (zI x2), some (zI x3), none] (r.1.toList ++ []) r.2) := by
  refine Eq.trans (zY_step (by exact rfl) (by exact dX3_stops_25) (by exact rfl) (pc' := 26) (S' := [zI x3]) (by exact rfl) (zcn (by exact rfl))) ?_
  refine Eq.trans (zY_step (by exact rfl) (by exact dX3_stops_26) (by exact rfl) (pc' := 27) (S' := [zI 1, zI x3]) (by exact rfl) (zcn (by exact rfl))) ?_
  refine Eq.trans (zY_step (by exact rfl) (by exact dX3_stops_27) (by exact rfl) (pc' := 28) (S' := [zR (some 36), zI 1, zI x3]) (by exact rfl) (zcn (by exact rfl))) ?_
  refine Eq.trans (zY_getR (by exact rfl) (by exact dX3_stops_28) (by exact rfl) (by exact rfl) (t := 37) (by exact rfl) (zcn (by exact rfl))) ?_
  refine Eq.trans (zY_step (by exact rfl) (by exact dX3_stops_31) (by exact rfl) (pc' := 32) (S' := [zI 0, zR (some 37), zI 1, zI x3]) (by exact rfl) (zcn (by exact rfl))) ?_
  refine Eq.trans (zY_ialdc (by exact rfl) (by exact dX3_stops_32) (by exact rfl) (by exact rfl) (j := 0) (by decide) (by decide) (zcn (by exact rfl))) ?_
  refine Eq.trans (zY_step (by exact rfl) (by exact dX3_stops_33) (by exact rfl) (pc' := 34) (S' := [zI (zshl 1 (σ 37 0)), zI x3]) (by exact rfl) (zcn (by exact rfl))) ?_
  refine Eq.trans (zY_ic_ge (by exact rfl) (by exact dX3_stops_34) (t := 127) (by exact rfl) (a2 := nrm x3) (b2 := nrm (zshl 1 (σ 37 0))) (by exact rfl) (by exact rfl) (zcn (by exact rfl)) (zcn (by exact rfl))) (zif ?_ ?_)
  · refine Eq.trans (zY_step (by exact rfl) (by exact dX3_stops_127) (by exact rfl) (pc' := 128) (S' := [zI x2]) (by exact rfl) (zcn (by exact rfl))) ?_
    exact zq_ret (by exact dX3_stops_128) (by exact rfl) (rv := some (zI x2)) (by exact rfl)
  · refine Eq.trans (zY_step (by exact rfl) (by exact dX3_stops_37) (by exact rfl) (pc' := 38) (S' := [zI x3]) (by exact rfl) (zcn (by exact rfl))) ?_
    exact zY_S (by exact rfl) (by exact dX3_stops_38) (by exact rfl) (by exact Or.inl rfl) (as := [zI x3]) (S' := []) (by exact rfl) (by exact rfl) (by exact Nat.le_of_ble_eq_true rfl) (by exact Nat.le_of_ble_eq_true rfl) (zcn (by exact rfl))
theorem b_X3_stops_41 (d : Nat) (y0 x1 x2 x3 : Int) (σ : zS) : zq (d + 1) mX3_stops 41 [some (zR (some 36)), some (zI x1), some (zI x2), some (zI x3), none] [zI y0] σ = (zc d mX3_bits [zI x2] σ).bind fun r => zq (d + 1) mX3_stops 45 [some (zR (some 36)), some (zI x1), some (zI x2), some (zI x3), none] (r.1.toList ++ [zI y0]) r.2 := by
  refine Eq.trans (zY_step (by exact rfl) (by exact dX3_stops_41) (by exact rfl) (pc' := 42) (S' := [zI x2, zI y0]) (by exact rfl) (zcn (by exact rfl))) ?_
  exact zY_S (by exact rfl) (by exact dX3_stops_42) (by exact rfl) (by exact Or.inl rfl) (as := [zI x2]) (S' := [zI y0]) (by exact rfl) (by exact rfl) (by exact Nat.le_of_ble_eq_true rfl) (by exact Nat.le_of_ble_eq_true rfl) (zcn (by exact rfl))
theorem b_X3_stops_45 (d : Nat) (y0 y1 x1 x2 x3 : Int) (σ : zS) : zq (d + 1) mX3_stops 45 [some (zR (some 36)), some (zI x1), some (zI x2), some (zI x3), none] [zI y0, zI y1] σ = (if nrm y1 < nrm y0 then (zc d mX3_copies [zR (some 37), zR (some 38)] σ).bind fun r => zq (d + 1) mX3_stops 62 [some (zR (some 36)), some (zI x1), some (zI x2), some (zI x3), none] (r.1.toList ++ []) r.2 else zq (d + 1) mX3_stops 121 [some (zR (some 36)), some (zI x1), some (zI x2), some (zI x3), none] [] σ) := by
  refine Eq.trans (zY_ic_lt (by exact rfl) (by exact dX3_stops_45) (t := 51) (by exact rfl) (a2 := nrm y1) (b2 := nrm y0) (by exact rfl) (by exact rfl) (zcn (by exact rfl)) (zcn (by exact rfl))) (zif ?_ ?_)
  · refine Eq.trans (zY_step (by exact rfl) (by exact dX3_stops_51) (by exact rfl) (pc' := 52) (S' := [zR (some 36)]) (by exact rfl) (zcn (by exact rfl))) ?_
    refine Eq.trans (zY_getR (by exact rfl) (by exact dX3_stops_52) (by exact rfl) (by exact rfl) (t := 37) (by exact rfl) (zcn (by exact rfl))) ?_
    refine Eq.trans (zY_step (by exact rfl) (by exact dX3_stops_55) (by exact rfl) (pc' := 56) (S' := [zR (some 36), zR (some 37)]) (by exact rfl) (zcn (by exact rfl))) ?_
    refine Eq.trans (zY_getR (by exact rfl) (by exact dX3_stops_56) (by exact rfl) (by exact rfl) (t := 38) (by exact rfl) (zcn (by exact rfl))) ?_
    exact zY_S (by exact rfl) (by exact dX3_stops_59) (by exact rfl) (by exact Or.inl rfl) (as := [zR (some 37), zR (some 38)]) (S' := []) (by exact rfl) (by exact rfl) (by exact Nat.le_of_ble_eq_true rfl) (by exact Nat.le_of_ble_eq_true rfl) (zcn (by exact rfl))
  · exact zY_step (by exact rfl) (by exact dX3_stops_48) (by exact rfl) (pc' := 121) (S' := []) (L2 := [some (zR (some 36)), some (zI x1), some (zI x2), some (zI x3), none]) (by exact rfl) (by exact rfl)
theorem b_X3_stops_62 (d : Nat) (x1 x2 x3 : Int) (σ : zS) : zq d mX3_stops 62 [some (zR (some 36)), some (zI x1), some (zI x2), some (zI x3), none] [] σ = zq d mX3_stops 65 [some (zR (some 36)), some (zI x1), some (zI x2), some (zI x3), some (zI 0)] [] σ := by
  refine Eq.trans (zY_step (by exact rfl) (by exact dX3_stops_62) (by exact rfl) (pc' := 63) (S' := [zI 0]) (by exact rfl) (zcn (by exact rfl))) ?_
  exact zY_step (by exact rfl) (by exact dX3_stops_63) (by exact rfl) (pc' := 65) (L' := [some (zR (some 36)), some (zI x1), some (zI x2), some (zI x3), some (zI 0)]) (S' := []) (by exact rfl) (zcn (by exact rfl))
theorem b_X3_stops_121 (d : Nat) (x1 x2 x3 : Int) (σ : zS) : zq d mX3_stops 121 [some (zR (some 36)), some (zI x1), some (zI x2), some (zI x3), none] [] σ = zq d mX3_stops 25 [some (zR (some 36)), some (zI x1), some (zI x2), some (zI (x3 + 1)), none] [] σ := by
  refine Eq.trans (zY_step (by exact rfl) (by exact dX3_stops_121) (by exact rfl) (pc' := 124) (L' := [some (zR (some 36)), some (zI x1), some (zI x2), some (zI (x3 + 1)), none]) (S' := []) (by exact rfl) (zcn (by exact rfl))) ?_
  exact zY_step (by exact rfl) (by exact dX3_stops_124) (by exact rfl) (pc' := 25) (S' := []) (by exact rfl) (zcn (by exact rfl))
theorem b_X3_stops_65 (d : Nat) (x1 x2 x3 x4 : Int) (σ : zS) : zq (d + 1) mX3_stops 65 [some (zR (some 36)), some (zI x1), some (zI x2), some (zI x3), some (zI x4)] [] σ = (if nrm (σ 37 0) ≤ nrm x4 then (zc d mX3_roundsOn [zR (some 36), zR (some 38), zI x1] σ).bind fun r => zq (d + 1) mX3_stops 109 [some (zR (some 36)), some (zI x1), some (zI x2), some (zI x3), some (zI x4)] (r.1.toList ++ []) r.2 else (zc d mX3_has [zI x3, zI x4] σ).bind fun r => zq (d + 1) mX3_stops 82 [some (zR (some 36)), some (zI x1), some (zI x2), some (zI x3), some (zI x4)] (r.1.toList ++ []) r.2) := by
  refine Eq.trans (zY_step (by exact rfl) (by exact dX3_stops_65) (by exact rfl) (pc' := 67) (S' := [zI x4]) (by exact rfl) (zcn (by exact rfl))) ?_
  refine Eq.trans (zY_step (by exact rfl) (by exact dX3_stops_67) (by exact rfl) (pc' := 68) (S' := [zR (some 36), zI x4]) (by exact rfl) (zcn (by exact rfl))) ?_
  refine Eq.trans (zY_getR (by exact rfl) (by exact dX3_stops_68) (by exact rfl) (by exact rfl) (t := 37) (by exact rfl) (zcn (by exact rfl))) ?_
  refine Eq.trans (zY_step (by exact rfl) (by exact dX3_stops_71) (by exact rfl) (pc' := 72) (S' := [zI 0, zR (some 37), zI x4]) (by exact rfl) (zcn (by exact rfl))) ?_
  refine Eq.trans (zY_ialdc (by exact rfl) (by exact dX3_stops_72) (by exact rfl) (by exact rfl) (j := 0) (by decide) (by decide) (zcn (by exact rfl))) ?_
  refine Eq.trans (zY_ic_ge (by exact rfl) (by exact dX3_stops_73) (t := 100) (by exact rfl) (a2 := nrm x4) (b2 := nrm (σ 37 0)) (by exact rfl) (by exact rfl) (zcn (by exact rfl)) (zcn (by exact rfl))) (zif ?_ ?_)
  · refine Eq.trans (zY_step (by exact rfl) (by exact dX3_stops_100) (by exact rfl) (pc' := 101) (S' := [zR (some 36)]) (by exact rfl) (zcn (by exact rfl))) ?_
    refine Eq.trans (zY_step (by exact rfl) (by exact dX3_stops_101) (by exact rfl) (pc' := 102) (S' := [zR (some 36), zR (some 36)]) (by exact rfl) (zcn (by exact rfl))) ?_
    refine Eq.trans (zY_getR (by exact rfl) (by exact dX3_stops_102) (by exact rfl) (by exact rfl) (t := 38) (by exact rfl) (zcn (by exact rfl))) ?_
    refine Eq.trans (zY_step (by exact rfl) (by exact dX3_stops_105) (by exact rfl) (pc' := 106) (S' := [zI x1, zR (some 38), zR (some 36)]) (by exact rfl) (zcn (by exact rfl))) ?_
    exact zY_V (by exact rfl) (by exact dX3_stops_106) (by exact rfl) (as := [zR (some 38), zI x1]) (S' := []) (by exact rfl) (by exact rfl) (by exact rfl) (by exact Nat.le_of_ble_eq_true rfl) (by exact Nat.le_of_ble_eq_true rfl) (by exact Nat.le_of_ble_eq_true rfl) (zcn (by exact rfl))
  · refine Eq.trans (zY_step (by exact rfl) (by exact dX3_stops_76) (by exact rfl) (pc' := 77) (S' := [zI x3]) (by exact rfl) (zcn (by exact rfl))) ?_
    refine Eq.trans (zY_step (by exact rfl) (by exact dX3_stops_77) (by exact rfl) (pc' := 79) (S' := [zI x4, zI x3]) (by exact rfl) (zcn (by exact rfl))) ?_
    exact zY_S (by exact rfl) (by exact dX3_stops_79) (by exact rfl) (by exact Or.inl rfl) (as := [zI x3, zI x4]) (S' := []) (by exact rfl) (by exact rfl) (by exact Nat.le_of_ble_eq_true rfl) (by exact Nat.le_of_ble_eq_true rfl) (zcn (by exact rfl))
theorem b_X3_stops_109 (d : Nat) (x1 x2 x3 x4 : Int) (σ : zS) : zq (d + 1) mX3_stops 109 [some (zR (some 36)), some (zI x1), some (zI x2), some (zI x3), some (zI x4)] [] σ = (zc d mX3_tipping [zR (some 38)] σ).bind fun r => zq (d + 1) mX3_stops 116 [some (zR (some 36)), some (zI x1), some (zI x2), some (zI x3), some (zI x4)] (r.1.toList ++ []) r.2 := by
  refine Eq.trans (zY_step (by exact rfl) (by exact dX3_stops_109) (by exact rfl) (pc' := 110) (S' := [zR (some 36)]) (by exact rfl) (zcn (by exact rfl))) ?_
  refine Eq.trans (zY_getR (by exact rfl) (by exact dX3_stops_110) (by exact rfl) (by exact rfl) (t := 38) (by exact rfl) (zcn (by exact rfl))) ?_
  exact zY_S (by exact rfl) (by exact dX3_stops_113) (by exact rfl) (by exact Or.inl rfl) (as := [zR (some 38)]) (S' := []) (by exact rfl) (by exact rfl) (by exact Nat.le_of_ble_eq_true rfl) (by exact Nat.le_of_ble_eq_true rfl) (zcn (by exact rfl))
theorem b_X3_stops_82 (d : Nat) (y0 x1 x2 x3 x4 : Int) (σ : zS) : zq (d + 1) mX3_stops 82 [some (zR (some 36)), some (zI x1), some (zI x2), some (zI x3), some (zI x4)] [zI y0] σ = (if nrm y0 = 0 then zq (d + 1) mX3_stops 94 [some (zR (some 36)), some (zI x1), some (zI x2), some (zI x3), some (zI x4)] [] σ else (zc d mX3_blocksIn [zR (some 38), zI x4] σ).bind fun r => zq (d + 1) mX3_stops 94 [some (zR (some 36)), some (zI x1), some (zI x2), some (zI x3), some (zI x4)] (r.1.toList ++ []) r.2) := by
  refine Eq.trans (zY_if_eq (by exact rfl) (by exact dX3_stops_82) (t := 94) (by exact rfl) (a2 := nrm y0) (by exact rfl) (zcn (by exact rfl)) (zcn (by exact rfl))) (zif ?_ ?_)
  · exact rfl
  · refine Eq.trans (zY_step (by exact rfl) (by exact dX3_stops_85) (by exact rfl) (pc' := 86) (S' := [zR (some 36)]) (by exact rfl) (zcn (by exact rfl))) ?_
    refine Eq.trans (zY_getR (by exact rfl) (by exact dX3_stops_86) (by exact rfl) (by exact rfl) (t := 38) (by exact rfl) (zcn (by exact rfl))) ?_
    refine Eq.trans (zY_step (by exact rfl) (by exact dX3_stops_89) (by exact rfl) (pc' := 91) (S' := [zI x4, zR (some 38)]) (by exact rfl) (zcn (by exact rfl))) ?_
    exact zY_S (by exact rfl) (by exact dX3_stops_91) (by exact rfl) (by exact Or.inl rfl) (as := [zR (some 38), zI x4]) (S' := []) (by exact rfl) (by exact rfl) (by exact Nat.le_of_ble_eq_true rfl) (by exact Nat.le_of_ble_eq_true rfl) (zcn (by exact rfl))
theorem b_X3_stops_116 (d : Nat) (y0 x1 x2 x3 x4 : Int) (σ : zS) : zq d mX3_stops 116 [some (zR (some 36)), some (zI x1), some (zI x2), some (zI x3), some (zI x4)] [zI y0] σ = (if ¬ nrm y0 = 0 then zq d mX3_stops 121 [some (zR (some 36)), some (zI x1), some (zI x2), some (zI x3), none] [] σ else zq d mX3_stops 121 [some (zR (some 36)), some (zI x1), some (zI x3), some (zI x3), none] [] σ) := by
  refine Eq.trans (zY_if_ne (by exact rfl) (by exact dX3_stops_116) (t := 121) (by exact rfl) (a2 := nrm y0) (by exact rfl) (L1 := [some (zR (some 36)), some (zI x1), some (zI x2), some (zI x3), none]) (by exact rfl) (zcn (by exact rfl))) (zif ?_ ?_)
  · exact rfl
  · refine Eq.trans (zY_step (by exact rfl) (by exact dX3_stops_119) (by exact rfl) (pc' := 120) (S' := [zI x3]) (by exact rfl) (zcn (by exact rfl))) ?_
    exact zY_step (by exact rfl) (by exact dX3_stops_120) (by exact rfl) (pc' := 121) (L' := [some (zR (some 36)), some (zI x1), some (zI x3), some (zI x3), some (zI x4)]) (S' := []) (L2 := [some (zR (some 36)), some (zI x1), some (zI x3), some (zI x3), none]) (by exact rfl) (by exact rfl)
theorem b_X3_stops_94 (d : Nat) (x1 x2 x3 x4 : Int) (σ : zS) : zq d mX3_stops 94 [some (zR (some 36)), some (zI x1), some (zI x2), some (zI x3), some (zI x4)] [] σ = zq d mX3_stops 65 [some (zR (some 36)), some (zI x1), some (zI x2), some (zI x3), some (zI (x4 + 1))] [] σ := by
  refine Eq.trans (zY_step (by exact rfl) (by exact dX3_stops_94) (by exact rfl) (pc' := 97) (L' := [some (zR (some 36)), some (zI x1), some (zI x2), some (zI x3), some (zI (x4 + 1))]) (S' := []) (by exact rfl) (zcn (by exact rfl))) ?_
  exact zY_step (by exact rfl) (by exact dX3_stops_97) (by exact rfl) (pc' := 65) (S' := []) (by exact rfl) (zcn (by exact rfl))
theorem e_X3_ask (d : Nat) (x1 : Int) (σ : zS) : zc (d + 1) mX3_ask [zR (some 36), zI x1] σ = (zc d mX3_isIn [zI x1, zI 0, zI 60] σ).bind fun r => zq (d + 1) mX3_ask 7 [some (zR (some 36)), some (zI x1), none, none, none] (r.1.toList ++ []) r.2 := by
  refine Eq.trans (zc_zq (L := [some (zR (some 36)), some (zI x1), none, none, none]) (by exact rfl)) ?_
  refine Eq.trans (zY_step (by exact rfl) (by exact dX3_ask_0) (by exact rfl) (pc' := 1) (S' := [zI x1]) (by exact rfl) (zcn (by exact rfl))) ?_
  refine Eq.trans (zY_step (by exact rfl) (by exact dX3_ask_1) (by exact rfl) (pc' := 2) (S' := [zI 0, zI x1]) (by exact rfl) (zcn (by exact rfl))) ?_
  refine Eq.trans (zY_step (by exact rfl) (by exact dX3_ask_2) (by exact rfl) (pc' := 4) (S' := [zI 60, zI 0, zI x1]) (by exact rfl) (zcn (by exact rfl))) ?_
  exact zY_S (by exact rfl) (by exact dX3_ask_4) (by exact rfl) (by exact Or.inl rfl) (as := [zI x1, zI 0, zI 60]) (S' := []) (by exact rfl) (by exact rfl) (by exact Nat.le_of_ble_eq_true rfl) (by exact Nat.le_of_ble_eq_true rfl) (zcn (by exact rfl))
theorem b_X3_ask_7 (d : Nat) (y0 x1 : Int) (σ : zS) : zq d mX3_ask 7 [some (zR (some 36)), some (zI x1), none, none, none] [zI y0] σ = (if ¬ nrm y0 = 0 then zq d mX3_ask 21 [some (zR (some 36)), some (zI x1), some (zI ((-4))), some (zI ((-1000000000))), some (zI 0)] [] σ else some (some (zI ((-1))), σ)) := by
  refine Eq.trans (zY_if_ne (by exact rfl) (by exact dX3_ask_7) (t := 12) (by exact rfl) (a2 := nrm y0) (by exact rfl) (zcn (by exact rfl)) (zcn (by exact rfl))) (zif ?_ ?_)
  · refine Eq.trans (zY_step (by exact rfl) (by exact dX3_ask_12) (by exact rfl) (pc' := 14) (S' := [zI ((-4))]) (by exact rfl) (zcn (by exact rfl))) ?_
    refine Eq.trans (zY_step (by exact rfl) (by exact dX3_ask_14) (by exact rfl) (pc' := 15) (L' := [some (zR (some 36)), some (zI x1), some (zI ((-4))), none, none]) (S' := []) (by exact rfl) (zcn (by exact rfl))) ?_
    refine Eq.trans (zY_step (by exact rfl) (by exact dX3_ask_15) (by exact rfl) (pc' := 17) (S' := [zI ((-1000000000))]) (by exact rfl) (zcn (by exact rfl))) ?_
    refine Eq.trans (zY_step (by exact rfl) (by exact dX3_ask_17) (by exact rfl) (pc' := 18) (L' := [some (zR (some 36)), some (zI x1), some (zI ((-4))), some (zI ((-1000000000))), none]) (S' := []) (by exact rfl) (zcn (by exact rfl))) ?_
    refine Eq.trans (zY_step (by exact rfl) (by exact dX3_ask_18) (by exact rfl) (pc' := 19) (S' := [zI 0]) (by exact rfl) (zcn (by exact rfl))) ?_
    exact zY_step (by exact rfl) (by exact dX3_ask_19) (by exact rfl) (pc' := 21) (L' := [some (zR (some 36)), some (zI x1), some (zI ((-4))), some (zI ((-1000000000))), some (zI 0)]) (S' := []) (by exact rfl) (zcn (by exact rfl))
  · refine Eq.trans (zY_step (by exact rfl) (by exact dX3_ask_10) (by exact rfl) (pc' := 11) (S' := [zI ((-1))]) (by exact rfl) (zcn (by exact rfl))) ?_
    exact zq_ret (by exact dX3_ask_11) (by exact rfl) (rv := some (zI ((-1)))) (by exact rfl)
theorem b_X3_ask_21 (d : Nat) (x1 x2 x3 x4 : Int) (σ : zS) : zq (d + 1) mX3_ask 21 [some (zR (some 36)), some (zI x1), some (zI x2), some (zI x3), some (zI x4)] [] σ = (if nrm (σ 37 0) ≤ nrm x4 then some (some (zI x2), σ) else (zc d mX3_copies [zR (some 37), zR (some 38)] σ).bind fun r => zq (d + 1) mX3_ask 43 [some (zR (some 36)), some (zI x1), some (zI x2), some (zI x3), some (zI x4)] (r.1.toList ++ []) r.2) := by
  refine Eq.trans (zY_step (by exact rfl) (by exact dX3_ask_21) (by exact rfl) (pc' := 23) (S' := [zI x4]) (by exact rfl) (zcn (by exact rfl))) ?_
  refine Eq.trans (zY_step (by exact rfl) (by exact dX3_ask_23) (by exact rfl) (pc' := 24) (S' := [zR (some 36), zI x4]) (by exact rfl) (zcn (by exact rfl))) ?_
  refine Eq.trans (zY_getR (by exact rfl) (by exact dX3_ask_24) (by exact rfl) (by exact rfl) (t := 37) (by exact rfl) (zcn (by exact rfl))) ?_
  refine Eq.trans (zY_step (by exact rfl) (by exact dX3_ask_27) (by exact rfl) (pc' := 28) (S' := [zI 0, zR (some 37), zI x4]) (by exact rfl) (zcn (by exact rfl))) ?_
  refine Eq.trans (zY_ialdc (by exact rfl) (by exact dX3_ask_28) (by exact rfl) (by exact rfl) (j := 0) (by decide) (by decide) (zcn (by exact rfl))) ?_
  refine Eq.trans (zY_ic_ge (by exact rfl) (by exact dX3_ask_29) (t := 92) (by exact rfl) (a2 := nrm x4) (b2 := nrm (σ 37 0)) (by exact rfl) (by exact rfl) (zcn (by exact rfl)) (zcn (by exact rfl))) (zif ?_ ?_)
  · refine Eq.trans (zY_step (by exact rfl) (by exact dX3_ask_92) (by exact rfl) (pc' := 93) (S' := [zI x2]) (by exact rfl) (zcn (by exact rfl))) ?_
    exact zq_ret (by exact dX3_ask_93) (by exact rfl) (rv := some (zI x2)) (by exact rfl)
  · refine Eq.trans (zY_step (by exact rfl) (by exact dX3_ask_32) (by exact rfl) (pc' := 33) (S' := [zR (some 36)]) (by exact rfl) (zcn (by exact rfl))) ?_
    refine Eq.trans (zY_getR (by exact rfl) (by exact dX3_ask_33) (by exact rfl) (by exact rfl) (t := 37) (by exact rfl) (zcn (by exact rfl))) ?_
    refine Eq.trans (zY_step (by exact rfl) (by exact dX3_ask_36) (by exact rfl) (pc' := 37) (S' := [zR (some 36), zR (some 37)]) (by exact rfl) (zcn (by exact rfl))) ?_
    refine Eq.trans (zY_getR (by exact rfl) (by exact dX3_ask_37) (by exact rfl) (by exact rfl) (t := 38) (by exact rfl) (zcn (by exact rfl))) ?_
    exact zY_S (by exact rfl) (by exact dX3_ask_40) (by exact rfl) (by exact Or.inl rfl) (as := [zR (some 37), zR (some 38)]) (S' := []) (by exact rfl) (by exact rfl) (by exact Nat.le_of_ble_eq_true rfl) (by exact Nat.le_of_ble_eq_true rfl) (zcn (by exact rfl))
theorem b_X3_ask_43 (d : Nat) (x1 x2 x3 x4 : Int) (σ : zS) : zq (d + 1) mX3_ask 43 [some (zR (some 36)), some (zI x1), some (zI x2), some (zI x3), some (zI x4)] [] σ = (zc d mX3_blocksIn [zR (some 38), zI x4] σ).bind fun r => zq (d + 1) mX3_ask 52 [some (zR (some 36)), some (zI x1), some (zI x2), some (zI x3), some (zI x4)] (r.1.toList ++ []) r.2 := by
  refine Eq.trans (zY_step (by exact rfl) (by exact dX3_ask_43) (by exact rfl) (pc' := 44) (S' := [zR (some 36)]) (by exact rfl) (zcn (by exact rfl))) ?_
  refine Eq.trans (zY_getR (by exact rfl) (by exact dX3_ask_44) (by exact rfl) (by exact rfl) (t := 38) (by exact rfl) (zcn (by exact rfl))) ?_
  refine Eq.trans (zY_step (by exact rfl) (by exact dX3_ask_47) (by exact rfl) (pc' := 49) (S' := [zI x4, zR (some 38)]) (by exact rfl) (zcn (by exact rfl))) ?_
  exact zY_S (by exact rfl) (by exact dX3_ask_49) (by exact rfl) (by exact Or.inl rfl) (as := [zR (some 38), zI x4]) (S' := []) (by exact rfl) (by exact rfl) (by exact Nat.le_of_ble_eq_true rfl) (by exact Nat.le_of_ble_eq_true rfl) (zcn (by exact rfl))
theorem b_X3_ask_52 (d : Nat) (x1 x2 x3 x4 : Int) (σ : zS) : zq (d + 1) mX3_ask 52 [some (zR (some 36)), some (zI x1), some (zI x2), some (zI x3), some (zI x4)] [] σ = (zc d mX3_roundsOn [zR (some 36), zR (some 38), zI x1] σ).bind fun r => zq (d + 1) mX3_ask 61 [some (zR (some 36)), some (zI x1), some (zI x2), some (zI x3), some (zI x4)] (r.1.toList ++ []) r.2 := by
  refine Eq.trans (zY_step (by exact rfl) (by exact dX3_ask_52) (by exact rfl) (pc' := 53) (S' := [zR (some 36)]) (by exact rfl) (zcn (by exact rfl))) ?_
  refine Eq.trans (zY_step (by exact rfl) (by exact dX3_ask_53) (by exact rfl) (pc' := 54) (S' := [zR (some 36), zR (some 36)]) (by exact rfl) (zcn (by exact rfl))) ?_
  refine Eq.trans (zY_getR (by exact rfl) (by exact dX3_ask_54) (by exact rfl) (by exact rfl) (t := 38) (by exact rfl) (zcn (by exact rfl))) ?_
  refine Eq.trans (zY_step (by exact rfl) (by exact dX3_ask_57) (by exact rfl) (pc' := 58) (S' := [zI x1, zR (some 38), zR (some 36)]) (by exact rfl) (zcn (by exact rfl))) ?_
  exact zY_V (by exact rfl) (by exact dX3_ask_58) (by exact rfl) (as := [zR (some 38), zI x1]) (S' := []) (by exact rfl) (by exact rfl) (by exact rfl) (by exact Nat.le_of_ble_eq_true rfl) (by exact Nat.le_of_ble_eq_true rfl) (by exact Nat.le_of_ble_eq_true rfl) (zcn (by exact rfl))
theorem b_X3_ask_61 (d : Nat) (x1 x2 x3 x4 : Int) (σ : zS) : zq (d + 1) mX3_ask 61 [some (zR (some 36)), some (zI x1), some (zI x2), some (zI x3), some (zI x4)] [] σ = (zc d mX3_joyAll [zR (some 38)] σ).bind fun r => zq (d + 1) mX3_ask 68 [some (zR (some 36)), some (zI x1), some (zI x2), some (zI x3), some (zI x4)] (r.1.toList ++ []) r.2 := by
  refine Eq.trans (zY_step (by exact rfl) (by exact dX3_ask_61) (by exact rfl) (pc' := 62) (S' := [zR (some 36)]) (by exact rfl) (zcn (by exact rfl))) ?_
  refine Eq.trans (zY_getR (by exact rfl) (by exact dX3_ask_62) (by exact rfl) (by exact rfl) (t := 38) (by exact rfl) (zcn (by exact rfl))) ?_
  exact zY_S (by exact rfl) (by exact dX3_ask_65) (by exact rfl) (by exact Or.inl rfl) (as := [zR (some 38)]) (S' := []) (by exact rfl) (by exact rfl) (by exact Nat.le_of_ble_eq_true rfl) (by exact Nat.le_of_ble_eq_true rfl) (zcn (by exact rfl))
theorem b_X3_ask_68 (d : Nat) (y0 x1 x2 x3 x4 : Int) (σ : zS) : zq (d + 1) mX3_ask 68 [some (zR (some 36)), some (zI x1), some (zI x2), some (zI x3), some (zI x4)] [zI y0] σ = (if nrm x3 < nrm y0 then (zc d mX3_joyAll [zR (some 38)] σ).bind fun r => zq (d + 1) mX3_ask 85 [some (zR (some 36)), some (zI x1), some (zI x4), some (zI x3), some (zI x4)] (r.1.toList ++ []) r.2 else zq (d + 1) mX3_ask 86 [some (zR (some 36)), some (zI x1), some (zI x2), some (zI x3), some (zI x4)] [] σ) := by
  refine Eq.trans (zY_step (by exact rfl) (by exact dX3_ask_68) (by exact rfl) (pc' := 69) (S' := [zI x3, zI y0]) (by exact rfl) (zcn (by exact rfl))) ?_
  refine Eq.trans (zY_ic_gt (by exact rfl) (by exact dX3_ask_69) (t := 75) (by exact rfl) (a2 := nrm y0) (b2 := nrm x3) (by exact rfl) (by exact rfl) (zcn (by exact rfl)) (zcn (by exact rfl))) (zif ?_ ?_)
  · refine Eq.trans (zY_step (by exact rfl) (by exact dX3_ask_75) (by exact rfl) (pc' := 77) (S' := [zI x4]) (by exact rfl) (zcn (by exact rfl))) ?_
    refine Eq.trans (zY_step (by exact rfl) (by exact dX3_ask_77) (by exact rfl) (pc' := 78) (L' := [some (zR (some 36)), some (zI x1), some (zI x4), some (zI x3), some (zI x4)]) (S' := []) (by exact rfl) (zcn (by exact rfl))) ?_
    refine Eq.trans (zY_step (by exact rfl) (by exact dX3_ask_78) (by exact rfl) (pc' := 79) (S' := [zR (some 36)]) (by exact rfl) (zcn (by exact rfl))) ?_
    refine Eq.trans (zY_getR (by exact rfl) (by exact dX3_ask_79) (by exact rfl) (by exact rfl) (t := 38) (by exact rfl) (zcn (by exact rfl))) ?_
    exact zY_S (by exact rfl) (by exact dX3_ask_82) (by exact rfl) (by exact Or.inl rfl) (as := [zR (some 38)]) (S' := []) (by exact rfl) (by exact rfl) (by exact Nat.le_of_ble_eq_true rfl) (by exact Nat.le_of_ble_eq_true rfl) (zcn (by exact rfl))
  · exact zY_step (by exact rfl) (by exact dX3_ask_72) (by exact rfl) (pc' := 86) (S' := []) (by exact rfl) (zcn (by exact rfl))
theorem b_X3_ask_85 (d : Nat) (y0 x1 x2 x3 x4 : Int) (σ : zS) : zq d mX3_ask 85 [some (zR (some 36)), some (zI x1), some (zI x2), some (zI x3), some (zI x4)] [zI y0] σ = zq d mX3_ask 86 [some (zR (some 36)), some (zI x1), some (zI x2), some (zI y0), some (zI x4)] [] σ := by
  exact zY_step (by exact rfl) (by exact dX3_ask_85) (by exact rfl) (pc' := 86) (L' := [some (zR (some 36)), some (zI x1), some (zI x2), some (zI y0), some (zI x4)]) (S' := []) (by exact rfl) (zcn (by exact rfl))
theorem b_X3_ask_86 (d : Nat) (x1 x2 x3 x4 : Int) (σ : zS) : zq d mX3_ask 86 [some (zR (some 36)), some (zI x1), some (zI x2), some (zI x3), some (zI x4)] [] σ = zq d mX3_ask 21 [some (zR (some 36)), some (zI x1), some (zI x2), some (zI x3), some (zI (x4 + 1))] [] σ := by
  refine Eq.trans (zY_step (by exact rfl) (by exact dX3_ask_86) (by exact rfl) (pc' := 89) (L' := [some (zR (some 36)), some (zI x1), some (zI x2), some (zI x3), some (zI (x4 + 1))]) (S' := []) (by exact rfl) (zcn (by exact rfl))) ?_
  exact zY_step (by exact rfl) (by exact dX3_ask_89) (by exact rfl) (pc' := 21) (S' := []) (by exact rfl) (zcn (by exact rfl))
theorem e_X3_bestHour (d : Nat) (x1 : Int) (σ : zS) : zc (d + 1) mX3_bestHour [zR (some 36), zI x1] σ = (zc d mX3_isIn [zI x1, zI 0, zI 60] σ).bind fun r => zq (d + 1) mX3_bestHour 7 [some (zR (some 36)), some (zI x1), none, none, none] (r.1.toList ++ []) r.2 := by
  refine Eq.trans (zc_zq (L := [some (zR (some 36)), some (zI x1), none, none, none]) (by exact rfl)) ?_
  refine Eq.trans (zY_step (by exact rfl) (by exact dX3_bestHour_0) (by exact rfl) (pc' := 1) (S' := [zI x1]) (by exact rfl) (zcn (by exact rfl))) ?_
  refine Eq.trans (zY_step (by exact rfl) (by exact dX3_bestHour_1) (by exact rfl) (pc' := 2) (S' := [zI 0, zI x1]) (by exact rfl) (zcn (by exact rfl))) ?_
  refine Eq.trans (zY_step (by exact rfl) (by exact dX3_bestHour_2) (by exact rfl) (pc' := 4) (S' := [zI 60, zI 0, zI x1]) (by exact rfl) (zcn (by exact rfl))) ?_
  exact zY_S (by exact rfl) (by exact dX3_bestHour_4) (by exact rfl) (by exact Or.inl rfl) (as := [zI x1, zI 0, zI 60]) (S' := []) (by exact rfl) (by exact rfl) (by exact Nat.le_of_ble_eq_true rfl) (by exact Nat.le_of_ble_eq_true rfl) (zcn (by exact rfl))
theorem b_X3_bestHour_7 (d : Nat) (y0 x1 : Int) (σ : zS) : zq d mX3_bestHour 7 [some (zR (some 36)), some (zI x1), none, none, none] [zI y0] σ = (if ¬ nrm y0 = 0 then zq d mX3_bestHour 20 [some (zR (some 36)), some (zI x1), some (zI 0), some (zI ((-1000000000))), some (zI 0)] [] σ else some (some (zI ((-1))), σ)) := by
  refine Eq.trans (zY_if_ne (by exact rfl) (by exact dX3_bestHour_7) (t := 12) (by exact rfl) (a2 := nrm y0) (by exact rfl) (zcn (by exact rfl)) (zcn (by exact rfl))) (zif ?_ ?_)
  · refine Eq.trans (zY_step (by exact rfl) (by exact dX3_bestHour_12) (by exact rfl) (pc' := 13) (S' := [zI 0]) (by exact rfl) (zcn (by exact rfl))) ?_
    refine Eq.trans (zY_step (by exact rfl) (by exact dX3_bestHour_13) (by exact rfl) (pc' := 14) (L' := [some (zR (some 36)), some (zI x1), some (zI 0), none, none]) (S' := []) (by exact rfl) (zcn (by exact rfl))) ?_
    refine Eq.trans (zY_step (by exact rfl) (by exact dX3_bestHour_14) (by exact rfl) (pc' := 16) (S' := [zI ((-1000000000))]) (by exact rfl) (zcn (by exact rfl))) ?_
    refine Eq.trans (zY_step (by exact rfl) (by exact dX3_bestHour_16) (by exact rfl) (pc' := 17) (L' := [some (zR (some 36)), some (zI x1), some (zI 0), some (zI ((-1000000000))), none]) (S' := []) (by exact rfl) (zcn (by exact rfl))) ?_
    refine Eq.trans (zY_step (by exact rfl) (by exact dX3_bestHour_17) (by exact rfl) (pc' := 18) (S' := [zI 0]) (by exact rfl) (zcn (by exact rfl))) ?_
    exact zY_step (by exact rfl) (by exact dX3_bestHour_18) (by exact rfl) (pc' := 20) (L' := [some (zR (some 36)), some (zI x1), some (zI 0), some (zI ((-1000000000))), some (zI 0)]) (S' := []) (by exact rfl) (zcn (by exact rfl))
  · refine Eq.trans (zY_step (by exact rfl) (by exact dX3_bestHour_10) (by exact rfl) (pc' := 11) (S' := [zI ((-1))]) (by exact rfl) (zcn (by exact rfl))) ?_
    exact zq_ret (by exact dX3_bestHour_11) (by exact rfl) (rv := some (zI ((-1)))) (by exact rfl)
theorem b_X3_bestHour_20 (d : Nat) (x1 x2 x3 x4 : Int) (σ : zS) : zq (d + 1) mX3_bestHour 20 [some (zR (some 36)), some (zI x1), some (zI x2), some (zI x3), some (zI x4)] [] σ = (if 24 ≤ nrm x4 then some (some (zI x2), σ) else (zc d mX3_copies [zR (some 37), zR (some 38)] σ).bind fun r => zq (d + 1) mX3_bestHour 38 [some (zR (some 36)), some (zI x1), some (zI x2), some (zI x3), some (zI x4)] (r.1.toList ++ []) r.2) := by
  refine Eq.trans (zY_step (by exact rfl) (by exact dX3_bestHour_20) (by exact rfl) (pc' := 22) (S' := [zI x4]) (by exact rfl) (zcn (by exact rfl))) ?_
  refine Eq.trans (zY_step (by exact rfl) (by exact dX3_bestHour_22) (by exact rfl) (pc' := 24) (S' := [zI 24, zI x4]) (by exact rfl) (zcn (by exact rfl))) ?_
  refine Eq.trans (zY_ic_ge (by exact rfl) (by exact dX3_bestHour_24) (t := 86) (by exact rfl) (a2 := nrm x4) (b2 := 24) (by exact rfl) (by decide) (zcn (by exact rfl)) (zcn (by exact rfl))) (zif ?_ ?_)
  · refine Eq.trans (zY_step (by exact rfl) (by exact dX3_bestHour_86) (by exact rfl) (pc' := 87) (S' := [zI x2]) (by exact rfl) (zcn (by exact rfl))) ?_
    exact zq_ret (by exact dX3_bestHour_87) (by exact rfl) (rv := some (zI x2)) (by exact rfl)
  · refine Eq.trans (zY_step (by exact rfl) (by exact dX3_bestHour_27) (by exact rfl) (pc' := 28) (S' := [zR (some 36)]) (by exact rfl) (zcn (by exact rfl))) ?_
    refine Eq.trans (zY_getR (by exact rfl) (by exact dX3_bestHour_28) (by exact rfl) (by exact rfl) (t := 37) (by exact rfl) (zcn (by exact rfl))) ?_
    refine Eq.trans (zY_step (by exact rfl) (by exact dX3_bestHour_31) (by exact rfl) (pc' := 32) (S' := [zR (some 36), zR (some 37)]) (by exact rfl) (zcn (by exact rfl))) ?_
    refine Eq.trans (zY_getR (by exact rfl) (by exact dX3_bestHour_32) (by exact rfl) (by exact rfl) (t := 38) (by exact rfl) (zcn (by exact rfl))) ?_
    exact zY_S (by exact rfl) (by exact dX3_bestHour_35) (by exact rfl) (by exact Or.inl rfl) (as := [zR (some 37), zR (some 38)]) (S' := []) (by exact rfl) (by exact rfl) (by exact Nat.le_of_ble_eq_true rfl) (by exact Nat.le_of_ble_eq_true rfl) (zcn (by exact rfl))
theorem b_X3_bestHour_38 (d : Nat) (x1 x2 x3 x4 : Int) (σ : zS) : zq (d + 1) mX3_bestHour 38 [some (zR (some 36)), some (zI x1), some (zI x2), some (zI x3), some (zI x4)] [] σ = (zc d mX3_roundsOn [zR (some 36), zR (some 38), zI x1] (zup σ 38 1 x4)).bind fun r => zq (d + 1) mX3_bestHour 55 [some (zR (some 36)), some (zI x1), some (zI x2), some (zI x3), some (zI x4)] (r.1.toList ++ []) r.2 := by
  refine Eq.trans (zY_step (by exact rfl) (by exact dX3_bestHour_38) (by exact rfl) (pc' := 39) (S' := [zR (some 36)]) (by exact rfl) (zcn (by exact rfl))) ?_
  refine Eq.trans (zY_getR (by exact rfl) (by exact dX3_bestHour_39) (by exact rfl) (by exact rfl) (t := 38) (by exact rfl) (zcn (by exact rfl))) ?_
  refine Eq.trans (zY_step (by exact rfl) (by exact dX3_bestHour_42) (by exact rfl) (pc' := 43) (S' := [zI 1, zR (some 38)]) (by exact rfl) (zcn (by exact rfl))) ?_
  refine Eq.trans (zY_step (by exact rfl) (by exact dX3_bestHour_43) (by exact rfl) (pc' := 45) (S' := [zI x4, zI 1, zR (some 38)]) (by exact rfl) (zcn (by exact rfl))) ?_
  refine Eq.trans (zY_iastc (by exact rfl) (by exact dX3_bestHour_45) (by exact rfl) (by exact rfl) (j := 1) (by decide) (by decide) (zcn (by exact rfl))) ?_
  refine Eq.trans (zY_step (by exact rfl) (by exact dX3_bestHour_46) (by exact rfl) (pc' := 47) (S' := [zR (some 36)]) (by exact rfl) (zcn (by exact rfl))) ?_
  refine Eq.trans (zY_step (by exact rfl) (by exact dX3_bestHour_47) (by exact rfl) (pc' := 48) (S' := [zR (some 36), zR (some 36)]) (by exact rfl) (zcn (by exact rfl))) ?_
  refine Eq.trans (zY_getR (by exact rfl) (by exact dX3_bestHour_48) (by exact rfl) (by exact rfl) (t := 38) (by exact rfl) (zcn (by exact rfl))) ?_
  refine Eq.trans (zY_step (by exact rfl) (by exact dX3_bestHour_51) (by exact rfl) (pc' := 52) (S' := [zI x1, zR (some 38), zR (some 36)]) (by exact rfl) (zcn (by exact rfl))) ?_
  exact zY_V (by exact rfl) (by exact dX3_bestHour_52) (by exact rfl) (as := [zR (some 38), zI x1]) (S' := []) (by exact rfl) (by exact rfl) (by exact rfl) (by exact Nat.le_of_ble_eq_true rfl) (by exact Nat.le_of_ble_eq_true rfl) (by exact Nat.le_of_ble_eq_true rfl) (zcn (by exact rfl))
theorem b_X3_bestHour_55 (d : Nat) (x1 x2 x3 x4 : Int) (σ : zS) : zq (d + 1) mX3_bestHour 55 [some (zR (some 36)), some (zI x1), some (zI x2), some (zI x3), some (zI x4)] [] σ = (zc d mX3_joyAll [zR (some 38)] σ).bind fun r => zq (d + 1) mX3_bestHour 62 [some (zR (some 36)), some (zI x1), some (zI x2), some (zI x3), some (zI x4)] (r.1.toList ++ []) r.2 := by
  refine Eq.trans (zY_step (by exact rfl) (by exact dX3_bestHour_55) (by exact rfl) (pc' := 56) (S' := [zR (some 36)]) (by exact rfl) (zcn (by exact rfl))) ?_
  refine Eq.trans (zY_getR (by exact rfl) (by exact dX3_bestHour_56) (by exact rfl) (by exact rfl) (t := 38) (by exact rfl) (zcn (by exact rfl))) ?_
  exact zY_S (by exact rfl) (by exact dX3_bestHour_59) (by exact rfl) (by exact Or.inl rfl) (as := [zR (some 38)]) (S' := []) (by exact rfl) (by exact rfl) (by exact Nat.le_of_ble_eq_true rfl) (by exact Nat.le_of_ble_eq_true rfl) (zcn (by exact rfl))
theorem b_X3_bestHour_62 (d : Nat) (y0 x1 x2 x3 x4 : Int) (σ : zS) : zq (d + 1) mX3_bestHour 62 [some (zR (some 36)), some (zI x1), some (zI x2), some (zI x3), some (zI x4)] [zI y0] σ = (if nrm x3 < nrm y0 then (zc d mX3_joyAll [zR (some 38)] σ).bind fun r => zq (d + 1) mX3_bestHour 79 [some (zR (some 36)), some (zI x1), some (zI x4), some (zI x3), some (zI x4)] (r.1.toList ++ []) r.2 else zq (d + 1) mX3_bestHour 80 [some (zR (some 36)), some (zI x1), some (zI x2), some (zI x3), some (zI x4)] [] σ) := by
  refine Eq.trans (zY_step (by exact rfl) (by exact dX3_bestHour_62) (by exact rfl) (pc' := 63) (S' := [zI x3, zI y0]) (by exact rfl) (zcn (by exact rfl))) ?_
  refine Eq.trans (zY_ic_gt (by exact rfl) (by exact dX3_bestHour_63) (t := 69) (by exact rfl) (a2 := nrm y0) (b2 := nrm x3) (by exact rfl) (by exact rfl) (zcn (by exact rfl)) (zcn (by exact rfl))) (zif ?_ ?_)
  · refine Eq.trans (zY_step (by exact rfl) (by exact dX3_bestHour_69) (by exact rfl) (pc' := 71) (S' := [zI x4]) (by exact rfl) (zcn (by exact rfl))) ?_
    refine Eq.trans (zY_step (by exact rfl) (by exact dX3_bestHour_71) (by exact rfl) (pc' := 72) (L' := [some (zR (some 36)), some (zI x1), some (zI x4), some (zI x3), some (zI x4)]) (S' := []) (by exact rfl) (zcn (by exact rfl))) ?_
    refine Eq.trans (zY_step (by exact rfl) (by exact dX3_bestHour_72) (by exact rfl) (pc' := 73) (S' := [zR (some 36)]) (by exact rfl) (zcn (by exact rfl))) ?_
    refine Eq.trans (zY_getR (by exact rfl) (by exact dX3_bestHour_73) (by exact rfl) (by exact rfl) (t := 38) (by exact rfl) (zcn (by exact rfl))) ?_
    exact zY_S (by exact rfl) (by exact dX3_bestHour_76) (by exact rfl) (by exact Or.inl rfl) (as := [zR (some 38)]) (S' := []) (by exact rfl) (by exact rfl) (by exact Nat.le_of_ble_eq_true rfl) (by exact Nat.le_of_ble_eq_true rfl) (zcn (by exact rfl))
  · exact zY_step (by exact rfl) (by exact dX3_bestHour_66) (by exact rfl) (pc' := 80) (S' := []) (by exact rfl) (zcn (by exact rfl))
theorem b_X3_bestHour_79 (d : Nat) (y0 x1 x2 x3 x4 : Int) (σ : zS) : zq d mX3_bestHour 79 [some (zR (some 36)), some (zI x1), some (zI x2), some (zI x3), some (zI x4)] [zI y0] σ = zq d mX3_bestHour 80 [some (zR (some 36)), some (zI x1), some (zI x2), some (zI y0), some (zI x4)] [] σ := by
  exact zY_step (by exact rfl) (by exact dX3_bestHour_79) (by exact rfl) (pc' := 80) (L' := [some (zR (some 36)), some (zI x1), some (zI x2), some (zI y0), some (zI x4)]) (S' := []) (by exact rfl) (zcn (by exact rfl))
theorem b_X3_bestHour_80 (d : Nat) (x1 x2 x3 x4 : Int) (σ : zS) : zq d mX3_bestHour 80 [some (zR (some 36)), some (zI x1), some (zI x2), some (zI x3), some (zI x4)] [] σ = zq d mX3_bestHour 20 [some (zR (some 36)), some (zI x1), some (zI x2), some (zI x3), some (zI (x4 + 1))] [] σ := by
  refine Eq.trans (zY_step (by exact rfl) (by exact dX3_bestHour_80) (by exact rfl) (pc' := 83) (L' := [some (zR (some 36)), some (zI x1), some (zI x2), some (zI x3), some (zI (x4 + 1))]) (S' := []) (by exact rfl) (zcn (by exact rfl))) ?_
  exact zY_step (by exact rfl) (by exact dX3_bestHour_83) (by exact rfl) (pc' := 20) (S' := []) (by exact rfl) (zcn (by exact rfl))
theorem e_X3_joyTipped (d : Nat) (x1 x2 x3 x4 : Int) (σ : zS) : zc (d + 1) mX3_joyTipped [zR (some 36), zI x1, zI x2, zI x3, zI x4] σ = (zc d mX3_copies [zR (some 37), zR (some 38)] σ).bind fun r => zq (d + 1) mX3_joyTipped 11 [some (zR (some 36)), some (zI x1), some (zI x2), some (zI x3), some (zI x4)] (r.1.toList ++ []) r.2 := by
  refine Eq.trans (zc_zq (L := [some (zR (some 36)), some (zI x1), some (zI x2), some (zI x3), some (zI x4)]) (by exact rfl)) ?_
  refine Eq.trans (zY_step (by exact rfl) (by exact dX3_joyTipped_0) (by exact rfl) (pc' := 1) (S' := [zR (some 36)]) (by exact rfl) (zcn (by exact rfl))) ?_
  refine Eq.trans (zY_getR (by exact rfl) (by exact dX3_joyTipped_1) (by exact rfl) (by exact rfl) (t := 37) (by exact rfl) (zcn (by exact rfl))) ?_
  refine Eq.trans (zY_step (by exact rfl) (by exact dX3_joyTipped_4) (by exact rfl) (pc' := 5) (S' := [zR (some 36), zR (some 37)]) (by exact rfl) (zcn (by exact rfl))) ?_
  refine Eq.trans (zY_getR (by exact rfl) (by exact dX3_joyTipped_5) (by exact rfl) (by exact rfl) (t := 38) (by exact rfl) (zcn (by exact rfl))) ?_
  exact zY_S (by exact rfl) (by exact dX3_joyTipped_8) (by exact rfl) (by exact Or.inl rfl) (as := [zR (some 37), zR (some 38)]) (S' := []) (by exact rfl) (by exact rfl) (by exact Nat.le_of_ble_eq_true rfl) (by exact Nat.le_of_ble_eq_true rfl) (zcn (by exact rfl))
theorem b_X3_joyTipped_11 (d : Nat) (x1 x2 x3 x4 : Int) (σ : zS) : zq (d + 1) mX3_joyTipped 11 [some (zR (some 36)), some (zI x1), some (zI x2), some (zI x3), some (zI x4)] [] σ = (zc d mX3_of [zI x2, zI 2] σ).bind fun r => zq (d + 1) mX3_joyTipped 20 [some (zR (some 36)), some (zI x1), some (zI x2), some (zI x3), some (zI x4)] (r.1.toList ++ [zR (some 38)]) r.2 := by
  refine Eq.trans (zY_step (by exact rfl) (by exact dX3_joyTipped_11) (by exact rfl) (pc' := 12) (S' := [zR (some 36)]) (by exact rfl) (zcn (by exact rfl))) ?_
  refine Eq.trans (zY_getR (by exact rfl) (by exact dX3_joyTipped_12) (by exact rfl) (by exact rfl) (t := 38) (by exact rfl) (zcn (by exact rfl))) ?_
  refine Eq.trans (zY_step (by exact rfl) (by exact dX3_joyTipped_15) (by exact rfl) (pc' := 16) (S' := [zI x2, zR (some 38)]) (by exact rfl) (zcn (by exact rfl))) ?_
  refine Eq.trans (zY_step (by exact rfl) (by exact dX3_joyTipped_16) (by exact rfl) (pc' := 17) (S' := [zI 2, zI x2, zR (some 38)]) (by exact rfl) (zcn (by exact rfl))) ?_
  exact zY_S (by exact rfl) (by exact dX3_joyTipped_17) (by exact rfl) (by exact Or.inl rfl) (as := [zI x2, zI 2]) (S' := [zR (some 38)]) (by exact rfl) (by exact rfl) (by exact Nat.le_of_ble_eq_true rfl) (by exact Nat.le_of_ble_eq_true rfl) (zcn (by exact rfl))
theorem b_X3_joyTipped_20 (d : Nat) (y0 x1 x2 x3 x4 : Int) (σ : zS) : zq (d + 1) mX3_joyTipped 20 [some (zR (some 36)), some (zI x1), some (zI x2), some (zI x3), some (zI x4)] [zI y0, zR (some 38)] σ = (zc d mX3_can [zR (some 38), zI x2] σ).bind fun r => zq (d + 1) mX3_joyTipped 29 [some (zR (some 36)), some (zI x1), some (zI x2), some (zI x3), some (zI x4)] (r.1.toList ++ [zI x3, zI y0, zR (some 38)]) r.2 := by
  refine Eq.trans (zY_step (by exact rfl) (by exact dX3_joyTipped_20) (by exact rfl) (pc' := 21) (S' := [zI x3, zI y0, zR (some 38)]) (by exact rfl) (zcn (by exact rfl))) ?_
  refine Eq.trans (zY_step (by exact rfl) (by exact dX3_joyTipped_21) (by exact rfl) (pc' := 22) (S' := [zR (some 36), zI x3, zI y0, zR (some 38)]) (by exact rfl) (zcn (by exact rfl))) ?_
  refine Eq.trans (zY_getR (by exact rfl) (by exact dX3_joyTipped_22) (by exact rfl) (by exact rfl) (t := 38) (by exact rfl) (zcn (by exact rfl))) ?_
  refine Eq.trans (zY_step (by exact rfl) (by exact dX3_joyTipped_25) (by exact rfl) (pc' := 26) (S' := [zI x2, zR (some 38), zI x3, zI y0, zR (some 38)]) (by exact rfl) (zcn (by exact rfl))) ?_
  exact zY_S (by exact rfl) (by exact dX3_joyTipped_26) (by exact rfl) (by exact Or.inl rfl) (as := [zR (some 38), zI x2]) (S' := [zI x3, zI y0, zR (some 38)]) (by exact rfl) (by exact rfl) (by exact Nat.le_of_ble_eq_true rfl) (by exact Nat.le_of_ble_eq_true rfl) (zcn (by exact rfl))
theorem b_X3_joyTipped_29 (d : Nat) (y0 y1 y2 x1 x2 x3 x4 : Int) (σ : zS) : zq (d + 1) mX3_joyTipped 29 [some (zR (some 36)), some (zI x1), some (zI x2), some (zI x3), some (zI x4)] [zI y0, zI y1, zI y2, zR (some 38)] σ = (if zix y2 35 then (zc d mX3_of [zI (x2 + 1), zI 2] (zup σ 38 (nrm y2).toNat (y1 * y0))).bind fun r => zq (d + 1) mX3_joyTipped 42 [some (zR (some 36)), some (zI x1), some (zI x2), some (zI x3), some (zI x4)] (r.1.toList ++ [zR (some 38)]) r.2 else none) := by
  refine Eq.trans (zY_step (by exact rfl) (by exact dX3_joyTipped_29) (by exact rfl) (pc' := 30) (S' := [zI (y1 * y0), zI y2, zR (some 38)]) (by exact rfl) (zcn (by exact rfl))) ?_
  refine Eq.trans (zY_iast (by exact rfl) (by exact dX3_joyTipped_30) (by exact rfl) (by exact rfl) (zcn (by exact rfl))) (zif ?_ rfl)
  · refine Eq.trans (zY_step (by exact rfl) (by exact dX3_joyTipped_31) (by exact rfl) (pc' := 32) (S' := [zR (some 36)]) (by exact rfl) (zcn (by exact rfl))) ?_
    refine Eq.trans (zY_getR (by exact rfl) (by exact dX3_joyTipped_32) (by exact rfl) (by exact rfl) (t := 38) (by exact rfl) (zcn (by exact rfl))) ?_
    refine Eq.trans (zY_step (by exact rfl) (by exact dX3_joyTipped_35) (by exact rfl) (pc' := 36) (S' := [zI x2, zR (some 38)]) (by exact rfl) (zcn (by exact rfl))) ?_
    refine Eq.trans (zY_step (by exact rfl) (by exact dX3_joyTipped_36) (by exact rfl) (pc' := 37) (S' := [zI 1, zI x2, zR (some 38)]) (by exact rfl) (zcn (by exact rfl))) ?_
    refine Eq.trans (zY_step (by exact rfl) (by exact dX3_joyTipped_37) (by exact rfl) (pc' := 38) (S' := [zI (x2 + 1), zR (some 38)]) (by exact rfl) (zcn (by exact rfl))) ?_
    refine Eq.trans (zY_step (by exact rfl) (by exact dX3_joyTipped_38) (by exact rfl) (pc' := 39) (S' := [zI 2, zI (x2 + 1), zR (some 38)]) (by exact rfl) (zcn (by exact rfl))) ?_
    exact zY_S (by exact rfl) (by exact dX3_joyTipped_39) (by exact rfl) (by exact Or.inl rfl) (as := [zI (x2 + 1), zI 2]) (S' := [zR (some 38)]) (by exact rfl) (by exact rfl) (by exact Nat.le_of_ble_eq_true rfl) (by exact Nat.le_of_ble_eq_true rfl) (zcn (by exact rfl))
theorem b_X3_joyTipped_42 (d : Nat) (y0 x1 x2 x3 x4 : Int) (σ : zS) : zq (d + 1) mX3_joyTipped 42 [some (zR (some 36)), some (zI x1), some (zI x2), some (zI x3), some (zI x4)] [zI y0, zR (some 38)] σ = (zc d mX3_can [zR (some 38), zI (x2 + 1)] σ).bind fun r => zq (d + 1) mX3_joyTipped 54 [some (zR (some 36)), some (zI x1), some (zI x2), some (zI x3), some (zI x4)] (r.1.toList ++ [zI x4, zI y0, zR (some 38)]) r.2 := by
  refine Eq.trans (zY_step (by exact rfl) (by exact dX3_joyTipped_42) (by exact rfl) (pc' := 44) (S' := [zI x4, zI y0, zR (some 38)]) (by exact rfl) (zcn (by exact rfl))) ?_
  refine Eq.trans (zY_step (by exact rfl) (by exact dX3_joyTipped_44) (by exact rfl) (pc' := 45) (S' := [zR (some 36), zI x4, zI y0, zR (some 38)]) (by exact rfl) (zcn (by exact rfl))) ?_
  refine Eq.trans (zY_getR (by exact rfl) (by exact dX3_joyTipped_45) (by exact rfl) (by exact rfl) (t := 38) (by exact rfl) (zcn (by exact rfl))) ?_
  refine Eq.trans (zY_step (by exact rfl) (by exact dX3_joyTipped_48) (by exact rfl) (pc' := 49) (S' := [zI x2, zR (some 38), zI x4, zI y0, zR (some 38)]) (by exact rfl) (zcn (by exact rfl))) ?_
  refine Eq.trans (zY_step (by exact rfl) (by exact dX3_joyTipped_49) (by exact rfl) (pc' := 50) (S' := [zI 1, zI x2, zR (some 38), zI x4, zI y0, zR (some 38)]) (by exact rfl) (zcn (by exact rfl))) ?_
  refine Eq.trans (zY_step (by exact rfl) (by exact dX3_joyTipped_50) (by exact rfl) (pc' := 51) (S' := [zI (x2 + 1), zR (some 38), zI x4, zI y0, zR (some 38)]) (by exact rfl) (zcn (by exact rfl))) ?_
  exact zY_S (by exact rfl) (by exact dX3_joyTipped_51) (by exact rfl) (by exact Or.inl rfl) (as := [zR (some 38), zI (x2 + 1)]) (S' := [zI x4, zI y0, zR (some 38)]) (by exact rfl) (by exact rfl) (by exact Nat.le_of_ble_eq_true rfl) (by exact Nat.le_of_ble_eq_true rfl) (zcn (by exact rfl))
theorem b_X3_joyTipped_54 (d : Nat) (y0 y1 y2 x1 x2 x3 x4 : Int) (σ : zS) : zq (d + 1) mX3_joyTipped 54 [some (zR (some 36)), some (zI x1), some (zI x2), some (zI x3), some (zI x4)] [zI y0, zI y1, zI y2, zR (some 38)] σ = (if zix y2 35 then (zc d mX3_joy [zR (some 38), zI x1] (zup σ 38 (nrm y2).toNat (y1 * y0))).bind fun r => zq (d + 1) mX3_joyTipped 64 [some (zR (some 36)), some (zI x1), some (zI x2), some (zI x3), some (zI x4)] (r.1.toList ++ []) r.2 else none) := by
  refine Eq.trans (zY_step (by exact rfl) (by exact dX3_joyTipped_54) (by exact rfl) (pc' := 55) (S' := [zI (y1 * y0), zI y2, zR (some 38)]) (by exact rfl) (zcn (by exact rfl))) ?_
  refine Eq.trans (zY_iast (by exact rfl) (by exact dX3_joyTipped_55) (by exact rfl) (by exact rfl) (zcn (by exact rfl))) (zif ?_ rfl)
  · refine Eq.trans (zY_step (by exact rfl) (by exact dX3_joyTipped_56) (by exact rfl) (pc' := 57) (S' := [zR (some 36)]) (by exact rfl) (zcn (by exact rfl))) ?_
    refine Eq.trans (zY_getR (by exact rfl) (by exact dX3_joyTipped_57) (by exact rfl) (by exact rfl) (t := 38) (by exact rfl) (zcn (by exact rfl))) ?_
    refine Eq.trans (zY_step (by exact rfl) (by exact dX3_joyTipped_60) (by exact rfl) (pc' := 61) (S' := [zI x1, zR (some 38)]) (by exact rfl) (zcn (by exact rfl))) ?_
    exact zY_S (by exact rfl) (by exact dX3_joyTipped_61) (by exact rfl) (by exact Or.inl rfl) (as := [zR (some 38), zI x1]) (S' := []) (by exact rfl) (by exact rfl) (by exact Nat.le_of_ble_eq_true rfl) (by exact Nat.le_of_ble_eq_true rfl) (zcn (by exact rfl))
theorem b_X3_joyTipped_64 (d : Nat) (y0 x1 x2 x3 x4 : Int) (σ : zS) : zq d mX3_joyTipped 64 [some (zR (some 36)), some (zI x1), some (zI x2), some (zI x3), some (zI x4)] [zI y0] σ = some (some (zI y0), σ) := by
  exact zq_ret (by exact dX3_joyTipped_64) (by exact rfl) (rv := some (zI y0)) (by exact rfl)
theorem e_X3_two (d : Nat) (x1 : Int) (σ : zS) : zc (d + 1) mX3_two [zR (some 36), zI x1] σ = (zc d mX3_isIn [zI x1, zI 0, zI ((σ 37 0) - 2)] σ).bind fun r => zq (d + 1) mX3_two 13 [some (zR (some 36)), some (zI x1), none, none, none] (r.1.toList ++ []) r.2 := by
  refine Eq.trans (zc_zq (L := [some (zR (some 36)), some (zI x1), none, none, none]) (by exact rfl)) ?_
  refine Eq.trans (zY_step (by exact rfl) (by exact dX3_two_0) (by exact rfl) (pc' := 1) (S' := [zI x1]) (by exact rfl) (zcn (by exact rfl))) ?_
  refine Eq.trans (zY_step (by exact rfl) (by exact dX3_two_1) (by exact rfl) (pc' := 2) (S' := [zI 0, zI x1]) (by exact rfl) (zcn (by exact rfl))) ?_
  refine Eq.trans (zY_step (by exact rfl) (by exact dX3_two_2) (by exact rfl) (pc' := 3) (S' := [zR (some 36), zI 0, zI x1]) (by exact rfl) (zcn (by exact rfl))) ?_
  refine Eq.trans (zY_getR (by exact rfl) (by exact dX3_two_3) (by exact rfl) (by exact rfl) (t := 37) (by exact rfl) (zcn (by exact rfl))) ?_
  refine Eq.trans (zY_step (by exact rfl) (by exact dX3_two_6) (by exact rfl) (pc' := 7) (S' := [zI 0, zR (some 37), zI 0, zI x1]) (by exact rfl) (zcn (by exact rfl))) ?_
  refine Eq.trans (zY_ialdc (by exact rfl) (by exact dX3_two_7) (by exact rfl) (by exact rfl) (j := 0) (by decide) (by decide) (zcn (by exact rfl))) ?_
  refine Eq.trans (zY_step (by exact rfl) (by exact dX3_two_8) (by exact rfl) (pc' := 9) (S' := [zI 2, zI (σ 37 0), zI 0, zI x1]) (by exact rfl) (zcn (by exact rfl))) ?_
  refine Eq.trans (zY_step (by exact rfl) (by exact dX3_two_9) (by exact rfl) (pc' := 10) (S' := [zI ((σ 37 0) - 2), zI 0, zI x1]) (by exact rfl) (zcn (by exact rfl))) ?_
  exact zY_S (by exact rfl) (by exact dX3_two_10) (by exact rfl) (by exact Or.inl rfl) (as := [zI x1, zI 0, zI ((σ 37 0) - 2)]) (S' := []) (by exact rfl) (by exact rfl) (by exact Nat.le_of_ble_eq_true rfl) (by exact Nat.le_of_ble_eq_true rfl) (zcn (by exact rfl))
theorem b_X3_two_13 (d : Nat) (y0 x1 : Int) (σ : zS) : zq d mX3_two 13 [some (zR (some 36)), some (zI x1), none, none, none] [zI y0] σ = (if ¬ nrm y0 = 0 then zq d mX3_two 20 [some (zR (some 36)), some (zI x1), some (zI 0), none, none] [] σ else some (some (zI ((-1))), σ)) := by
  refine Eq.trans (zY_if_ne (by exact rfl) (by exact dX3_two_13) (t := 18) (by exact rfl) (a2 := nrm y0) (by exact rfl) (zcn (by exact rfl)) (zcn (by exact rfl))) (zif ?_ ?_)
  · refine Eq.trans (zY_step (by exact rfl) (by exact dX3_two_18) (by exact rfl) (pc' := 19) (S' := [zI 0]) (by exact rfl) (zcn (by exact rfl))) ?_
    exact zY_step (by exact rfl) (by exact dX3_two_19) (by exact rfl) (pc' := 20) (L' := [some (zR (some 36)), some (zI x1), some (zI 0), none, none]) (S' := []) (by exact rfl) (zcn (by exact rfl))
  · refine Eq.trans (zY_step (by exact rfl) (by exact dX3_two_16) (by exact rfl) (pc' := 17) (S' := [zI ((-1))]) (by exact rfl) (zcn (by exact rfl))) ?_
    exact zq_ret (by exact dX3_two_17) (by exact rfl) (rv := some (zI ((-1)))) (by exact rfl)
theorem b_X3_two_20 (d : Nat) (x1 x2 : Int) (σ : zS) : zq (d + 1) mX3_two 20 [some (zR (some 36)), some (zI x1), some (zI x2), none, none] [] σ = (if 4 ≤ nrm x2 then some (some (zI ((-4))), σ) else (zc d mX3_joyTipped [zR (some 36), zI x1, zI x1, zI (1 - ((nrm x2).tdiv 2)), zI ((nrm x2).tmod 2)] σ).bind fun r => zq (d + 1) mX3_two 45 [some (zR (some 36)), some (zI x1), some (zI x2), some (zI ((nrm x2).tdiv 2)), some (zI ((nrm x2).tmod 2))] (r.1.toList ++ []) r.2) := by
  refine Eq.trans (zY_step (by exact rfl) (by exact dX3_two_20) (by exact rfl) (pc' := 21) (S' := [zI x2]) (by exact rfl) (zcn (by exact rfl))) ?_
  refine Eq.trans (zY_step (by exact rfl) (by exact dX3_two_21) (by exact rfl) (pc' := 22) (S' := [zI 4, zI x2]) (by exact rfl) (zcn (by exact rfl))) ?_
  refine Eq.trans (zY_ic_ge (by exact rfl) (by exact dX3_two_22) (t := 98) (by exact rfl) (a2 := nrm x2) (b2 := 4) (by exact rfl) (by decide) (zcn (by exact rfl)) (zcn (by exact rfl))) (zif ?_ ?_)
  · refine Eq.trans (zY_step (by exact rfl) (by exact dX3_two_98) (by exact rfl) (pc' := 100) (S' := [zI ((-4))]) (by exact rfl) (zcn (by exact rfl))) ?_
    exact zq_ret (by exact dX3_two_100) (by exact rfl) (rv := some (zI ((-4)))) (by exact rfl)
  · refine Eq.trans (zY_step (by exact rfl) (by exact dX3_two_25) (by exact rfl) (pc' := 26) (S' := [zI x2]) (by exact rfl) (zcn (by exact rfl))) ?_
    refine Eq.trans (zY_step (by exact rfl) (by exact dX3_two_26) (by exact rfl) (pc' := 27) (S' := [zI 2, zI x2]) (by exact rfl) (zcn (by exact rfl))) ?_
    refine Eq.trans (zY_divc (by exact rfl) (by exact dX3_two_27) (c := 2) (by decide) (by decide) (zcn (by exact rfl))) ?_
    refine Eq.trans (zY_step (by exact rfl) (by exact dX3_two_28) (by exact rfl) (pc' := 29) (L' := [some (zR (some 36)), some (zI x1), some (zI x2), some (zI ((nrm x2).tdiv 2)), none]) (S' := []) (by exact rfl) (zcn (by exact rfl))) ?_
    refine Eq.trans (zY_step (by exact rfl) (by exact dX3_two_29) (by exact rfl) (pc' := 30) (S' := [zI x2]) (by exact rfl) (zcn (by exact rfl))) ?_
    refine Eq.trans (zY_step (by exact rfl) (by exact dX3_two_30) (by exact rfl) (pc' := 31) (S' := [zI 2, zI x2]) (by exact rfl) (zcn (by exact rfl))) ?_
    refine Eq.trans (zY_remc (by exact rfl) (by exact dX3_two_31) (c := 2) (by decide) (by decide) (zcn (by exact rfl))) ?_
    refine Eq.trans (zY_step (by exact rfl) (by exact dX3_two_32) (by exact rfl) (pc' := 34) (L' := [some (zR (some 36)), some (zI x1), some (zI x2), some (zI ((nrm x2).tdiv 2)), some (zI ((nrm x2).tmod 2))]) (S' := []) (by exact rfl) (zcn (by exact rfl))) ?_
    refine Eq.trans (zY_step (by exact rfl) (by exact dX3_two_34) (by exact rfl) (pc' := 35) (S' := [zR (some 36)]) (by exact rfl) (zcn (by exact rfl))) ?_
    refine Eq.trans (zY_step (by exact rfl) (by exact dX3_two_35) (by exact rfl) (pc' := 36) (S' := [zI x1, zR (some 36)]) (by exact rfl) (zcn (by exact rfl))) ?_
    refine Eq.trans (zY_step (by exact rfl) (by exact dX3_two_36) (by exact rfl) (pc' := 37) (S' := [zI x1, zI x1, zR (some 36)]) (by exact rfl) (zcn (by exact rfl))) ?_
    refine Eq.trans (zY_step (by exact rfl) (by exact dX3_two_37) (by exact rfl) (pc' := 38) (S' := [zI 1, zI x1, zI x1, zR (some 36)]) (by exact rfl) (zcn (by exact rfl))) ?_
    refine Eq.trans (zY_step (by exact rfl) (by exact dX3_two_38) (by exact rfl) (pc' := 39) (S' := [zI ((nrm x2).tdiv 2), zI 1, zI x1, zI x1, zR (some 36)]) (by exact rfl) (zcn (by exact rfl))) ?_
    refine Eq.trans (zY_step (by exact rfl) (by exact dX3_two_39) (by exact rfl) (pc' := 40) (S' := [zI (1 - ((nrm x2).tdiv 2)), zI x1, zI x1, zR (some 36)]) (by exact rfl) (zcn (by exact rfl))) ?_
    refine Eq.trans (zY_step (by exact rfl) (by exact dX3_two_40) (by exact rfl) (pc' := 42) (S' := [zI ((nrm x2).tmod 2), zI (1 - ((nrm x2).tdiv 2)), zI x1, zI x1, zR (some 36)]) (by exact rfl) (zcn (by exact rfl))) ?_
    exact zY_V (by exact rfl) (by exact dX3_two_42) (by exact rfl) (as := [zI x1, zI x1, zI (1 - ((nrm x2).tdiv 2)), zI ((nrm x2).tmod 2)]) (S' := []) (by exact rfl) (by exact rfl) (by exact rfl) (by exact Nat.le_of_ble_eq_true rfl) (by exact Nat.le_of_ble_eq_true rfl) (by exact Nat.le_of_ble_eq_true rfl) (zcn (by exact rfl))
theorem b_X3_two_45 (d : Nat) (y0 x1 x2 x3 x4 : Int) (σ : zS) : zq (d + 1) mX3_two 45 [some (zR (some 36)), some (zI x1), some (zI x2), some (zI x3), some (zI x4)] [zI y0] σ = (zc d mX3_joyTipped [zR (some 36), zI x1, zI x1, zI x3, zI x4] σ).bind fun r => zq (d + 1) mX3_two 54 [some (zR (some 36)), some (zI x1), some (zI x2), some (zI x3), some (zI x4)] (r.1.toList ++ [zI y0]) r.2 := by
  refine Eq.trans (zY_step (by exact rfl) (by exact dX3_two_45) (by exact rfl) (pc' := 46) (S' := [zR (some 36), zI y0]) (by exact rfl) (zcn (by exact rfl))) ?_
  refine Eq.trans (zY_step (by exact rfl) (by exact dX3_two_46) (by exact rfl) (pc' := 47) (S' := [zI x1, zR (some 36), zI y0]) (by exact rfl) (zcn (by exact rfl))) ?_
  refine Eq.trans (zY_step (by exact rfl) (by exact dX3_two_47) (by exact rfl) (pc' := 48) (S' := [zI x1, zI x1, zR (some 36), zI y0]) (by exact rfl) (zcn (by exact rfl))) ?_
  refine Eq.trans (zY_step (by exact rfl) (by exact dX3_two_48) (by exact rfl) (pc' := 49) (S' := [zI x3, zI x1, zI x1, zR (some 36), zI y0]) (by exact rfl) (zcn (by exact rfl))) ?_
  refine Eq.trans (zY_step (by exact rfl) (by exact dX3_two_49) (by exact rfl) (pc' := 51) (S' := [zI x4, zI x3, zI x1, zI x1, zR (some 36), zI y0]) (by exact rfl) (zcn (by exact rfl))) ?_
  exact zY_V (by exact rfl) (by exact dX3_two_51) (by exact rfl) (as := [zI x1, zI x1, zI x3, zI x4]) (S' := [zI y0]) (by exact rfl) (by exact rfl) (by exact rfl) (by exact Nat.le_of_ble_eq_true rfl) (by exact Nat.le_of_ble_eq_true rfl) (by exact Nat.le_of_ble_eq_true rfl) (zcn (by exact rfl))
theorem b_X3_two_54 (d : Nat) (y0 y1 x1 x2 x3 x4 : Int) (σ : zS) : zq (d + 1) mX3_two 54 [some (zR (some 36)), some (zI x1), some (zI x2), some (zI x3), some (zI x4)] [zI y0, zI y1] σ = (if nrm y0 < nrm y1 then zq (d + 1) mX3_two 92 [some (zR (some 36)), some (zI x1), some (zI x2), none, none] [] σ else (zc d mX3_joyTipped [zR (some 36), zI (x1 + 1), zI x1, zI x3, zI (1 - x4)] σ).bind fun r => zq (d + 1) mX3_two 70 [some (zR (some 36)), some (zI x1), some (zI x2), some (zI x3), some (zI x4)] (r.1.toList ++ []) r.2) := by
  refine Eq.trans (zY_ic_gt (by exact rfl) (by exact dX3_two_54) (t := 92) (by exact rfl) (a2 := nrm y1) (b2 := nrm y0) (by exact rfl) (by exact rfl) (L1 := [some (zR (some 36)), some (zI x1), some (zI x2), none, none]) (by exact rfl) (zcn (by exact rfl))) (zif ?_ ?_)
  · exact rfl
  · refine Eq.trans (zY_step (by exact rfl) (by exact dX3_two_57) (by exact rfl) (pc' := 58) (S' := [zR (some 36)]) (by exact rfl) (zcn (by exact rfl))) ?_
    refine Eq.trans (zY_step (by exact rfl) (by exact dX3_two_58) (by exact rfl) (pc' := 59) (S' := [zI x1, zR (some 36)]) (by exact rfl) (zcn (by exact rfl))) ?_
    refine Eq.trans (zY_step (by exact rfl) (by exact dX3_two_59) (by exact rfl) (pc' := 60) (S' := [zI 1, zI x1, zR (some 36)]) (by exact rfl) (zcn (by exact rfl))) ?_
    refine Eq.trans (zY_step (by exact rfl) (by exact dX3_two_60) (by exact rfl) (pc' := 61) (S' := [zI (x1 + 1), zR (some 36)]) (by exact rfl) (zcn (by exact rfl))) ?_
    refine Eq.trans (zY_step (by exact rfl) (by exact dX3_two_61) (by exact rfl) (pc' := 62) (S' := [zI x1, zI (x1 + 1), zR (some 36)]) (by exact rfl) (zcn (by exact rfl))) ?_
    refine Eq.trans (zY_step (by exact rfl) (by exact dX3_two_62) (by exact rfl) (pc' := 63) (S' := [zI x3, zI x1, zI (x1 + 1), zR (some 36)]) (by exact rfl) (zcn (by exact rfl))) ?_
    refine Eq.trans (zY_step (by exact rfl) (by exact dX3_two_63) (by exact rfl) (pc' := 64) (S' := [zI 1, zI x3, zI x1, zI (x1 + 1), zR (some 36)]) (by exact rfl) (zcn (by exact rfl))) ?_
    refine Eq.trans (zY_step (by exact rfl) (by exact dX3_two_64) (by exact rfl) (pc' := 66) (S' := [zI x4, zI 1, zI x3, zI x1, zI (x1 + 1), zR (some 36)]) (by exact rfl) (zcn (by exact rfl))) ?_
    refine Eq.trans (zY_step (by exact rfl) (by exact dX3_two_66) (by exact rfl) (pc' := 67) (S' := [zI (1 - x4), zI x3, zI x1, zI (x1 + 1), zR (some 36)]) (by exact rfl) (zcn (by exact rfl))) ?_
    exact zY_V (by exact rfl) (by exact dX3_two_67) (by exact rfl) (as := [zI (x1 + 1), zI x1, zI x3, zI (1 - x4)]) (S' := []) (by exact rfl) (by exact rfl) (by exact rfl) (by exact Nat.le_of_ble_eq_true rfl) (by exact Nat.le_of_ble_eq_true rfl) (by exact Nat.le_of_ble_eq_true rfl) (zcn (by exact rfl))
theorem b_X3_two_92 (d : Nat) (x1 x2 : Int) (σ : zS) : zq d mX3_two 92 [some (zR (some 36)), some (zI x1), some (zI x2), none, none] [] σ = zq d mX3_two 20 [some (zR (some 36)), some (zI x1), some (zI (x2 + 1)), none, none] [] σ := by
  refine Eq.trans (zY_step (by exact rfl) (by exact dX3_two_92) (by exact rfl) (pc' := 95) (L' := [some (zR (some 36)), some (zI x1), some (zI (x2 + 1)), none, none]) (S' := []) (by exact rfl) (zcn (by exact rfl))) ?_
  exact zY_step (by exact rfl) (by exact dX3_two_95) (by exact rfl) (pc' := 20) (S' := []) (by exact rfl) (zcn (by exact rfl))
theorem b_X3_two_70 (d : Nat) (y0 x1 x2 x3 x4 : Int) (σ : zS) : zq (d + 1) mX3_two 70 [some (zR (some 36)), some (zI x1), some (zI x2), some (zI x3), some (zI x4)] [zI y0] σ = (zc d mX3_joyTipped [zR (some 36), zI (x1 + 1), zI x1, zI x3, zI x4] σ).bind fun r => zq (d + 1) mX3_two 81 [some (zR (some 36)), some (zI x1), some (zI x2), some (zI x3), some (zI x4)] (r.1.toList ++ [zI y0]) r.2 := by
  refine Eq.trans (zY_step (by exact rfl) (by exact dX3_two_70) (by exact rfl) (pc' := 71) (S' := [zR (some 36), zI y0]) (by exact rfl) (zcn (by exact rfl))) ?_
  refine Eq.trans (zY_step (by exact rfl) (by exact dX3_two_71) (by exact rfl) (pc' := 72) (S' := [zI x1, zR (some 36), zI y0]) (by exact rfl) (zcn (by exact rfl))) ?_
  refine Eq.trans (zY_step (by exact rfl) (by exact dX3_two_72) (by exact rfl) (pc' := 73) (S' := [zI 1, zI x1, zR (some 36), zI y0]) (by exact rfl) (zcn (by exact rfl))) ?_
  refine Eq.trans (zY_step (by exact rfl) (by exact dX3_two_73) (by exact rfl) (pc' := 74) (S' := [zI (x1 + 1), zR (some 36), zI y0]) (by exact rfl) (zcn (by exact rfl))) ?_
  refine Eq.trans (zY_step (by exact rfl) (by exact dX3_two_74) (by exact rfl) (pc' := 75) (S' := [zI x1, zI (x1 + 1), zR (some 36), zI y0]) (by exact rfl) (zcn (by exact rfl))) ?_
  refine Eq.trans (zY_step (by exact rfl) (by exact dX3_two_75) (by exact rfl) (pc' := 76) (S' := [zI x3, zI x1, zI (x1 + 1), zR (some 36), zI y0]) (by exact rfl) (zcn (by exact rfl))) ?_
  refine Eq.trans (zY_step (by exact rfl) (by exact dX3_two_76) (by exact rfl) (pc' := 78) (S' := [zI x4, zI x3, zI x1, zI (x1 + 1), zR (some 36), zI y0]) (by exact rfl) (zcn (by exact rfl))) ?_
  exact zY_V (by exact rfl) (by exact dX3_two_78) (by exact rfl) (as := [zI (x1 + 1), zI x1, zI x3, zI x4]) (S' := [zI y0]) (by exact rfl) (by exact rfl) (by exact rfl) (by exact Nat.le_of_ble_eq_true rfl) (by exact Nat.le_of_ble_eq_true rfl) (by exact Nat.le_of_ble_eq_true rfl) (zcn (by exact rfl))
theorem b_X3_two_81 (d : Nat) (y0 y1 x1 x2 x3 x4 : Int) (σ : zS) : zq d mX3_two 81 [some (zR (some 36)), some (zI x1), some (zI x2), some (zI x3), some (zI x4)] [zI y0, zI y1] σ = (if nrm y0 < nrm y1 then zq d mX3_two 92 [some (zR (some 36)), some (zI x1), some (zI x2), none, none] [] σ else some (some (zI ((10 * x3) + x4)), σ)) := by
  refine Eq.trans (zY_ic_gt (by exact rfl) (by exact dX3_two_81) (t := 92) (by exact rfl) (a2 := nrm y1) (b2 := nrm y0) (by exact rfl) (by exact rfl) (L1 := [some (zR (some 36)), some (zI x1), some (zI x2), none, none]) (by exact rfl) (zcn (by exact rfl))) (zif ?_ ?_)
  · exact rfl
  · refine Eq.trans (zY_step (by exact rfl) (by exact dX3_two_84) (by exact rfl) (pc' := 86) (S' := [zI 10]) (by exact rfl) (zcn (by exact rfl))) ?_
    refine Eq.trans (zY_step (by exact rfl) (by exact dX3_two_86) (by exact rfl) (pc' := 87) (S' := [zI x3, zI 10]) (by exact rfl) (zcn (by exact rfl))) ?_
    refine Eq.trans (zY_step (by exact rfl) (by exact dX3_two_87) (by exact rfl) (pc' := 88) (S' := [zI (10 * x3)]) (by exact rfl) (zcn (by exact rfl))) ?_
    refine Eq.trans (zY_step (by exact rfl) (by exact dX3_two_88) (by exact rfl) (pc' := 90) (S' := [zI x4, zI (10 * x3)]) (by exact rfl) (zcn (by exact rfl))) ?_
    refine Eq.trans (zY_step (by exact rfl) (by exact dX3_two_90) (by exact rfl) (pc' := 91) (S' := [zI ((10 * x3) + x4)]) (by exact rfl) (zcn (by exact rfl))) ?_
    exact zq_ret (by exact dX3_two_91) (by exact rfl) (rv := some (zI ((10 * x3) + x4))) (by exact rfl)
theorem e_X3_gcd (d : Nat) (x0 x2 : Int) (σ : zS) : zc d mX3_gcd [zJ x0, zJ x2] σ = zq d mX3_gcd 6 [none, none, none, none, some (zJ x0), none, some (zJ x2), none, none, none] [] σ := by
  refine Eq.trans (zc_zq (L := [some (zJ x0), none, some (zJ x2), none, none, none, none, none, none, none]) (by exact rfl)) ?_
  refine Eq.trans (zY_step (by exact rfl) (by exact dX3_gcd_0) (by exact rfl) (pc' := 1) (S' := [zJ x0]) (by exact rfl) (zcn (by exact rfl))) ?_
  refine Eq.trans (zY_step (by exact rfl) (by exact dX3_gcd_1) (by exact rfl) (pc' := 3) (L' := [some (zJ x0), none, some (zJ x2), none, some (zJ x0), none, none, none, none, none]) (S' := []) (by exact rfl) (zcn (by exact rfl))) ?_
  refine Eq.trans (zY_step (by exact rfl) (by exact dX3_gcd_3) (by exact rfl) (pc' := 4) (S' := [zJ x2]) (by exact rfl) (zcn (by exact rfl))) ?_
  exact zY_step (by exact rfl) (by exact dX3_gcd_4) (by exact rfl) (pc' := 6) (L' := [some (zJ x0), none, some (zJ x2), none, some (zJ x0), none, some (zJ x2), none, none, none]) (S' := []) (L2 := [none, none, none, none, some (zJ x0), none, some (zJ x2), none, none, none]) (by exact rfl) (by exact rfl)
theorem b_X3_gcd_6 (d : Nat) (x4 x6 : Int) (σ : zS) : zq d mX3_gcd 6 [none, none, none, none, some (zJ x4), none, some (zJ x6), none, none, none] [] σ = (if nrm (if nrL x6 < nrL 0 then -1 else if nrL x6 = nrL 0 then 0 else 1) = 0 then some (some (zJ x4), σ) else (if nrL x6 = 0 then none else zq d mX3_gcd 6 [none, none, none, none, some (zJ x6), none, some (zJ ((nrL x4).tmod (nrL x6))), none, none, none] [] σ)) := by
  refine Eq.trans (zY_step (by exact rfl) (by exact dX3_gcd_6) (by exact rfl) (pc' := 8) (S' := [zJ x6]) (by exact rfl) (zcn (by exact rfl))) ?_
  refine Eq.trans (zY_step (by exact rfl) (by exact dX3_gcd_8) (by exact rfl) (pc' := 9) (S' := [zJ 0, zJ x6]) (by exact rfl) (zcn (by exact rfl))) ?_
  refine Eq.trans (zY_step (by exact rfl) (by exact dX3_gcd_9) (by exact rfl) (pc' := 10) (S' := [zI (if nrL x6 < nrL 0 then -1 else if nrL x6 = nrL 0 then 0 else 1)]) (by exact rfl) (zcn (by exact rfl))) ?_
  refine Eq.trans (zY_if_eq (by exact rfl) (by exact dX3_gcd_10) (t := 31) (by exact rfl) (a2 := nrm (if nrL x6 < nrL 0 then -1 else if nrL x6 = nrL 0 then 0 else 1)) (by exact rfl) (zcn (by exact rfl)) (zcn (by exact rfl))) (zif ?_ ?_)
  · refine Eq.trans (zY_step (by exact rfl) (by exact dX3_gcd_31) (by exact rfl) (pc' := 33) (S' := [zJ x4]) (by exact rfl) (zcn (by exact rfl))) ?_
    exact zq_ret (by exact dX3_gcd_33) (by exact rfl) (rv := some (zJ x4)) (by exact rfl)
  · refine Eq.trans (zY_step (by exact rfl) (by exact dX3_gcd_13) (by exact rfl) (pc' := 15) (S' := [zJ x4]) (by exact rfl) (zcn (by exact rfl))) ?_
    refine Eq.trans (zY_step (by exact rfl) (by exact dX3_gcd_15) (by exact rfl) (pc' := 17) (S' := [zJ x6, zJ x4]) (by exact rfl) (zcn (by exact rfl))) ?_
    refine Eq.trans (zY_lrem (by exact rfl) (by exact dX3_gcd_17) (zcn (by exact rfl))) (zif rfl ?_)
    · refine Eq.trans (zY_step (by exact rfl) (by exact dX3_gcd_18) (by exact rfl) (pc' := 20) (L' := [none, none, none, none, some (zJ x4), none, some (zJ x6), none, some (zJ ((nrL x4).tmod (nrL x6))), none]) (S' := []) (by exact rfl) (zcn (by exact rfl))) ?_
      refine Eq.trans (zY_step (by exact rfl) (by exact dX3_gcd_20) (by exact rfl) (pc' := 22) (S' := [zJ x6]) (by exact rfl) (zcn (by exact rfl))) ?_
      refine Eq.trans (zY_step (by exact rfl) (by exact dX3_gcd_22) (by exact rfl) (pc' := 24) (L' := [none, none, none, none, some (zJ x6), none, some (zJ x6), none, some (zJ ((nrL x4).tmod (nrL x6))), none]) (S' := []) (by exact rfl) (zcn (by exact rfl))) ?_
      refine Eq.trans (zY_step (by exact rfl) (by exact dX3_gcd_24) (by exact rfl) (pc' := 26) (S' := [zJ ((nrL x4).tmod (nrL x6))]) (by exact rfl) (zcn (by exact rfl))) ?_
      refine Eq.trans (zY_step (by exact rfl) (by exact dX3_gcd_26) (by exact rfl) (pc' := 28) (L' := [none, none, none, none, some (zJ x6), none, some (zJ ((nrL x4).tmod (nrL x6))), none, some (zJ ((nrL x4).tmod (nrL x6))), none]) (S' := []) (by exact rfl) (zcn (by exact rfl))) ?_
      exact zY_step (by exact rfl) (by exact dX3_gcd_28) (by exact rfl) (pc' := 6) (S' := []) (L2 := [none, none, none, none, some (zJ x6), none, some (zJ ((nrL x4).tmod (nrL x6))), none, none, none]) (by exact rfl) (by exact rfl)
