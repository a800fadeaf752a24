theorem e_X2_still (d : Nat) (σ : zS) : zc (d + 1) mX2_still [zR (some 0)] σ = (zc d mX0_copyFrom [zR (some 6), zR (some 1)] σ).bind fun r => zq (d + 1) mX2_still 11 [some (zR (some 0)), none] (r.1.toList ++ []) r.2 := by
  refine Eq.trans (zc_zq (L := [some (zR (some 0)), none]) (by exact rfl)) ?_
  refine Eq.trans (zY_step (by exact rfl) (by exact dX2_still_0) (by exact rfl) (pc' := 1) (S' := [zR (some 0)]) (by exact rfl) (zcn (by exact rfl))) ?_
  refine Eq.trans (zY_getR (by exact rfl) (by exact dX2_still_1) (by exact rfl) (by exact rfl) (t := 6) (by exact rfl) (zcn (by exact rfl))) ?_
  refine Eq.trans (zY_step (by exact rfl) (by exact dX2_still_4) (by exact rfl) (pc' := 5) (S' := [zR (some 0), zR (some 6)]) (by exact rfl) (zcn (by exact rfl))) ?_
  refine Eq.trans (zY_getR (by exact rfl) (by exact dX2_still_5) (by exact rfl) (by exact rfl) (t := 1) (by exact rfl) (zcn (by exact rfl))) ?_
  exact zY_V (by exact rfl) (by exact dX2_still_8) (by exact rfl) (as := [zR (some 1)]) (S' := []) (by exact rfl) (by exact rfl) (by exact zCo_k zCo6) (by exact Nat.le_of_ble_eq_true rfl) (by exact Nat.le_of_ble_eq_true rfl) (by exact Nat.le_of_ble_eq_true rfl) (zcn (by exact rfl))
theorem b_X2_still_11 (d : Nat) (σ : zS) : zq (d + 1) mX2_still 11 [some (zR (some 0)), none] [] σ = (zc d mX0_goOn [zR (some 6), zI 61] σ).bind fun r => zq (d + 1) mX2_still 20 [some (zR (some 0)), none] (r.1.toList ++ []) r.2 := by
  refine Eq.trans (zY_step (by exact rfl) (by exact dX2_still_11) (by exact rfl) (pc' := 12) (S' := [zR (some 0)]) (by exact rfl) (zcn (by exact rfl))) ?_
  refine Eq.trans (zY_getR (by exact rfl) (by exact dX2_still_12) (by exact rfl) (by exact rfl) (t := 6) (by exact rfl) (zcn (by exact rfl))) ?_
  refine Eq.trans (zY_step (by exact rfl) (by exact dX2_still_15) (by exact rfl) (pc' := 17) (S' := [zI 61, zR (some 6)]) (by exact rfl) (zcn (by exact rfl))) ?_
  exact zY_V (by exact rfl) (by exact dX2_still_17) (by exact rfl) (as := [zI 61]) (S' := []) (by exact rfl) (by exact rfl) (by exact zCo_k zCo6) (by exact Nat.le_of_ble_eq_true rfl) (by exact Nat.le_of_ble_eq_true rfl) (by exact Nat.le_of_ble_eq_true rfl) (zcn (by exact rfl))
theorem b_X2_still_20 (d : Nat) (y0 : Int) (σ : zS) : zq d mX2_still 20 [some (zR (some 0)), none] [zI y0] σ = (if 60 < nrm y0 then some (some (zI ((-4))), σ) else some (some (zI y0), σ)) := by
  refine Eq.trans (zY_step (by exact rfl) (by exact dX2_still_20) (by exact rfl) (pc' := 21) (L' := [some (zR (some 0)), some (zI y0)]) (S' := []) (by exact rfl) (zcn (by exact rfl))) ?_
  refine Eq.trans (zY_step (by exact rfl) (by exact dX2_still_21) (by exact rfl) (pc' := 22) (S' := [zI y0]) (by exact rfl) (zcn (by exact rfl))) ?_
  refine Eq.trans (zY_step (by exact rfl) (by exact dX2_still_22) (by exact rfl) (pc' := 24) (S' := [zI 60, zI y0]) (by exact rfl) (zcn (by exact rfl))) ?_
  refine Eq.trans (zY_ic_gt (by exact rfl) (by exact dX2_still_24) (t := 31) (by exact rfl) (a2 := nrm y0) (b2 := 60) (by exact rfl) (by decide) (zcn (by exact rfl)) (zcn (by exact rfl))) (zif ?_ ?_)
  · refine Eq.trans (zY_step (by exact rfl) (by exact dX2_still_31) (by exact rfl) (pc' := 33) (S' := [zI ((-4))]) (L2 := [none, none]) (by exact rfl) (by exact rfl)) ?_
    exact zq_ret (by exact dX2_still_33) (by exact rfl) (rv := some (zI ((-4)))) (by exact rfl)
  · refine Eq.trans (zY_step (by exact rfl) (by exact dX2_still_27) (by exact rfl) (pc' := 28) (S' := [zI y0]) (by exact rfl) (zcn (by exact rfl))) ?_
    refine Eq.trans (zY_step (by exact rfl) (by exact dX2_still_28) (by exact rfl) (pc' := 33) (S' := [zI y0]) (L2 := [none, none]) (by exact rfl) (by exact rfl)) ?_
    exact zq_ret (by exact dX2_still_33) (by exact rfl) (rv := some (zI y0)) (by exact rfl)
theorem e_X2_run (d : Nat) (x1 x2 : Int) (σ : zS) : zc (d + 1) mX2_run [zR (some 0), zI x1, zI x2] σ = (zc d mX0_isRow [zR (some 1), zI x1] σ).bind fun r => zq (d + 1) mX2_run 8 [some (zR (some 0)), some (zI x1), some (zI x2)] (r.1.toList ++ []) r.2 := by
  refine Eq.trans (zc_zq (L := [some (zR (some 0)), some (zI x1), some (zI x2)]) (by exact rfl)) ?_
  refine Eq.trans (zY_step (by exact rfl) (by exact dX2_run_0) (by exact rfl) (pc' := 1) (S' := [zR (some 0)]) (by exact rfl) (zcn (by exact rfl))) ?_
  refine Eq.trans (zY_getR (by exact rfl) (by exact dX2_run_1) (by exact rfl) (by exact rfl) (t := 1) (by exact rfl) (zcn (by exact rfl))) ?_
  refine Eq.trans (zY_step (by exact rfl) (by exact dX2_run_4) (by exact rfl) (pc' := 5) (S' := [zI x1, zR (some 1)]) (by exact rfl) (zcn (by exact rfl))) ?_
  exact zY_V (by exact rfl) (by exact dX2_run_5) (by exact rfl) (as := [zI x1]) (S' := []) (by exact rfl) (by exact rfl) (by exact zCo_k zCo1) (by exact Nat.le_of_ble_eq_true rfl) (by exact Nat.le_of_ble_eq_true rfl) (by exact Nat.le_of_ble_eq_true rfl) (zcn (by exact rfl))
theorem b_X2_run_8 (d : Nat) (y0 x1 x2 : Int) (σ : zS) : zq (d + 1) mX2_run 8 [some (zR (some 0)), some (zI x1), some (zI x2)] [zI y0] σ = (if nrm y0 = 0 then some (some (zI ((-1))), σ) else (zc d mX2_isMindRounds [zI x2] σ).bind fun r => zq (d + 1) mX2_run 15 [some (zR (some 0)), some (zI x1), some (zI x2)] (r.1.toList ++ []) r.2) := by
  refine Eq.trans (zY_if_eq (by exact rfl) (by exact dX2_run_8) (t := 18) (by exact rfl) (a2 := nrm y0) (by exact rfl) (L1 := [none, none, none]) (by exact rfl) (zcn (by exact rfl))) (zif ?_ ?_)
  · refine Eq.trans (zY_step (by exact rfl) (by exact dX2_run_18) (by exact rfl) (pc' := 19) (S' := [zI ((-1))]) (by exact rfl) (zcn (by exact rfl))) ?_
    exact zq_ret (by exact dX2_run_19) (by exact rfl) (rv := some (zI ((-1)))) (by exact rfl)
  · refine Eq.trans (zY_step (by exact rfl) (by exact dX2_run_11) (by exact rfl) (pc' := 12) (S' := [zI x2]) (by exact rfl) (zcn (by exact rfl))) ?_
    exact zY_S (by exact rfl) (by exact dX2_run_12) (by exact rfl) (by exact Or.inl rfl) (as := [zI x2]) (S' := []) (by exact rfl) (by exact rfl) (by exact Nat.le_of_ble_eq_true rfl) (by exact Nat.le_of_ble_eq_true rfl) (zcn (by exact rfl))
theorem b_X2_run_15 (d : Nat) (y0 x1 x2 : Int) (σ : zS) : zq (d + 1) mX2_run 15 [some (zR (some 0)), some (zI x1), some (zI x2)] [zI y0] σ = (if ¬ nrm y0 = 0 then (zc d mX2_thinkOn [zR (some 0), zI x2] σ).bind fun r => zq (d + 1) mX2_run 25 [some (zR (some 0)), some (zI x1), some (zI x2)] (r.1.toList ++ []) r.2 else some (some (zI ((-1))), σ)) := by
  refine Eq.trans (zY_if_ne (by exact rfl) (by exact dX2_run_15) (t := 20) (by exact rfl) (a2 := nrm y0) (by exact rfl) (L2 := [none, none, none]) (zcn (by exact rfl)) (by exact rfl)) (zif ?_ ?_)
  · refine Eq.trans (zY_step (by exact rfl) (by exact dX2_run_20) (by exact rfl) (pc' := 21) (S' := [zR (some 0)]) (by exact rfl) (zcn (by exact rfl))) ?_
    refine Eq.trans (zY_step (by exact rfl) (by exact dX2_run_21) (by exact rfl) (pc' := 22) (S' := [zI x2, zR (some 0)]) (by exact rfl) (zcn (by exact rfl))) ?_
    exact zY_V (by exact rfl) (by exact dX2_run_22) (by exact rfl) (as := [zI x2]) (S' := []) (by exact rfl) (by exact rfl) (by exact rfl) (by exact Nat.le_of_ble_eq_true rfl) (by exact Nat.le_of_ble_eq_true rfl) (by exact Nat.le_of_ble_eq_true rfl) (zcn (by exact rfl))
  · refine Eq.trans (zY_step (by exact rfl) (by exact dX2_run_18) (by exact rfl) (pc' := 19) (S' := [zI ((-1))]) (by exact rfl) (zcn (by exact rfl))) ?_
    exact zq_ret (by exact dX2_run_19) (by exact rfl) (rv := some (zI ((-1)))) (by exact rfl)
theorem b_X2_run_25 (d : Nat) (x1 x2 : Int) (σ : zS) : zq (d + 1) mX2_run 25 [some (zR (some 0)), some (zI x1), some (zI x2)] [] σ = (zc d mX0_tippingFrom [zR (some 6), zI x1] σ).bind fun r => zq (d + 1) mX2_run 33 [some (zR (some 0)), some (zI x1), some (zI x2)] (r.1.toList ++ []) r.2 := by
  refine Eq.trans (zY_step (by exact rfl) (by exact dX2_run_25) (by exact rfl) (pc' := 26) (S' := [zR (some 0)]) (by exact rfl) (zcn (by exact rfl))) ?_
  refine Eq.trans (zY_getR (by exact rfl) (by exact dX2_run_26) (by exact rfl) (by exact rfl) (t := 6) (by exact rfl) (zcn (by exact rfl))) ?_
  refine Eq.trans (zY_step (by exact rfl) (by exact dX2_run_29) (by exact rfl) (pc' := 30) (S' := [zI x1, zR (some 6)]) (by exact rfl) (zcn (by exact rfl))) ?_
  exact zY_V (by exact rfl) (by exact dX2_run_30) (by exact rfl) (as := [zI x1]) (S' := []) (by exact rfl) (by exact rfl) (by exact zCo_k zCo6) (by exact Nat.le_of_ble_eq_true rfl) (by exact Nat.le_of_ble_eq_true rfl) (by exact Nat.le_of_ble_eq_true rfl) (zcn (by exact rfl))
theorem b_X2_run_33 (d : Nat) (y0 x1 x2 : Int) (σ : zS) : zq d mX2_run 33 [some (zR (some 0)), some (zI x1), some (zI x2)] [zI y0] σ = some (some (zI y0), σ) := by
  exact zq_ret (by exact dX2_run_33) (by exact rfl) (rv := some (zI y0)) (by exact rfl)
theorem e_X2_longest (d : Nat) (x1 x2 : Int) (σ : zS) : zc (d + 1) mX2_longest [zR (some 0), zI x1, zI x2] σ = (zc d mX2_isMindRounds [zI x1] σ).bind fun r => zq (d + 1) mX2_longest 4 [some (zR (some 0)), some (zI x1), some (zI x2), none, none, none, none] (r.1.toList ++ []) r.2 := by
  refine Eq.trans (zc_zq (L := [some (zR (some 0)), some (zI x1), some (zI x2), none, none, none, none]) (by exact rfl)) ?_
  refine Eq.trans (zY_step (by exact rfl) (by exact dX2_longest_0) (by exact rfl) (pc' := 1) (S' := [zI x1]) (by exact rfl) (zcn (by exact rfl))) ?_
  exact zY_S (by exact rfl) (by exact dX2_longest_1) (by exact rfl) (by exact Or.inl rfl) (as := [zI x1]) (S' := []) (by exact rfl) (by exact rfl) (by exact Nat.le_of_ble_eq_true rfl) (by exact Nat.le_of_ble_eq_true rfl) (zcn (by exact rfl))
theorem b_X2_longest_4 (d : Nat) (y0 x1 x2 : Int) (σ : zS) : zq (d + 1) mX2_longest 4 [some (zR (some 0)), some (zI x1), some (zI x2), none, none, none, none] [zI y0] σ = (if nrm y0 = 0 then some (some (zI ((-1))), σ) else (if nrm x2 < 0 then some (some (zI ((-1))), σ) else (if nrm x2 ≤ 1 then (zc d mX2_thinkOn [zR (some 0), zI x1] σ).bind fun r => zq (d + 1) mX2_longest 23 [some (zR (some 0)), some (zI x1), some (zI x2), none, none, none, none] (r.1.toList ++ []) r.2 else some (some (zI ((-1))), σ)))) := by
  refine Eq.trans (zY_if_eq (by exact rfl) (by exact dX2_longest_4) (t := 16) (by exact rfl) (a2 := nrm y0) (by exact rfl) (L1 := [none, none, none, none, none, none, none]) (by exact rfl) (zcn (by exact rfl))) (zif ?_ ?_)
  · refine Eq.trans (zY_step (by exact rfl) (by exact dX2_longest_16) (by exact rfl) (pc' := 17) (S' := [zI ((-1))]) (by exact rfl) (zcn (by exact rfl))) ?_
    exact zq_ret (by exact dX2_longest_17) (by exact rfl) (rv := some (zI ((-1)))) (by exact rfl)
  · refine Eq.trans (zY_step (by exact rfl) (by exact dX2_longest_7) (by exact rfl) (pc' := 8) (S' := [zI x2]) (by exact rfl) (zcn (by exact rfl))) ?_
    refine Eq.trans (zY_if_lt (by exact rfl) (by exact dX2_longest_8) (t := 16) (by exact rfl) (a2 := nrm x2) (by exact rfl) (L1 := [none, none, none, none, none, none, none]) (by exact rfl) (zcn (by exact rfl))) (zif ?_ ?_)
    · refine Eq.trans (zY_step (by exact rfl) (by exact dX2_longest_16) (by exact rfl) (pc' := 17) (S' := [zI ((-1))]) (by exact rfl) (zcn (by exact rfl))) ?_
      exact zq_ret (by exact dX2_longest_17) (by exact rfl) (rv := some (zI ((-1)))) (by exact rfl)
    · refine Eq.trans (zY_step (by exact rfl) (by exact dX2_longest_11) (by exact rfl) (pc' := 12) (S' := [zI x2]) (by exact rfl) (zcn (by exact rfl))) ?_
      refine Eq.trans (zY_step (by exact rfl) (by exact dX2_longest_12) (by exact rfl) (pc' := 13) (S' := [zI 1, zI x2]) (by exact rfl) (zcn (by exact rfl))) ?_
      refine Eq.trans (zY_ic_le (by exact rfl) (by exact dX2_longest_13) (t := 18) (by exact rfl) (a2 := nrm x2) (b2 := 1) (by exact rfl) (by decide) (L2 := [none, none, none, none, none, none, none]) (zcn (by exact rfl)) (by exact rfl)) (zif ?_ ?_)
      · refine Eq.trans (zY_step (by exact rfl) (by exact dX2_longest_18) (by exact rfl) (pc' := 19) (S' := [zR (some 0)]) (by exact rfl) (zcn (by exact rfl))) ?_
        refine Eq.trans (zY_step (by exact rfl) (by exact dX2_longest_19) (by exact rfl) (pc' := 20) (S' := [zI x1, zR (some 0)]) (by exact rfl) (zcn (by exact rfl))) ?_
        exact zY_V (by exact rfl) (by exact dX2_longest_20) (by exact rfl) (as := [zI x1]) (S' := []) (by exact rfl) (by exact rfl) (by exact rfl) (by exact Nat.le_of_ble_eq_true rfl) (by exact Nat.le_of_ble_eq_true rfl) (by exact Nat.le_of_ble_eq_true rfl) (zcn (by exact rfl))
      · refine Eq.trans (zY_step (by exact rfl) (by exact dX2_longest_16) (by exact rfl) (pc' := 17) (S' := [zI ((-1))]) (by exact rfl) (zcn (by exact rfl))) ?_
        exact zq_ret (by exact dX2_longest_17) (by exact rfl) (rv := some (zI ((-1)))) (by exact rfl)
theorem b_X2_longest_23 (d : Nat) (x1 x2 : Int) (σ : zS) : zq d mX2_longest 23 [some (zR (some 0)), some (zI x1), some (zI x2), none, none, none, none] [] σ = zq d mX2_longest 32 [some (zR (some 0)), none, some (zI x2), some (zI 0), some (zI ((-4))), some (zI 0), none] [] σ := by
  refine Eq.trans (zY_step (by exact rfl) (by exact dX2_longest_23) (by exact rfl) (pc' := 24) (S' := [zI 0]) (by exact rfl) (zcn (by exact rfl))) ?_
  refine Eq.trans (zY_step (by exact rfl) (by exact dX2_longest_24) (by exact rfl) (pc' := 25) (L' := [some (zR (some 0)), some (zI x1), some (zI x2), some (zI 0), none, none, none]) (S' := []) (by exact rfl) (zcn (by exact rfl))) ?_
  refine Eq.trans (zY_step (by exact rfl) (by exact dX2_longest_25) (by exact rfl) (pc' := 27) (S' := [zI ((-4))]) (by exact rfl) (zcn (by exact rfl))) ?_
  refine Eq.trans (zY_step (by exact rfl) (by exact dX2_longest_27) (by exact rfl) (pc' := 29) (L' := [some (zR (some 0)), some (zI x1), some (zI x2), some (zI 0), some (zI ((-4))), none, none]) (S' := []) (by exact rfl) (zcn (by exact rfl))) ?_
  refine Eq.trans (zY_step (by exact rfl) (by exact dX2_longest_29) (by exact rfl) (pc' := 30) (S' := [zI 0]) (by exact rfl) (zcn (by exact rfl))) ?_
  exact zY_step (by exact rfl) (by exact dX2_longest_30) (by exact rfl) (pc' := 32) (L' := [some (zR (some 0)), some (zI x1), some (zI x2), some (zI 0), some (zI ((-4))), some (zI 0), none]) (S' := []) (L2 := [some (zR (some 0)), none, some (zI x2), some (zI 0), some (zI ((-4))), some (zI 0), none]) (by exact rfl) (by exact rfl)
theorem b_X2_longest_32 (d : Nat) (x2 x3 x4 x5 : Int) (σ : zS) : zq (d + 1) mX2_longest 32 [some (zR (some 0)), none, some (zI x2), some (zI x3), some (zI x4), some (zI x5), none] [] σ = (if nrm (σ 6 0) ≤ nrm x5 then (if ¬ nrm x2 = 0 then some (some (zI x3), σ) else some (some (zI x4), σ)) else (zc d mX0_tippingFrom [zR (some 6), zI x5] σ).bind fun r => zq (d + 1) mX2_longest 53 [some (zR (some 0)), none, some (zI x2), some (zI x3), some (zI x4), some (zI x5), none] (r.1.toList ++ []) r.2) := by
  refine Eq.trans (zY_step (by exact rfl) (by exact dX2_longest_32) (by exact rfl) (pc' := 34) (S' := [zI x5]) (by exact rfl) (zcn (by exact rfl))) ?_
  refine Eq.trans (zY_step (by exact rfl) (by exact dX2_longest_34) (by exact rfl) (pc' := 35) (S' := [zR (some 0), zI x5]) (by exact rfl) (zcn (by exact rfl))) ?_
  refine Eq.trans (zY_getR (by exact rfl) (by exact dX2_longest_35) (by exact rfl) (by exact rfl) (t := 6) (by exact rfl) (zcn (by exact rfl))) ?_
  refine Eq.trans (zY_getI (by exact rfl) (by exact dX2_longest_38) (by exact rfl) (by exact zCo_k zCo6) (by exact zCo_r0 zCo6) (zcn (by exact rfl))) ?_
  refine Eq.trans (zY_ic_ge (by exact rfl) (by exact dX2_longest_41) (t := 74) (by exact rfl) (a2 := nrm x5) (b2 := nrm (σ 6 0)) (by exact rfl) (by exact rfl) (zcn (by exact rfl)) (zcn (by exact rfl))) (zif ?_ ?_)
  · refine Eq.trans (zY_step (by exact rfl) (by exact dX2_longest_74) (by exact rfl) (pc' := 75) (S' := [zI x2]) (by exact rfl) (zcn (by exact rfl))) ?_
    refine Eq.trans (zY_if_ne (by exact rfl) (by exact dX2_longest_75) (t := 83) (by exact rfl) (a2 := nrm x2) (by exact rfl) (zcn (by exact rfl)) (zcn (by exact rfl))) (zif ?_ ?_)
    · refine Eq.trans (zY_step (by exact rfl) (by exact dX2_longest_83) (by exact rfl) (pc' := 84) (S' := [zI x3]) (L2 := [none, none, none, none, none, none, none]) (by exact rfl) (by exact rfl)) ?_
      exact zq_ret (by exact dX2_longest_84) (by exact rfl) (rv := some (zI x3)) (by exact rfl)
    · refine Eq.trans (zY_step (by exact rfl) (by exact dX2_longest_78) (by exact rfl) (pc' := 80) (S' := [zI x4]) (by exact rfl) (zcn (by exact rfl))) ?_
      refine Eq.trans (zY_step (by exact rfl) (by exact dX2_longest_80) (by exact rfl) (pc' := 84) (S' := [zI x4]) (L2 := [none, none, none, none, none, none, none]) (by exact rfl) (by exact rfl)) ?_
      exact zq_ret (by exact dX2_longest_84) (by exact rfl) (rv := some (zI x4)) (by exact rfl)
  · refine Eq.trans (zY_step (by exact rfl) (by exact dX2_longest_44) (by exact rfl) (pc' := 45) (S' := [zR (some 0)]) (by exact rfl) (zcn (by exact rfl))) ?_
    refine Eq.trans (zY_getR (by exact rfl) (by exact dX2_longest_45) (by exact rfl) (by exact rfl) (t := 6) (by exact rfl) (zcn (by exact rfl))) ?_
    refine Eq.trans (zY_step (by exact rfl) (by exact dX2_longest_48) (by exact rfl) (pc' := 50) (S' := [zI x5, zR (some 6)]) (by exact rfl) (zcn (by exact rfl))) ?_
    exact zY_V (by exact rfl) (by exact dX2_longest_50) (by exact rfl) (as := [zI x5]) (S' := []) (by exact rfl) (by exact rfl) (by exact zCo_k zCo6) (by exact Nat.le_of_ble_eq_true rfl) (by exact Nat.le_of_ble_eq_true rfl) (by exact Nat.le_of_ble_eq_true rfl) (zcn (by exact rfl))
theorem b_X2_longest_53 (d : Nat) (y0 x2 x3 x4 x5 : Int) (σ : zS) : zq d mX2_longest 53 [some (zR (some 0)), none, some (zI x2), some (zI x3), some (zI x4), some (zI x5), none] [zI y0] σ = (if nrm y0 ≤ nrm x3 then zq d mX2_longest 68 [some (zR (some 0)), none, some (zI x2), some (zI x3), some (zI x4), some (zI x5), none] [] σ else zq d mX2_longest 68 [some (zR (some 0)), none, some (zI x2), some (zI y0), some (zI x5), some (zI x5), none] [] σ) := by
  refine Eq.trans (zY_step (by exact rfl) (by exact dX2_longest_53) (by exact rfl) (pc' := 55) (L' := [some (zR (some 0)), none, some (zI x2), some (zI x3), some (zI x4), some (zI x5), some (zI y0)]) (S' := []) (by exact rfl) (zcn (by exact rfl))) ?_
  refine Eq.trans (zY_step (by exact rfl) (by exact dX2_longest_55) (by exact rfl) (pc' := 57) (S' := [zI y0]) (by exact rfl) (zcn (by exact rfl))) ?_
  refine Eq.trans (zY_step (by exact rfl) (by exact dX2_longest_57) (by exact rfl) (pc' := 58) (S' := [zI x3, zI y0]) (by exact rfl) (zcn (by exact rfl))) ?_
  refine Eq.trans (zY_ic_le (by exact rfl) (by exact dX2_longest_58) (t := 68) (by exact rfl) (a2 := nrm y0) (b2 := nrm x3) (by exact rfl) (by exact rfl) (L1 := [some (zR (some 0)), none, some (zI x2), some (zI x3), some (zI x4), some (zI x5), none]) (by exact rfl) (zcn (by exact rfl))) (zif ?_ ?_)
  · exact rfl
  · refine Eq.trans (zY_step (by exact rfl) (by exact dX2_longest_61) (by exact rfl) (pc' := 63) (S' := [zI y0]) (by exact rfl) (zcn (by exact rfl))) ?_
    refine Eq.trans (zY_step (by exact rfl) (by exact dX2_longest_63) (by exact rfl) (pc' := 64) (L' := [some (zR (some 0)), none, some (zI x2), some (zI y0), some (zI x4), some (zI x5), some (zI y0)]) (S' := []) (by exact rfl) (zcn (by exact rfl))) ?_
    refine Eq.trans (zY_step (by exact rfl) (by exact dX2_longest_64) (by exact rfl) (pc' := 66) (S' := [zI x5]) (by exact rfl) (zcn (by exact rfl))) ?_
    exact zY_step (by exact rfl) (by exact dX2_longest_66) (by exact rfl) (pc' := 68) (L' := [some (zR (some 0)), none, some (zI x2), some (zI y0), some (zI x5), some (zI x5), some (zI y0)]) (S' := []) (L2 := [some (zR (some 0)), none, some (zI x2), some (zI y0), some (zI x5), some (zI x5), none]) (by exact rfl) (by exact rfl)
theorem b_X2_longest_68 (d : Nat) (x2 x3 x4 x5 : Int) (σ : zS) : zq d mX2_longest 68 [some (zR (some 0)), none, some (zI x2), some (zI x3), some (zI x4), some (zI x5), none] [] σ = zq d mX2_longest 32 [some (zR (some 0)), none, some (zI x2), some (zI x3), some (zI x4), some (zI (x5 + 1)), none] [] σ := by
  refine Eq.trans (zY_step (by exact rfl) (by exact dX2_longest_68) (by exact rfl) (pc' := 71) (L' := [some (zR (some 0)), none, some (zI x2), some (zI x3), some (zI x4), some (zI (x5 + 1)), none]) (S' := []) (by exact rfl) (zcn (by exact rfl))) ?_
  exact zY_step (by exact rfl) (by exact dX2_longest_71) (by exact rfl) (pc' := 32) (S' := []) (L2 := [some (zR (some 0)), none, some (zI x2), some (zI x3), some (zI x4), some (zI (x5 + 1)), none]) (by exact rfl) (by exact rfl)
theorem e_X2_began (d : Nat) (x1 : Int) (σ : zS) : zc (d + 1) mX2_began [zR (some 0), zI x1] σ = (zc d mX2_isMindRounds [zI x1] σ).bind fun r => zq (d + 1) mX2_began 4 [some (zR (some 0)), some (zI x1), none, none, none, none] (r.1.toList ++ []) r.2 := by
  refine Eq.trans (zc_zq (L := [some (zR (some 0)), some (zI x1), none, none, none, none]) (by exact rfl)) ?_
  refine Eq.trans (zY_step (by exact rfl) (by exact dX2_began_0) (by exact rfl) (pc' := 1) (S' := [zI x1]) (by exact rfl) (zcn (by exact rfl))) ?_
  exact zY_S (by exact rfl) (by exact dX2_began_1) (by exact rfl) (by exact Or.inl rfl) (as := [zI x1]) (S' := []) (by exact rfl) (by exact rfl) (by exact Nat.le_of_ble_eq_true rfl) (by exact Nat.le_of_ble_eq_true rfl) (zcn (by exact rfl))
theorem b_X2_began_4 (d : Nat) (y0 x1 : Int) (σ : zS) : zq (d + 1) mX2_began 4 [some (zR (some 0)), some (zI x1), none, none, none, none] [zI y0] σ = (if ¬ nrm y0 = 0 then (zc d mX2_thinkOn [zR (some 0), zI x1] σ).bind fun r => zq (d + 1) mX2_began 14 [some (zR (some 0)), some (zI x1), none, none, none, none] (r.1.toList ++ []) r.2 else some (some (zI ((-1))), σ)) := by
  refine Eq.trans (zY_if_ne (by exact rfl) (by exact dX2_began_4) (t := 9) (by exact rfl) (a2 := nrm y0) (by exact rfl) (zcn (by exact rfl)) (zcn (by exact rfl))) (zif ?_ ?_)
  · refine Eq.trans (zY_step (by exact rfl) (by exact dX2_began_9) (by exact rfl) (pc' := 10) (S' := [zR (some 0)]) (by exact rfl) (zcn (by exact rfl))) ?_
    refine Eq.trans (zY_step (by exact rfl) (by exact dX2_began_10) (by exact rfl) (pc' := 11) (S' := [zI x1, zR (some 0)]) (by exact rfl) (zcn (by exact rfl))) ?_
    exact zY_V (by exact rfl) (by exact dX2_began_11) (by exact rfl) (as := [zI x1]) (S' := []) (by exact rfl) (by exact rfl) (by exact rfl) (by exact Nat.le_of_ble_eq_true rfl) (by exact Nat.le_of_ble_eq_true rfl) (by exact Nat.le_of_ble_eq_true rfl) (zcn (by exact rfl))
  · refine Eq.trans (zY_step (by exact rfl) (by exact dX2_began_7) (by exact rfl) (pc' := 8) (S' := [zI ((-1))]) (by exact rfl) (zcn (by exact rfl))) ?_
    exact zq_ret (by exact dX2_began_8) (by exact rfl) (rv := some (zI ((-1)))) (by exact rfl)
theorem b_X2_began_14 (d : Nat) (x1 : Int) (σ : zS) : zq (d + 1) mX2_began 14 [some (zR (some 0)), some (zI x1), none, none, none, none] [] σ = (zc d mX0_allTips [zR (some 6)] σ).bind fun r => zq (d + 1) mX2_began 21 [some (zR (some 0)), some (zI x1), none, none, none, none] (r.1.toList ++ []) r.2 := by
  refine Eq.trans (zY_step (by exact rfl) (by exact dX2_began_14) (by exact rfl) (pc' := 15) (S' := [zR (some 0)]) (by exact rfl) (zcn (by exact rfl))) ?_
  refine Eq.trans (zY_getR (by exact rfl) (by exact dX2_began_15) (by exact rfl) (by exact rfl) (t := 6) (by exact rfl) (zcn (by exact rfl))) ?_
  exact zY_V (by exact rfl) (by exact dX2_began_18) (by exact rfl) (as := []) (S' := []) (by exact rfl) (by exact rfl) (by exact zCo_k zCo6) (by exact Nat.le_of_ble_eq_true rfl) (by exact Nat.le_of_ble_eq_true rfl) (by exact Nat.le_of_ble_eq_true rfl) (zcn (by exact rfl))
theorem b_X2_began_21 (d : Nat) (y0 x1 : Int) (σ : zS) : zq d mX2_began 21 [some (zR (some 0)), some (zI x1), none, none, none, none] [zI y0] σ = zq d mX2_began 28 [some (zR (some 0)), some (zI x1), some (zI y0), some (zI ((-4))), some (zI 0), none] [] σ := by
  refine Eq.trans (zY_step (by exact rfl) (by exact dX2_began_21) (by exact rfl) (pc' := 22) (L' := [some (zR (some 0)), some (zI x1), some (zI y0), none, none, none]) (S' := []) (by exact rfl) (zcn (by exact rfl))) ?_
  refine Eq.trans (zY_step (by exact rfl) (by exact dX2_began_22) (by exact rfl) (pc' := 24) (S' := [zI ((-4))]) (by exact rfl) (zcn (by exact rfl))) ?_
  refine Eq.trans (zY_step (by exact rfl) (by exact dX2_began_24) (by exact rfl) (pc' := 25) (L' := [some (zR (some 0)), some (zI x1), some (zI y0), some (zI ((-4))), none, none]) (S' := []) (by exact rfl) (zcn (by exact rfl))) ?_
  refine Eq.trans (zY_step (by exact rfl) (by exact dX2_began_25) (by exact rfl) (pc' := 26) (S' := [zI 0]) (by exact rfl) (zcn (by exact rfl))) ?_
  exact zY_step (by exact rfl) (by exact dX2_began_26) (by exact rfl) (pc' := 28) (L' := [some (zR (some 0)), some (zI x1), some (zI y0), some (zI ((-4))), some (zI 0), none]) (S' := []) (by exact rfl) (zcn (by exact rfl))
theorem b_X2_began_28 (d : Nat) (x1 x2 x3 x4 : Int) (σ : zS) : zq (d + 1) mX2_began 28 [some (zR (some 0)), some (zI x1), some (zI x2), some (zI x3), some (zI x4), none] [] σ = (if nrm (σ 1 0) ≤ nrm x4 then some (some (zI x3), σ) else (zc d mX2_thinkOnBlocked [zR (some 0), zI (zshl 1 x4), zI x1] σ).bind fun r => zq (d + 1) mX2_began 49 [some (zR (some 0)), some (zI x1), some (zI x2), some (zI x3), some (zI x4), none] (r.1.toList ++ []) r.2) := by
  refine Eq.trans (zY_step (by exact rfl) (by exact dX2_began_28) (by exact rfl) (pc' := 30) (S' := [zI x4]) (by exact rfl) (zcn (by exact rfl))) ?_
  refine Eq.trans (zY_step (by exact rfl) (by exact dX2_began_30) (by exact rfl) (pc' := 31) (S' := [zR (some 0), zI x4]) (by exact rfl) (zcn (by exact rfl))) ?_
  refine Eq.trans (zY_getR (by exact rfl) (by exact dX2_began_31) (by exact rfl) (by exact rfl) (t := 1) (by exact rfl) (zcn (by exact rfl))) ?_
  refine Eq.trans (zY_getI (by exact rfl) (by exact dX2_began_34) (by exact rfl) (by exact zCo_k zCo1) (by exact zCo_r0 zCo1) (zcn (by exact rfl))) ?_
  refine Eq.trans (zY_ic_ge (by exact rfl) (by exact dX2_began_37) (t := 76) (by exact rfl) (a2 := nrm x4) (b2 := nrm (σ 1 0)) (by exact rfl) (by exact rfl) (zcn (by exact rfl)) (zcn (by exact rfl))) (zif ?_ ?_)
  · refine Eq.trans (zY_step (by exact rfl) (by exact dX2_began_76) (by exact rfl) (pc' := 77) (S' := [zI x3]) (by exact rfl) (zcn (by exact rfl))) ?_
    exact zq_ret (by exact dX2_began_77) (by exact rfl) (rv := some (zI x3)) (by exact rfl)
  · refine Eq.trans (zY_step (by exact rfl) (by exact dX2_began_40) (by exact rfl) (pc' := 41) (S' := [zR (some 0)]) (by exact rfl) (zcn (by exact rfl))) ?_
    refine Eq.trans (zY_step (by exact rfl) (by exact dX2_began_41) (by exact rfl) (pc' := 42) (S' := [zI 1, zR (some 0)]) (by exact rfl) (zcn (by exact rfl))) ?_
    refine Eq.trans (zY_step (by exact rfl) (by exact dX2_began_42) (by exact rfl) (pc' := 44) (S' := [zI x4, zI 1, zR (some 0)]) (by exact rfl) (zcn (by exact rfl))) ?_
    refine Eq.trans (zY_step (by exact rfl) (by exact dX2_began_44) (by exact rfl) (pc' := 45) (S' := [zI (zshl 1 x4), zR (some 0)]) (by exact rfl) (zcn (by exact rfl))) ?_
    refine Eq.trans (zY_step (by exact rfl) (by exact dX2_began_45) (by exact rfl) (pc' := 46) (S' := [zI x1, zI (zshl 1 x4), zR (some 0)]) (by exact rfl) (zcn (by exact rfl))) ?_
    exact zY_V (by exact rfl) (by exact dX2_began_46) (by exact rfl) (as := [zI (zshl 1 x4), zI x1]) (S' := []) (by exact rfl) (by exact rfl) (by exact rfl) (by exact Nat.le_of_ble_eq_true rfl) (by exact Nat.le_of_ble_eq_true rfl) (by exact Nat.le_of_ble_eq_true rfl) (zcn (by exact rfl))
theorem b_X2_began_49 (d : Nat) (x1 x2 x3 x4 : Int) (σ : zS) : zq (d + 1) mX2_began 49 [some (zR (some 0)), some (zI x1), some (zI x2), some (zI x3), some (zI x4), none] [] σ = (zc d mX0_allTips [zR (some 6)] σ).bind fun r => zq (d + 1) mX2_began 56 [some (zR (some 0)), some (zI x1), some (zI x2), some (zI x3), some (zI x4), none] (r.1.toList ++ []) r.2 := by
  refine Eq.trans (zY_step (by exact rfl) (by exact dX2_began_49) (by exact rfl) (pc' := 50) (S' := [zR (some 0)]) (by exact rfl) (zcn (by exact rfl))) ?_
  refine Eq.trans (zY_getR (by exact rfl) (by exact dX2_began_50) (by exact rfl) (by exact rfl) (t := 6) (by exact rfl) (zcn (by exact rfl))) ?_
  exact zY_V (by exact rfl) (by exact dX2_began_53) (by exact rfl) (as := []) (S' := []) (by exact rfl) (by exact rfl) (by exact zCo_k zCo6) (by exact Nat.le_of_ble_eq_true rfl) (by exact Nat.le_of_ble_eq_true rfl) (by exact Nat.le_of_ble_eq_true rfl) (zcn (by exact rfl))
theorem b_X2_began_56 (d : Nat) (y0 x1 x2 x3 x4 : Int) (σ : zS) : zq d mX2_began 56 [some (zR (some 0)), some (zI x1), some (zI x2), some (zI x3), some (zI x4), none] [zI y0] σ = (if nrm x2 ≤ nrm y0 then zq d mX2_began 70 [some (zR (some 0)), some (zI x1), some (zI x2), some (zI x3), some (zI x4), none] [] σ else zq d mX2_began 70 [some (zR (some 0)), some (zI x1), some (zI y0), some (zI x4), some (zI x4), none] [] σ) := by
  refine Eq.trans (zY_step (by exact rfl) (by exact dX2_began_56) (by exact rfl) (pc' := 58) (L' := [some (zR (some 0)), some (zI x1), some (zI x2), some (zI x3), some (zI x4), some (zI y0)]) (S' := []) (by exact rfl) (zcn (by exact rfl))) ?_
  refine Eq.trans (zY_step (by exact rfl) (by exact dX2_began_58) (by exact rfl) (pc' := 60) (S' := [zI y0]) (by exact rfl) (zcn (by exact rfl))) ?_
  refine Eq.trans (zY_step (by exact rfl) (by exact dX2_began_60) (by exact rfl) (pc' := 61) (S' := [zI x2, zI y0]) (by exact rfl) (zcn (by exact rfl))) ?_
  refine Eq.trans (zY_ic_ge (by exact rfl) (by exact dX2_began_61) (t := 70) (by exact rfl) (a2 := nrm y0) (b2 := nrm x2) (by exact rfl) (by exact rfl) (L1 := [some (zR (some 0)), some (zI x1), some (zI x2), some (zI x3), some (zI x4), none]) (by exact rfl) (zcn (by exact rfl))) (zif ?_ ?_)
  · exact rfl
  · refine Eq.trans (zY_step (by exact rfl) (by exact dX2_began_64) (by exact rfl) (pc' := 66) (S' := [zI y0]) (by exact rfl) (zcn (by exact rfl))) ?_
    refine Eq.trans (zY_step (by exact rfl) (by exact dX2_began_66) (by exact rfl) (pc' := 67) (L' := [some (zR (some 0)), some (zI x1), some (zI y0), some (zI x3), some (zI x4), some (zI y0)]) (S' := []) (by exact rfl) (zcn (by exact rfl))) ?_
    refine Eq.trans (zY_step (by exact rfl) (by exact dX2_began_67) (by exact rfl) (pc' := 69) (S' := [zI x4]) (by exact rfl) (zcn (by exact rfl))) ?_
    exact zY_step (by exact rfl) (by exact dX2_began_69) (by exact rfl) (pc' := 70) (L' := [some (zR (some 0)), some (zI x1), some (zI y0), some (zI x4), some (zI x4), some (zI y0)]) (S' := []) (L2 := [some (zR (some 0)), some (zI x1), some (zI y0), some (zI x4), some (zI x4), none]) (by exact rfl) (by exact rfl)
theorem b_X2_began_70 (d : Nat) (x1 x2 x3 x4 : Int) (σ : zS) : zq d mX2_began 70 [some (zR (some 0)), some (zI x1), some (zI x2), some (zI x3), some (zI x4), none] [] σ = zq d mX2_began 28 [some (zR (some 0)), some (zI x1), some (zI x2), some (zI x3), some (zI (x4 + 1)), none] [] σ := by
  refine Eq.trans (zY_step (by exact rfl) (by exact dX2_began_70) (by exact rfl) (pc' := 73) (L' := [some (zR (some 0)), some (zI x1), some (zI x2), some (zI x3), some (zI (x4 + 1)), none]) (S' := []) (by exact rfl) (zcn (by exact rfl))) ?_
  exact zY_step (by exact rfl) (by exact dX2_began_73) (by exact rfl) (pc' := 28) (S' := []) (by exact rfl) (zcn (by exact rfl))
theorem e_X2_lost (d : Nat) (x1 : Int) (σ : zS) : zc (d + 1) mX2_lost [zR (some 0), zI x1] σ = (zc d mX2_isMindRounds [zI x1] σ).bind fun r => zq (d + 1) mX2_lost 4 [some (zR (some 0)), some (zI x1)] (r.1.toList ++ []) r.2 := by
  refine Eq.trans (zc_zq (L := [some (zR (some 0)), some (zI x1)]) (by exact rfl)) ?_
  refine Eq.trans (zY_step (by exact rfl) (by exact dX2_lost_0) (by exact rfl) (pc' := 1) (S' := [zI x1]) (by exact rfl) (zcn (by exact rfl))) ?_
  exact zY_S (by exact rfl) (by exact dX2_lost_1) (by exact rfl) (by exact Or.inl rfl) (as := [zI x1]) (S' := []) (by exact rfl) (by exact rfl) (by exact Nat.le_of_ble_eq_true rfl) (by exact Nat.le_of_ble_eq_true rfl) (zcn (by exact rfl))
theorem b_X2_lost_4 (d : Nat) (y0 x1 : Int) (σ : zS) : zq (d + 1) mX2_lost 4 [some (zR (some 0)), some (zI x1)] [zI y0] σ = (if ¬ nrm y0 = 0 then (zc d mX2_thinkOn [zR (some 0), zI x1] σ).bind fun r => zq (d + 1) mX2_lost 15 [some (zR (some 0)), some (zI x1)] (r.1.toList ++ []) r.2 else some (some (zI 1000000001), σ)) := by
  refine Eq.trans (zY_if_ne (by exact rfl) (by exact dX2_lost_4) (t := 10) (by exact rfl) (a2 := nrm y0) (by exact rfl) (zcn (by exact rfl)) (zcn (by exact rfl))) (zif ?_ ?_)
  · refine Eq.trans (zY_step (by exact rfl) (by exact dX2_lost_10) (by exact rfl) (pc' := 11) (S' := [zR (some 0)]) (by exact rfl) (zcn (by exact rfl))) ?_
    refine Eq.trans (zY_step (by exact rfl) (by exact dX2_lost_11) (by exact rfl) (pc' := 12) (S' := [zI x1, zR (some 0)]) (by exact rfl) (zcn (by exact rfl))) ?_
    exact zY_V (by exact rfl) (by exact dX2_lost_12) (by exact rfl) (as := [zI x1]) (S' := []) (by exact rfl) (by exact rfl) (by exact rfl) (by exact Nat.le_of_ble_eq_true rfl) (by exact Nat.le_of_ble_eq_true rfl) (by exact Nat.le_of_ble_eq_true rfl) (zcn (by exact rfl))
  · refine Eq.trans (zY_step (by exact rfl) (by exact dX2_lost_7) (by exact rfl) (pc' := 9) (S' := [zI 1000000001]) (by exact rfl) (zcn (by exact rfl))) ?_
    exact zq_ret (by exact dX2_lost_9) (by exact rfl) (rv := some (zI 1000000001)) (by exact rfl)
theorem b_X2_lost_15 (d : Nat) (x1 : Int) (σ : zS) : zq (d + 1) mX2_lost 15 [some (zR (some 0)), some (zI x1)] [] σ = (zc d mX0_allJoy [zR (some 6)] σ).bind fun r => zq (d + 1) mX2_lost 22 [some (zR (some 0)), some (zI x1)] (r.1.toList ++ []) r.2 := by
  refine Eq.trans (zY_step (by exact rfl) (by exact dX2_lost_15) (by exact rfl) (pc' := 16) (S' := [zR (some 0)]) (by exact rfl) (zcn (by exact rfl))) ?_
  refine Eq.trans (zY_getR (by exact rfl) (by exact dX2_lost_16) (by exact rfl) (by exact rfl) (t := 6) (by exact rfl) (zcn (by exact rfl))) ?_
  exact zY_V (by exact rfl) (by exact dX2_lost_19) (by exact rfl) (as := []) (S' := []) (by exact rfl) (by exact rfl) (by exact zCo_k zCo6) (by exact Nat.le_of_ble_eq_true rfl) (by exact Nat.le_of_ble_eq_true rfl) (by exact Nat.le_of_ble_eq_true rfl) (zcn (by exact rfl))
theorem b_X2_lost_22 (d : Nat) (y0 x1 : Int) (σ : zS) : zq d mX2_lost 22 [some (zR (some 0)), some (zI x1)] [zI y0] σ = some (some (zI y0), σ) := by
  exact zq_ret (by exact dX2_lost_22) (by exact rfl) (rv := some (zI y0)) (by exact rfl)
theorem e_X2_best (d : Nat) (x1 : Int) (σ : zS) : zc (d + 1) mX2_best [zR (some 0), zI x1] σ = (if nrm x1 < (-1) then some (some (zI 1000000001), σ) else (if nrm x1 < nrm (σ 1 0) then (zc d mX0_copyFrom [zR (some 6), zR (some 1)] σ).bind fun r => zq (d + 1) mX2_best 30 [some (zR (some 0)), some (zI x1), none] (r.1.toList ++ []) r.2 else some (some (zI 1000000001), σ))) := by
  refine Eq.trans (zc_zq (L := [some (zR (some 0)), some (zI x1), none]) (by exact rfl)) ?_
  refine Eq.trans (zY_step (by exact rfl) (by exact dX2_best_0) (by exact rfl) (pc' := 1) (S' := [zI x1]) (by exact rfl) (zcn (by exact rfl))) ?_
  refine Eq.trans (zY_step (by exact rfl) (by exact dX2_best_1) (by exact rfl) (pc' := 2) (S' := [zI ((-1)), zI x1]) (by exact rfl) (zcn (by exact rfl))) ?_
  refine Eq.trans (zY_ic_lt (by exact rfl) (by exact dX2_best_2) (t := 16) (by exact rfl) (a2 := nrm x1) (b2 := (-1)) (by exact rfl) (by decide) (L1 := [none, none, none]) (by exact rfl) (zcn (by exact rfl))) (zif ?_ ?_)
  · refine Eq.trans (zY_step (by exact rfl) (by exact dX2_best_16) (by exact rfl) (pc' := 18) (S' := [zI 1000000001]) (by exact rfl) (zcn (by exact rfl))) ?_
    exact zq_ret (by exact dX2_best_18) (by exact rfl) (rv := some (zI 1000000001)) (by exact rfl)
  · refine Eq.trans (zY_step (by exact rfl) (by exact dX2_best_5) (by exact rfl) (pc' := 6) (S' := [zI x1]) (by exact rfl) (zcn (by exact rfl))) ?_
    refine Eq.trans (zY_step (by exact rfl) (by exact dX2_best_6) (by exact rfl) (pc' := 7) (S' := [zR (some 0), zI x1]) (by exact rfl) (zcn (by exact rfl))) ?_
    refine Eq.trans (zY_getR (by exact rfl) (by exact dX2_best_7) (by exact rfl) (by exact rfl) (t := 1) (by exact rfl) (zcn (by exact rfl))) ?_
    refine Eq.trans (zY_getI (by exact rfl) (by exact dX2_best_10) (by exact rfl) (by exact zCo_k zCo1) (by exact zCo_r0 zCo1) (zcn (by exact rfl))) ?_
    refine Eq.trans (zY_ic_lt (by exact rfl) (by exact dX2_best_13) (t := 19) (by exact rfl) (a2 := nrm x1) (b2 := nrm (σ 1 0)) (by exact rfl) (by exact rfl) (L2 := [none, none, none]) (zcn (by exact rfl)) (by exact rfl)) (zif ?_ ?_)
    · refine Eq.trans (zY_step (by exact rfl) (by exact dX2_best_19) (by exact rfl) (pc' := 20) (S' := [zR (some 0)]) (by exact rfl) (zcn (by exact rfl))) ?_
      refine Eq.trans (zY_getR (by exact rfl) (by exact dX2_best_20) (by exact rfl) (by exact rfl) (t := 6) (by exact rfl) (zcn (by exact rfl))) ?_
      refine Eq.trans (zY_step (by exact rfl) (by exact dX2_best_23) (by exact rfl) (pc' := 24) (S' := [zR (some 0), zR (some 6)]) (by exact rfl) (zcn (by exact rfl))) ?_
      refine Eq.trans (zY_getR (by exact rfl) (by exact dX2_best_24) (by exact rfl) (by exact rfl) (t := 1) (by exact rfl) (zcn (by exact rfl))) ?_
      exact zY_V (by exact rfl) (by exact dX2_best_27) (by exact rfl) (as := [zR (some 1)]) (S' := []) (by exact rfl) (by exact rfl) (by exact zCo_k zCo6) (by exact Nat.le_of_ble_eq_true rfl) (by exact Nat.le_of_ble_eq_true rfl) (by exact Nat.le_of_ble_eq_true rfl) (zcn (by exact rfl))
    · refine Eq.trans (zY_step (by exact rfl) (by exact dX2_best_16) (by exact rfl) (pc' := 18) (S' := [zI 1000000001]) (by exact rfl) (zcn (by exact rfl))) ?_
      exact zq_ret (by exact dX2_best_18) (by exact rfl) (rv := some (zI 1000000001)) (by exact rfl)
theorem b_X2_best_30 (d : Nat) (x1 : Int) (σ : zS) : zq d mX2_best 30 [some (zR (some 0)), some (zI x1), none] [] σ = zq d mX2_best 32 [some (zR (some 0)), some (zI x1), some (zI 0)] [] σ := by
  refine Eq.trans (zY_step (by exact rfl) (by exact dX2_best_30) (by exact rfl) (pc' := 31) (S' := [zI 0]) (by exact rfl) (zcn (by exact rfl))) ?_
  exact zY_step (by exact rfl) (by exact dX2_best_31) (by exact rfl) (pc' := 32) (L' := [some (zR (some 0)), some (zI x1), some (zI 0)]) (S' := []) (by exact rfl) (zcn (by exact rfl))
theorem b_X2_best_32 (d : Nat) (x1 x2 : Int) (σ : zS) : zq (d + 1) mX2_best 32 [some (zR (some 0)), some (zI x1), some (zI x2)] [] σ = (if nrm (σ 6 0) ≤ nrm x2 then (if 0 ≤ nrm x1 then (if zix x1 8 then some (some (zI (σ 9 (nrm x1).toNat)), σ) else none) else (zc d mX0_allJoy [zR (some 6)] σ).bind fun r => zq (d + 1) mX2_best 74 [some (zR (some 0)), some (zI x1), some (zI x2)] (r.1.toList ++ []) r.2) else (zc d mX2_bestTip [zR (some 0), zI x2] σ).bind fun r => zq (d + 1) mX2_best 56 [some (zR (some 0)), some (zI x1), some (zI x2)] (r.1.toList ++ [zI x2, zR (some 9)]) r.2) := by
  refine Eq.trans (zY_step (by exact rfl) (by exact dX2_best_32) (by exact rfl) (pc' := 33) (S' := [zI x2]) (by exact rfl) (zcn (by exact rfl))) ?_
  refine Eq.trans (zY_step (by exact rfl) (by exact dX2_best_33) (by exact rfl) (pc' := 34) (S' := [zR (some 0), zI x2]) (by exact rfl) (zcn (by exact rfl))) ?_
  refine Eq.trans (zY_getR (by exact rfl) (by exact dX2_best_34) (by exact rfl) (by exact rfl) (t := 6) (by exact rfl) (zcn (by exact rfl))) ?_
  refine Eq.trans (zY_getI (by exact rfl) (by exact dX2_best_37) (by exact rfl) (by exact zCo_k zCo6) (by exact zCo_r0 zCo6) (zcn (by exact rfl))) ?_
  refine Eq.trans (zY_ic_ge (by exact rfl) (by exact dX2_best_40) (t := 63) (by exact rfl) (a2 := nrm x2) (b2 := nrm (σ 6 0)) (by exact rfl) (by exact rfl) (zcn (by exact rfl)) (zcn (by exact rfl))) (zif ?_ ?_)
  · refine Eq.trans (zY_step (by exact rfl) (by exact dX2_best_63) (by exact rfl) (pc' := 64) (S' := [zI x1]) (by exact rfl) (zcn (by exact rfl))) ?_
    refine Eq.trans (zY_if_ge (by exact rfl) (by exact dX2_best_64) (t := 77) (by exact rfl) (a2 := nrm x1) (by exact rfl) (zcn (by exact rfl)) (zcn (by exact rfl))) (zif ?_ ?_)
    · refine Eq.trans (zY_step (by exact rfl) (by exact dX2_best_77) (by exact rfl) (pc' := 78) (S' := [zR (some 0)]) (by exact rfl) (zcn (by exact rfl))) ?_
      refine Eq.trans (zY_getR (by exact rfl) (by exact dX2_best_78) (by exact rfl) (by exact rfl) (t := 6) (by exact rfl) (zcn (by exact rfl))) ?_
      refine Eq.trans (zY_getR (by exact rfl) (by exact dX2_best_81) (by exact rfl) (by exact rfl) (t := 9) (by exact rfl) (zcn (by exact rfl))) ?_
      refine Eq.trans (zY_step (by exact rfl) (by exact dX2_best_84) (by exact rfl) (pc' := 85) (S' := [zI x1, zR (some 9)]) (by exact rfl) (zcn (by exact rfl))) ?_
      refine Eq.trans (zY_iald (by exact rfl) (by exact dX2_best_85) (by exact rfl) (by exact rfl) (by exact rfl)) (zif ?_ rfl)
      · exact zq_ret (by exact dX2_best_86) (by exact rfl) (rv := some (zI (σ 9 (nrm x1).toNat))) (by exact rfl)
    · refine Eq.trans (zY_step (by exact rfl) (by exact dX2_best_67) (by exact rfl) (pc' := 68) (S' := [zR (some 0)]) (by exact rfl) (zcn (by exact rfl))) ?_
      refine Eq.trans (zY_getR (by exact rfl) (by exact dX2_best_68) (by exact rfl) (by exact rfl) (t := 6) (by exact rfl) (zcn (by exact rfl))) ?_
      exact zY_V (by exact rfl) (by exact dX2_best_71) (by exact rfl) (as := []) (S' := []) (by exact rfl) (by exact rfl) (by exact zCo_k zCo6) (by exact Nat.le_of_ble_eq_true rfl) (by exact Nat.le_of_ble_eq_true rfl) (by exact Nat.le_of_ble_eq_true rfl) (zcn (by exact rfl))
  · refine Eq.trans (zY_step (by exact rfl) (by exact dX2_best_43) (by exact rfl) (pc' := 44) (S' := [zR (some 0)]) (by exact rfl) (zcn (by exact rfl))) ?_
    refine Eq.trans (zY_getR (by exact rfl) (by exact dX2_best_44) (by exact rfl) (by exact rfl) (t := 6) (by exact rfl) (zcn (by exact rfl))) ?_
    refine Eq.trans (zY_getR (by exact rfl) (by exact dX2_best_47) (by exact rfl) (by exact rfl) (t := 9) (by exact rfl) (zcn (by exact rfl))) ?_
    refine Eq.trans (zY_step (by exact rfl) (by exact dX2_best_50) (by exact rfl) (pc' := 51) (S' := [zI x2, zR (some 9)]) (by exact rfl) (zcn (by exact rfl))) ?_
    refine Eq.trans (zY_step (by exact rfl) (by exact dX2_best_51) (by exact rfl) (pc' := 52) (S' := [zR (some 0), zI x2, zR (some 9)]) (by exact rfl) (zcn (by exact rfl))) ?_
    refine Eq.trans (zY_step (by exact rfl) (by exact dX2_best_52) (by exact rfl) (pc' := 53) (S' := [zI x2, zR (some 0), zI x2, zR (some 9)]) (by exact rfl) (zcn (by exact rfl))) ?_
    exact zY_V (by exact rfl) (by exact dX2_best_53) (by exact rfl) (as := [zI x2]) (S' := [zI x2, zR (some 9)]) (by exact rfl) (by exact rfl) (by exact rfl) (by exact Nat.le_of_ble_eq_true rfl) (by exact Nat.le_of_ble_eq_true rfl) (by exact Nat.le_of_ble_eq_true rfl) (zcn (by exact rfl))
theorem b_X2_best_74 (d : Nat) (y0 x1 x2 : Int) (σ : zS) : zq d mX2_best 74 [some (zR (some 0)), some (zI x1), some (zI x2)] [zI y0] σ = some (some (zI y0), σ) := by
  refine Eq.trans (zY_step (by exact rfl) (by exact dX2_best_74) (by exact rfl) (pc' := 86) (S' := [zI y0]) (L2 := [none, none, none]) (by exact rfl) (by exact rfl)) ?_
  exact zq_ret (by exact dX2_best_86) (by exact rfl) (rv := some (zI y0)) (by exact rfl)
theorem b_X2_best_56 (d : Nat) (y0 y1 x1 x2 : Int) (σ : zS) : zq d mX2_best 56 [some (zR (some 0)), some (zI x1), some (zI x2)] [zI y0, zI y1, zR (some 9)] σ = (if zix y1 8 then zq d mX2_best 32 [some (zR (some 0)), some (zI x1), some (zI (x2 + 1))] [] (zup σ 9 (nrm y1).toNat y0) else none) := by
  refine Eq.trans (zY_iast (by exact rfl) (by exact dX2_best_56) (by exact rfl) (by exact rfl) (zcn (by exact rfl))) (zif ?_ rfl)
  · refine Eq.trans (zY_step (by exact rfl) (by exact dX2_best_57) (by exact rfl) (pc' := 60) (L' := [some (zR (some 0)), some (zI x1), some (zI (x2 + 1))]) (S' := []) (by exact rfl) (zcn (by exact rfl))) ?_
    exact zY_step (by exact rfl) (by exact dX2_best_60) (by exact rfl) (pc' := 32) (S' := []) (by exact rfl) (zcn (by exact rfl))
theorem e_X2_laws (d : Nat) (x1 : Int) (σ : zS) : zc (d + 1) mX2_laws [zR (some 0), zI x1] σ = (if nrm x1 < (-1) then some (some (zI 1000000001), σ) else (if nrm x1 < 3 then (if 0 ≤ nrm x1 then (zc d mX2_joyByLaw [zR (some 0), zI x1] σ).bind fun r => zq (d + 1) mX2_laws 29 [none, none] (r.1.toList ++ []) r.2 else (zc d mX2_lawWithMostJoy [zR (some 0)] σ).bind fun r => zq (d + 1) mX2_laws 21 [some (zR (some 0)), some (zI x1)] (r.1.toList ++ []) r.2) else some (some (zI 1000000001), σ))) := by
  refine Eq.trans (zc_zq (L := [some (zR (some 0)), some (zI x1)]) (by exact rfl)) ?_
  refine Eq.trans (zY_step (by exact rfl) (by exact dX2_laws_0) (by exact rfl) (pc' := 1) (S' := [zI x1]) (by exact rfl) (zcn (by exact rfl))) ?_
  refine Eq.trans (zY_step (by exact rfl) (by exact dX2_laws_1) (by exact rfl) (pc' := 2) (S' := [zI ((-1)), zI x1]) (by exact rfl) (zcn (by exact rfl))) ?_
  refine Eq.trans (zY_ic_lt (by exact rfl) (by exact dX2_laws_2) (t := 10) (by exact rfl) (a2 := nrm x1) (b2 := (-1)) (by exact rfl) (by decide) (L1 := [none, none]) (by exact rfl) (zcn (by exact rfl))) (zif ?_ ?_)
  · refine Eq.trans (zY_step (by exact rfl) (by exact dX2_laws_10) (by exact rfl) (pc' := 12) (S' := [zI 1000000001]) (by exact rfl) (zcn (by exact rfl))) ?_
    exact zq_ret (by exact dX2_laws_12) (by exact rfl) (rv := some (zI 1000000001)) (by exact rfl)
  · refine Eq.trans (zY_step (by exact rfl) (by exact dX2_laws_5) (by exact rfl) (pc' := 6) (S' := [zI x1]) (by exact rfl) (zcn (by exact rfl))) ?_
    refine Eq.trans (zY_step (by exact rfl) (by exact dX2_laws_6) (by exact rfl) (pc' := 7) (S' := [zI 3, zI x1]) (by exact rfl) (zcn (by exact rfl))) ?_
    refine Eq.trans (zY_ic_lt (by exact rfl) (by exact dX2_laws_7) (t := 13) (by exact rfl) (a2 := nrm x1) (b2 := 3) (by exact rfl) (by decide) (L2 := [none, none]) (zcn (by exact rfl)) (by exact rfl)) (zif ?_ ?_)
    · refine Eq.trans (zY_step (by exact rfl) (by exact dX2_laws_13) (by exact rfl) (pc' := 14) (S' := [zI x1]) (by exact rfl) (zcn (by exact rfl))) ?_
      refine Eq.trans (zY_if_ge (by exact rfl) (by exact dX2_laws_14) (t := 24) (by exact rfl) (a2 := nrm x1) (by exact rfl) (zcn (by exact rfl)) (zcn (by exact rfl))) (zif ?_ ?_)
      · refine Eq.trans (zY_step (by exact rfl) (by exact dX2_laws_24) (by exact rfl) (pc' := 25) (S' := [zR (some 0)]) (by exact rfl) (zcn (by exact rfl))) ?_
        refine Eq.trans (zY_step (by exact rfl) (by exact dX2_laws_25) (by exact rfl) (pc' := 26) (S' := [zI x1, zR (some 0)]) (by exact rfl) (zcn (by exact rfl))) ?_
        exact zY_V (by exact rfl) (by exact dX2_laws_26) (by exact rfl) (as := [zI x1]) (S' := []) (by exact rfl) (by exact rfl) (by exact rfl) (by exact Nat.le_of_ble_eq_true rfl) (by exact Nat.le_of_ble_eq_true rfl) (by exact Nat.le_of_ble_eq_true rfl) (L2 := [none, none]) (by exact rfl)
      · refine Eq.trans (zY_step (by exact rfl) (by exact dX2_laws_17) (by exact rfl) (pc' := 18) (S' := [zR (some 0)]) (by exact rfl) (zcn (by exact rfl))) ?_
        exact zY_V (by exact rfl) (by exact dX2_laws_18) (by exact rfl) (as := []) (S' := []) (by exact rfl) (by exact rfl) (by exact rfl) (by exact Nat.le_of_ble_eq_true rfl) (by exact Nat.le_of_ble_eq_true rfl) (by exact Nat.le_of_ble_eq_true rfl) (zcn (by exact rfl))
    · refine Eq.trans (zY_step (by exact rfl) (by exact dX2_laws_10) (by exact rfl) (pc' := 12) (S' := [zI 1000000001]) (by exact rfl) (zcn (by exact rfl))) ?_
      exact zq_ret (by exact dX2_laws_12) (by exact rfl) (rv := some (zI 1000000001)) (by exact rfl)
theorem b_X2_laws_29 (d : Nat) (y0 : Int) (σ : zS) : zq d mX2_laws 29 [none, none] [zI y0] σ = some (some (zI y0), σ) := by
  exact zq_ret (by exact dX2_laws_29) (by exact rfl) (rv := some (zI y0)) (by exact rfl)
theorem b_X2_laws_21 (d : Nat) (y0 x1 : Int) (σ : zS) : zq d mX2_laws 21 [some (zR (some 0)), some (zI x1)] [zI y0] σ = some (some (zI y0), σ) := by
  refine Eq.trans (zY_step (by exact rfl) (by exact dX2_laws_21) (by exact rfl) (pc' := 29) (S' := [zI y0]) (L2 := [none, none]) (by exact rfl) (by exact rfl)) ?_
  exact zq_ret (by exact dX2_laws_29) (by exact rfl) (rv := some (zI y0)) (by exact rfl)
theorem e_X2_pays (d : Nat) (x1 : Int) (σ : zS) : zc (d + 1) mX2_pays [zR (some 0), zI x1] σ = (zc d mX2_hasOneBehind [zR (some 0), zI x1] σ).bind fun r => zq (d + 1) mX2_pays 5 [some (zR (some 0)), some (zI x1)] (r.1.toList ++ []) r.2 := by
  refine Eq.trans (zc_zq (L := [some (zR (some 0)), some (zI x1)]) (by exact rfl)) ?_
  refine Eq.trans (zY_step (by exact rfl) (by exact dX2_pays_0) (by exact rfl) (pc' := 1) (S' := [zR (some 0)]) (by exact rfl) (zcn (by exact rfl))) ?_
  refine Eq.trans (zY_step (by exact rfl) (by exact dX2_pays_1) (by exact rfl) (pc' := 2) (S' := [zI x1, zR (some 0)]) (by exact rfl) (zcn (by exact rfl))) ?_
  exact zY_V (by exact rfl) (by exact dX2_pays_2) (by exact rfl) (as := [zI x1]) (S' := []) (by exact rfl) (by exact rfl) (by exact rfl) (by exact Nat.le_of_ble_eq_true rfl) (by exact Nat.le_of_ble_eq_true rfl) (by exact Nat.le_of_ble_eq_true rfl) (zcn (by exact rfl))
theorem b_X2_pays_5 (d : Nat) (y0 x1 : Int) (σ : zS) : zq (d + 1) mX2_pays 5 [some (zR (some 0)), some (zI x1)] [zI y0] σ = (if ¬ nrm y0 = 0 then (zc d mX2_wonBehind [zR (some 0), zI x1] σ).bind fun r => zq (d + 1) mX2_pays 16 [some (zR (some 0)), some (zI x1)] (r.1.toList ++ []) r.2 else some (some (zI 1000000001), σ)) := by
  refine Eq.trans (zY_if_ne (by exact rfl) (by exact dX2_pays_5) (t := 11) (by exact rfl) (a2 := nrm y0) (by exact rfl) (zcn (by exact rfl)) (zcn (by exact rfl))) (zif ?_ ?_)
  · refine Eq.trans (zY_step (by exact rfl) (by exact dX2_pays_11) (by exact rfl) (pc' := 12) (S' := [zR (some 0)]) (by exact rfl) (zcn (by exact rfl))) ?_
    refine Eq.trans (zY_step (by exact rfl) (by exact dX2_pays_12) (by exact rfl) (pc' := 13) (S' := [zI x1, zR (some 0)]) (by exact rfl) (zcn (by exact rfl))) ?_
    exact zY_V (by exact rfl) (by exact dX2_pays_13) (by exact rfl) (as := [zI x1]) (S' := []) (by exact rfl) (by exact rfl) (by exact rfl) (by exact Nat.le_of_ble_eq_true rfl) (by exact Nat.le_of_ble_eq_true rfl) (by exact Nat.le_of_ble_eq_true rfl) (zcn (by exact rfl))
  · refine Eq.trans (zY_step (by exact rfl) (by exact dX2_pays_8) (by exact rfl) (pc' := 10) (S' := [zI 1000000001]) (by exact rfl) (zcn (by exact rfl))) ?_
    exact zq_ret (by exact dX2_pays_10) (by exact rfl) (rv := some (zI 1000000001)) (by exact rfl)
theorem b_X2_pays_16 (d : Nat) (y0 x1 : Int) (σ : zS) : zq (d + 1) mX2_pays 16 [some (zR (some 0)), some (zI x1)] [zI y0] σ = (zc d mX2_lostAhead [zR (some 0), zI x1] σ).bind fun r => zq (d + 1) mX2_pays 21 [some (zR (some 0)), some (zI x1)] (r.1.toList ++ [zI y0]) r.2 := by
  refine Eq.trans (zY_step (by exact rfl) (by exact dX2_pays_16) (by exact rfl) (pc' := 17) (S' := [zR (some 0), zI y0]) (by exact rfl) (zcn (by exact rfl))) ?_
  refine Eq.trans (zY_step (by exact rfl) (by exact dX2_pays_17) (by exact rfl) (pc' := 18) (S' := [zI x1, zR (some 0), zI y0]) (by exact rfl) (zcn (by exact rfl))) ?_
  exact zY_V (by exact rfl) (by exact dX2_pays_18) (by exact rfl) (as := [zI x1]) (S' := [zI y0]) (by exact rfl) (by exact rfl) (by exact rfl) (by exact Nat.le_of_ble_eq_true rfl) (by exact Nat.le_of_ble_eq_true rfl) (by exact Nat.le_of_ble_eq_true rfl) (zcn (by exact rfl))
theorem b_X2_pays_21 (d : Nat) (y0 y1 x1 : Int) (σ : zS) : zq d mX2_pays 21 [some (zR (some 0)), some (zI x1)] [zI y0, zI y1] σ = some (some (zI (y1 - y0)), σ) := by
  refine Eq.trans (zY_step (by exact rfl) (by exact dX2_pays_21) (by exact rfl) (pc' := 22) (S' := [zI (y1 - y0)]) (by exact rfl) (zcn (by exact rfl))) ?_
  exact zq_ret (by exact dX2_pays_22) (by exact rfl) (rv := some (zI (y1 - y0))) (by exact rfl)
theorem e_X2_price (d : Nat) (x1 : Int) (σ : zS) : zc (d + 1) mX2_price [zR (some 0), zI x1] σ = (zc d mX2_hasOneBehind [zR (some 0), zI x1] σ).bind fun r => zq (d + 1) mX2_price 5 [some (zR (some 0)), some (zI x1)] (r.1.toList ++ []) r.2 := by
  refine Eq.trans (zc_zq (L := [some (zR (some 0)), some (zI x1)]) (by exact rfl)) ?_
  refine Eq.trans (zY_step (by exact rfl) (by exact dX2_price_0) (by exact rfl) (pc' := 1) (S' := [zR (some 0)]) (by exact rfl) (zcn (by exact rfl))) ?_
  refine Eq.trans (zY_step (by exact rfl) (by exact dX2_price_1) (by exact rfl) (pc' := 2) (S' := [zI x1, zR (some 0)]) (by exact rfl) (zcn (by exact rfl))) ?_
  exact zY_V (by exact rfl) (by exact dX2_price_2) (by exact rfl) (as := [zI x1]) (S' := []) (by exact rfl) (by exact rfl) (by exact rfl) (by exact Nat.le_of_ble_eq_true rfl) (by exact Nat.le_of_ble_eq_true rfl) (by exact Nat.le_of_ble_eq_true rfl) (zcn (by exact rfl))
theorem b_X2_price_5 (d : Nat) (y0 x1 : Int) (σ : zS) : zq (d + 1) mX2_price 5 [some (zR (some 0)), some (zI x1)] [zI y0] σ = (if ¬ nrm y0 = 0 then (zc d mX2_wonBehind [zR (some 0), zI x1] σ).bind fun r => zq (d + 1) mX2_price 16 [some (zR (some 0)), some (zI x1)] (r.1.toList ++ []) r.2 else some (some (zI 1000000001), σ)) := by
  refine Eq.trans (zY_if_ne (by exact rfl) (by exact dX2_price_5) (t := 11) (by exact rfl) (a2 := nrm y0) (by exact rfl) (zcn (by exact rfl)) (zcn (by exact rfl))) (zif ?_ ?_)
  · refine Eq.trans (zY_step (by exact rfl) (by exact dX2_price_11) (by exact rfl) (pc' := 12) (S' := [zR (some 0)]) (by exact rfl) (zcn (by exact rfl))) ?_
    refine Eq.trans (zY_step (by exact rfl) (by exact dX2_price_12) (by exact rfl) (pc' := 13) (S' := [zI x1, zR (some 0)]) (by exact rfl) (zcn (by exact rfl))) ?_
    exact zY_V (by exact rfl) (by exact dX2_price_13) (by exact rfl) (as := [zI x1]) (S' := []) (by exact rfl) (by exact rfl) (by exact rfl) (by exact Nat.le_of_ble_eq_true rfl) (by exact Nat.le_of_ble_eq_true rfl) (by exact Nat.le_of_ble_eq_true rfl) (zcn (by exact rfl))
  · refine Eq.trans (zY_step (by exact rfl) (by exact dX2_price_8) (by exact rfl) (pc' := 10) (S' := [zI 1000000001]) (by exact rfl) (zcn (by exact rfl))) ?_
    exact zq_ret (by exact dX2_price_10) (by exact rfl) (rv := some (zI 1000000001)) (by exact rfl)
theorem b_X2_price_16 (d : Nat) (y0 x1 : Int) (σ : zS) : zq (d + 1) mX2_price 16 [some (zR (some 0)), some (zI x1)] [zI y0] σ = (zc d mX2_lostAhead [zR (some 0), zI x1] σ).bind fun r => zq (d + 1) mX2_price 21 [some (zR (some 0)), some (zI x1)] (r.1.toList ++ [zI y0]) r.2 := by
  refine Eq.trans (zY_step (by exact rfl) (by exact dX2_price_16) (by exact rfl) (pc' := 17) (S' := [zR (some 0), zI y0]) (by exact rfl) (zcn (by exact rfl))) ?_
  refine Eq.trans (zY_step (by exact rfl) (by exact dX2_price_17) (by exact rfl) (pc' := 18) (S' := [zI x1, zR (some 0), zI y0]) (by exact rfl) (zcn (by exact rfl))) ?_
  exact zY_V (by exact rfl) (by exact dX2_price_18) (by exact rfl) (as := [zI x1]) (S' := [zI y0]) (by exact rfl) (by exact rfl) (by exact rfl) (by exact Nat.le_of_ble_eq_true rfl) (by exact Nat.le_of_ble_eq_true rfl) (by exact Nat.le_of_ble_eq_true rfl) (zcn (by exact rfl))
theorem b_X2_price_21 (d : Nat) (y0 y1 x1 : Int) (σ : zS) : zq d mX2_price 21 [some (zR (some 0)), some (zI x1)] [zI y0, zI y1] σ = some (some (zI ((nrm (y1 + y0)).tdiv 2)), σ) := by
  refine Eq.trans (zY_step (by exact rfl) (by exact dX2_price_21) (by exact rfl) (pc' := 22) (S' := [zI (y1 + y0)]) (by exact rfl) (zcn (by exact rfl))) ?_
  refine Eq.trans (zY_step (by exact rfl) (by exact dX2_price_22) (by exact rfl) (pc' := 23) (S' := [zI 2, zI (y1 + y0)]) (by exact rfl) (zcn (by exact rfl))) ?_
  refine Eq.trans (zY_divc (by exact rfl) (by exact dX2_price_23) (c := 2) (by decide) (by decide) (zcn (by exact rfl))) ?_
  exact zq_ret (by exact dX2_price_24) (by exact rfl) (rv := some (zI ((nrm (y1 + y0)).tdiv 2))) (by exact rfl)
theorem e_X2_order (d : Nat) (x1 x2 : Int) (σ : zS) : zc (d + 1) mX2_order [zR (some 0), zI x1, zI x2] σ = (if nrm x1 < 0 then some (some (zI 1000000001), σ) else (if 9 < nrm x1 then some (some (zI 1000000001), σ) else (if nrm x2 < (-1) then some (some (zI 1000000001), σ) else (if nrm x2 < nrm (σ 1 0) then (if nrm (σ 1 0) ≤ 6 then (zc d mX2_findBestSitting [zR (some 0), zI x1] σ).bind fun r => zq (d + 1) mX2_order 49 [some (zR (some 0)), some (zI x1), some (zI x2), none] (r.1.toList ++ []) r.2 else some (some (zI 1000000003), σ)) else some (some (zI 1000000001), σ))))) := by
  refine Eq.trans (zc_zq (L := [some (zR (some 0)), some (zI x1), some (zI x2), none]) (by exact rfl)) ?_
  refine Eq.trans (zY_step (by exact rfl) (by exact dX2_order_0) (by exact rfl) (pc' := 1) (S' := [zI x1]) (by exact rfl) (zcn (by exact rfl))) ?_
  refine Eq.trans (zY_if_lt (by exact rfl) (by exact dX2_order_1) (t := 26) (by exact rfl) (a2 := nrm x1) (by exact rfl) (L1 := [none, none, none, none]) (by exact rfl) (zcn (by exact rfl))) (zif ?_ ?_)
  · refine Eq.trans (zY_step (by exact rfl) (by exact dX2_order_26) (by exact rfl) (pc' := 28) (S' := [zI 1000000001]) (by exact rfl) (zcn (by exact rfl))) ?_
    exact zq_ret (by exact dX2_order_28) (by exact rfl) (rv := some (zI 1000000001)) (by exact rfl)
  · refine Eq.trans (zY_step (by exact rfl) (by exact dX2_order_4) (by exact rfl) (pc' := 5) (S' := [zI x1]) (by exact rfl) (zcn (by exact rfl))) ?_
    refine Eq.trans (zY_step (by exact rfl) (by exact dX2_order_5) (by exact rfl) (pc' := 7) (S' := [zI 9, zI x1]) (by exact rfl) (zcn (by exact rfl))) ?_
    refine Eq.trans (zY_ic_gt (by exact rfl) (by exact dX2_order_7) (t := 26) (by exact rfl) (a2 := nrm x1) (b2 := 9) (by exact rfl) (by decide) (L1 := [none, none, none, none]) (by exact rfl) (zcn (by exact rfl))) (zif ?_ ?_)
    · refine Eq.trans (zY_step (by exact rfl) (by exact dX2_order_26) (by exact rfl) (pc' := 28) (S' := [zI 1000000001]) (by exact rfl) (zcn (by exact rfl))) ?_
      exact zq_ret (by exact dX2_order_28) (by exact rfl) (rv := some (zI 1000000001)) (by exact rfl)
    · refine Eq.trans (zY_step (by exact rfl) (by exact dX2_order_10) (by exact rfl) (pc' := 11) (S' := [zI x2]) (by exact rfl) (zcn (by exact rfl))) ?_
      refine Eq.trans (zY_step (by exact rfl) (by exact dX2_order_11) (by exact rfl) (pc' := 12) (S' := [zI ((-1)), zI x2]) (by exact rfl) (zcn (by exact rfl))) ?_
      refine Eq.trans (zY_ic_lt (by exact rfl) (by exact dX2_order_12) (t := 26) (by exact rfl) (a2 := nrm x2) (b2 := (-1)) (by exact rfl) (by decide) (L1 := [none, none, none, none]) (by exact rfl) (zcn (by exact rfl))) (zif ?_ ?_)
      · refine Eq.trans (zY_step (by exact rfl) (by exact dX2_order_26) (by exact rfl) (pc' := 28) (S' := [zI 1000000001]) (by exact rfl) (zcn (by exact rfl))) ?_
        exact zq_ret (by exact dX2_order_28) (by exact rfl) (rv := some (zI 1000000001)) (by exact rfl)
      · refine Eq.trans (zY_step (by exact rfl) (by exact dX2_order_15) (by exact rfl) (pc' := 16) (S' := [zI x2]) (by exact rfl) (zcn (by exact rfl))) ?_
        refine Eq.trans (zY_step (by exact rfl) (by exact dX2_order_16) (by exact rfl) (pc' := 17) (S' := [zR (some 0), zI x2]) (by exact rfl) (zcn (by exact rfl))) ?_
        refine Eq.trans (zY_getR (by exact rfl) (by exact dX2_order_17) (by exact rfl) (by exact rfl) (t := 1) (by exact rfl) (zcn (by exact rfl))) ?_
        refine Eq.trans (zY_getI (by exact rfl) (by exact dX2_order_20) (by exact rfl) (by exact zCo_k zCo1) (by exact zCo_r0 zCo1) (zcn (by exact rfl))) ?_
        refine Eq.trans (zY_ic_lt (by exact rfl) (by exact dX2_order_23) (t := 29) (by exact rfl) (a2 := nrm x2) (b2 := nrm (σ 1 0)) (by exact rfl) (by exact rfl) (L2 := [none, none, none, none]) (zcn (by exact rfl)) (by exact rfl)) (zif ?_ ?_)
        · refine Eq.trans (zY_step (by exact rfl) (by exact dX2_order_29) (by exact rfl) (pc' := 30) (S' := [zR (some 0)]) (by exact rfl) (zcn (by exact rfl))) ?_
          refine Eq.trans (zY_getR (by exact rfl) (by exact dX2_order_30) (by exact rfl) (by exact rfl) (t := 1) (by exact rfl) (zcn (by exact rfl))) ?_
          refine Eq.trans (zY_getI (by exact rfl) (by exact dX2_order_33) (by exact rfl) (by exact zCo_k zCo1) (by exact zCo_r0 zCo1) (zcn (by exact rfl))) ?_
          refine Eq.trans (zY_step (by exact rfl) (by exact dX2_order_36) (by exact rfl) (pc' := 38) (S' := [zI 6, zI (σ 1 0)]) (by exact rfl) (zcn (by exact rfl))) ?_
          refine Eq.trans (zY_ic_le (by exact rfl) (by exact dX2_order_38) (t := 44) (by exact rfl) (a2 := nrm (σ 1 0)) (b2 := 6) (by exact rfl) (by decide) (zcn (by exact rfl)) (zcn (by exact rfl))) (zif ?_ ?_)
          · refine Eq.trans (zY_step (by exact rfl) (by exact dX2_order_44) (by exact rfl) (pc' := 45) (S' := [zR (some 0)]) (by exact rfl) (zcn (by exact rfl))) ?_
            refine Eq.trans (zY_step (by exact rfl) (by exact dX2_order_45) (by exact rfl) (pc' := 46) (S' := [zI x1, zR (some 0)]) (by exact rfl) (zcn (by exact rfl))) ?_
            exact zY_V (by exact rfl) (by exact dX2_order_46) (by exact rfl) (as := [zI x1]) (S' := []) (by exact rfl) (by exact rfl) (by exact rfl) (by exact Nat.le_of_ble_eq_true rfl) (by exact Nat.le_of_ble_eq_true rfl) (by exact Nat.le_of_ble_eq_true rfl) (zcn (by exact rfl))
          · refine Eq.trans (zY_step (by exact rfl) (by exact dX2_order_41) (by exact rfl) (pc' := 43) (S' := [zI 1000000003]) (by exact rfl) (zcn (by exact rfl))) ?_
            exact zq_ret (by exact dX2_order_43) (by exact rfl) (rv := some (zI 1000000003)) (by exact rfl)
        · refine Eq.trans (zY_step (by exact rfl) (by exact dX2_order_26) (by exact rfl) (pc' := 28) (S' := [zI 1000000001]) (by exact rfl) (zcn (by exact rfl))) ?_
          exact zq_ret (by exact dX2_order_28) (by exact rfl) (rv := some (zI 1000000001)) (by exact rfl)
theorem b_X2_order_49 (d : Nat) (y0 x1 x2 : Int) (σ : zS) : zq d mX2_order 49 [some (zR (some 0)), some (zI x1), some (zI x2), none] [zI y0] σ = (if 0 ≤ nrm x2 then (if zix x2 6 then some (some (zI (σ 18 (nrm x2).toNat)), σ) else none) else some (some (zI y0), σ)) := by
  refine Eq.trans (zY_step (by exact rfl) (by exact dX2_order_49) (by exact rfl) (pc' := 50) (L' := [some (zR (some 0)), some (zI x1), some (zI x2), some (zI y0)]) (S' := []) (by exact rfl) (zcn (by exact rfl))) ?_
  refine Eq.trans (zY_step (by exact rfl) (by exact dX2_order_50) (by exact rfl) (pc' := 51) (S' := [zI x2]) (by exact rfl) (zcn (by exact rfl))) ?_
  refine Eq.trans (zY_if_ge (by exact rfl) (by exact dX2_order_51) (t := 58) (by exact rfl) (a2 := nrm x2) (by exact rfl) (zcn (by exact rfl)) (zcn (by exact rfl))) (zif ?_ ?_)
  · refine Eq.trans (zY_step (by exact rfl) (by exact dX2_order_58) (by exact rfl) (pc' := 59) (S' := [zR (some 0)]) (by exact rfl) (zcn (by exact rfl))) ?_
    refine Eq.trans (zY_getR (by exact rfl) (by exact dX2_order_59) (by exact rfl) (by exact rfl) (t := 18) (by exact rfl) (zcn (by exact rfl))) ?_
    refine Eq.trans (zY_step (by exact rfl) (by exact dX2_order_62) (by exact rfl) (pc' := 63) (S' := [zI x2, zR (some 18)]) (by exact rfl) (zcn (by exact rfl))) ?_
    refine Eq.trans (zY_iald (by exact rfl) (by exact dX2_order_63) (by exact rfl) (by exact rfl) (by exact rfl)) (zif ?_ rfl)
    · exact zq_ret (by exact dX2_order_64) (by exact rfl) (rv := some (zI (σ 18 (nrm x2).toNat))) (by exact rfl)
  · refine Eq.trans (zY_step (by exact rfl) (by exact dX2_order_54) (by exact rfl) (pc' := 55) (S' := [zI y0]) (by exact rfl) (zcn (by exact rfl))) ?_
    refine Eq.trans (zY_step (by exact rfl) (by exact dX2_order_55) (by exact rfl) (pc' := 64) (S' := [zI y0]) (L2 := [none, none, none, none]) (by exact rfl) (by exact rfl)) ?_
    exact zq_ret (by exact dX2_order_64) (by exact rfl) (rv := some (zI y0)) (by exact rfl)
theorem e_X2_swap (d : Nat) (x1 : Int) (σ : zS) : zc (d + 1) mX2_swap [zR (some 0), zI x1] σ = (zc d mX2_isMindRounds [zI x1] σ).bind fun r => zq (d + 1) mX2_swap 4 [some (zR (some 0)), some (zI x1), none, none, none, none, none] (r.1.toList ++ []) r.2 := by
  refine Eq.trans (zc_zq (L := [some (zR (some 0)), some (zI x1), none, none, none, none, none]) (by exact rfl)) ?_
  refine Eq.trans (zY_step (by exact rfl) (by exact dX2_swap_0) (by exact rfl) (pc' := 1) (S' := [zI x1]) (by exact rfl) (zcn (by exact rfl))) ?_
  exact zY_S (by exact rfl) (by exact dX2_swap_1) (by exact rfl) (by exact Or.inl rfl) (as := [zI x1]) (S' := []) (by exact rfl) (by exact rfl) (by exact Nat.le_of_ble_eq_true rfl) (by exact Nat.le_of_ble_eq_true rfl) (zcn (by exact rfl))
theorem b_X2_swap_4 (d : Nat) (y0 x1 : Int) (σ : zS) : zq (d + 1) mX2_swap 4 [some (zR (some 0)), some (zI x1), none, none, none, none, none] [zI y0] σ = (if ¬ nrm y0 = 0 then (zc d mX2_joyFromUpright [zR (some 0), zI x1] σ).bind fun r => zq (d + 1) mX2_swap 14 [some (zR (some 0)), some (zI x1), none, none, none, none, none] (r.1.toList ++ []) r.2 else some (some (zI ((-1))), σ)) := by
  refine Eq.trans (zY_if_ne (by exact rfl) (by exact dX2_swap_4) (t := 9) (by exact rfl) (a2 := nrm y0) (by exact rfl) (zcn (by exact rfl)) (zcn (by exact rfl))) (zif ?_ ?_)
  · refine Eq.trans (zY_step (by exact rfl) (by exact dX2_swap_9) (by exact rfl) (pc' := 10) (S' := [zR (some 0)]) (by exact rfl) (zcn (by exact rfl))) ?_
    refine Eq.trans (zY_step (by exact rfl) (by exact dX2_swap_10) (by exact rfl) (pc' := 11) (S' := [zI x1, zR (some 0)]) (by exact rfl) (zcn (by exact rfl))) ?_
    exact zY_V (by exact rfl) (by exact dX2_swap_11) (by exact rfl) (as := [zI x1]) (S' := []) (by exact rfl) (by exact rfl) (by exact rfl) (by exact Nat.le_of_ble_eq_true rfl) (by exact Nat.le_of_ble_eq_true rfl) (by exact Nat.le_of_ble_eq_true rfl) (zcn (by exact rfl))
  · refine Eq.trans (zY_step (by exact rfl) (by exact dX2_swap_7) (by exact rfl) (pc' := 8) (S' := [zI ((-1))]) (by exact rfl) (zcn (by exact rfl))) ?_
    exact zq_ret (by exact dX2_swap_8) (by exact rfl) (rv := some (zI ((-1)))) (by exact rfl)
theorem b_X2_swap_14 (d : Nat) (y0 x1 : Int) (σ : zS) : zq d mX2_swap 14 [some (zR (some 0)), some (zI x1), none, none, none, none, none] [zI y0] σ = zq d mX2_swap 21 [some (zR (some 0)), some (zI x1), some (zI y0), some (zI ((-4))), some (zI 0), none, none] [] σ := by
  refine Eq.trans (zY_step (by exact rfl) (by exact dX2_swap_14) (by exact rfl) (pc' := 15) (L' := [some (zR (some 0)), some (zI x1), some (zI y0), none, none, none, none]) (S' := []) (by exact rfl) (zcn (by exact rfl))) ?_
  refine Eq.trans (zY_step (by exact rfl) (by exact dX2_swap_15) (by exact rfl) (pc' := 17) (S' := [zI ((-4))]) (by exact rfl) (zcn (by exact rfl))) ?_
  refine Eq.trans (zY_step (by exact rfl) (by exact dX2_swap_17) (by exact rfl) (pc' := 18) (L' := [some (zR (some 0)), some (zI x1), some (zI y0), some (zI ((-4))), none, none, none]) (S' := []) (by exact rfl) (zcn (by exact rfl))) ?_
  refine Eq.trans (zY_step (by exact rfl) (by exact dX2_swap_18) (by exact rfl) (pc' := 19) (S' := [zI 0]) (by exact rfl) (zcn (by exact rfl))) ?_
  exact zY_step (by exact rfl) (by exact dX2_swap_19) (by exact rfl) (pc' := 21) (L' := [some (zR (some 0)), some (zI x1), some (zI y0), some (zI ((-4))), some (zI 0), none, none]) (S' := []) (L2 := [some (zR (some 0)), some (zI x1), some (zI y0), some (zI ((-4))), some (zI 0), none, none]) (by exact rfl) (by exact rfl)
theorem b_X2_swap_21 (d : Nat) (x1 x2 x3 x4 : Int) (σ : zS) : zq d mX2_swap 21 [some (zR (some 0)), some (zI x1), some (zI x2), some (zI x3), some (zI x4), none, none] [] σ = (if nrm (σ 1 0) ≤ nrm x4 then some (some (zI x3), σ) else zq d mX2_swap 39 [some (zR (some 0)), some (zI x1), some (zI x2), some (zI x3), some (zI x4), some (zI (x4 + 1)), none] [] σ) := by
  refine Eq.trans (zY_step (by exact rfl) (by exact dX2_swap_21) (by exact rfl) (pc' := 23) (S' := [zI x4]) (by exact rfl) (zcn (by exact rfl))) ?_
  refine Eq.trans (zY_step (by exact rfl) (by exact dX2_swap_23) (by exact rfl) (pc' := 24) (S' := [zR (some 0), zI x4]) (by exact rfl) (zcn (by exact rfl))) ?_
  refine Eq.trans (zY_getR (by exact rfl) (by exact dX2_swap_24) (by exact rfl) (by exact rfl) (t := 1) (by exact rfl) (zcn (by exact rfl))) ?_
  refine Eq.trans (zY_getI (by exact rfl) (by exact dX2_swap_27) (by exact rfl) (by exact zCo_k zCo1) (by exact zCo_r0 zCo1) (zcn (by exact rfl))) ?_
  refine Eq.trans (zY_ic_ge (by exact rfl) (by exact dX2_swap_30) (t := 92) (by exact rfl) (a2 := nrm x4) (b2 := nrm (σ 1 0)) (by exact rfl) (by exact rfl) (zcn (by exact rfl)) (zcn (by exact rfl))) (zif ?_ ?_)
  · refine Eq.trans (zY_step (by exact rfl) (by exact dX2_swap_92) (by exact rfl) (pc' := 93) (S' := [zI x3]) (by exact rfl) (zcn (by exact rfl))) ?_
    exact zq_ret (by exact dX2_swap_93) (by exact rfl) (rv := some (zI x3)) (by exact rfl)
  · refine Eq.trans (zY_step (by exact rfl) (by exact dX2_swap_33) (by exact rfl) (pc' := 35) (S' := [zI x4]) (by exact rfl) (zcn (by exact rfl))) ?_
    refine Eq.trans (zY_step (by exact rfl) (by exact dX2_swap_35) (by exact rfl) (pc' := 36) (S' := [zI 1, zI x4]) (by exact rfl) (zcn (by exact rfl))) ?_
    refine Eq.trans (zY_step (by exact rfl) (by exact dX2_swap_36) (by exact rfl) (pc' := 37) (S' := [zI (x4 + 1)]) (by exact rfl) (zcn (by exact rfl))) ?_
    exact zY_step (by exact rfl) (by exact dX2_swap_37) (by exact rfl) (pc' := 39) (L' := [some (zR (some 0)), some (zI x1), some (zI x2), some (zI x3), some (zI x4), some (zI (x4 + 1)), none]) (S' := []) (by exact rfl) (zcn (by exact rfl))
theorem b_X2_swap_39 (d : Nat) (x1 x2 x3 x4 x5 : Int) (σ : zS) : zq (d + 1) mX2_swap 39 [some (zR (some 0)), some (zI x1), some (zI x2), some (zI x3), some (zI x4), some (zI x5), none] [] σ = (if nrm (σ 1 0) ≤ nrm x5 then zq (d + 1) mX2_swap 21 [some (zR (some 0)), some (zI x1), some (zI x2), some (zI x3), some (zI (x4 + 1)), none, none] [] σ else (zc d mX2_joyOfChange [zR (some 0), zI x4, zI x5, zI x1] σ).bind fun r => zq (d + 1) mX2_swap 60 [some (zR (some 0)), some (zI x1), some (zI x2), some (zI x3), some (zI x4), some (zI x5), none] (r.1.toList ++ []) r.2) := by
  refine Eq.trans (zY_step (by exact rfl) (by exact dX2_swap_39) (by exact rfl) (pc' := 41) (S' := [zI x5]) (by exact rfl) (zcn (by exact rfl))) ?_
  refine Eq.trans (zY_step (by exact rfl) (by exact dX2_swap_41) (by exact rfl) (pc' := 42) (S' := [zR (some 0), zI x5]) (by exact rfl) (zcn (by exact rfl))) ?_
  refine Eq.trans (zY_getR (by exact rfl) (by exact dX2_swap_42) (by exact rfl) (by exact rfl) (t := 1) (by exact rfl) (zcn (by exact rfl))) ?_
  refine Eq.trans (zY_getI (by exact rfl) (by exact dX2_swap_45) (by exact rfl) (by exact zCo_k zCo1) (by exact zCo_r0 zCo1) (zcn (by exact rfl))) ?_
  refine Eq.trans (zY_ic_ge (by exact rfl) (by exact dX2_swap_48) (t := 86) (by exact rfl) (a2 := nrm x5) (b2 := nrm (σ 1 0)) (by exact rfl) (by exact rfl) (zcn (by exact rfl)) (zcn (by exact rfl))) (zif ?_ ?_)
  · refine Eq.trans (zY_step (by exact rfl) (by exact dX2_swap_86) (by exact rfl) (pc' := 89) (L' := [some (zR (some 0)), some (zI x1), some (zI x2), some (zI x3), some (zI (x4 + 1)), some (zI x5), none]) (S' := []) (by exact rfl) (zcn (by exact rfl))) ?_
    exact zY_step (by exact rfl) (by exact dX2_swap_89) (by exact rfl) (pc' := 21) (S' := []) (L2 := [some (zR (some 0)), some (zI x1), some (zI x2), some (zI x3), some (zI (x4 + 1)), none, none]) (by exact rfl) (by exact rfl)
  · refine Eq.trans (zY_step (by exact rfl) (by exact dX2_swap_51) (by exact rfl) (pc' := 52) (S' := [zR (some 0)]) (by exact rfl) (zcn (by exact rfl))) ?_
    refine Eq.trans (zY_step (by exact rfl) (by exact dX2_swap_52) (by exact rfl) (pc' := 54) (S' := [zI x4, zR (some 0)]) (by exact rfl) (zcn (by exact rfl))) ?_
    refine Eq.trans (zY_step (by exact rfl) (by exact dX2_swap_54) (by exact rfl) (pc' := 56) (S' := [zI x5, zI x4, zR (some 0)]) (by exact rfl) (zcn (by exact rfl))) ?_
    refine Eq.trans (zY_step (by exact rfl) (by exact dX2_swap_56) (by exact rfl) (pc' := 57) (S' := [zI x1, zI x5, zI x4, zR (some 0)]) (by exact rfl) (zcn (by exact rfl))) ?_
    exact zY_V (by exact rfl) (by exact dX2_swap_57) (by exact rfl) (as := [zI x4, zI x5, zI x1]) (S' := []) (by exact rfl) (by exact rfl) (by exact rfl) (by exact Nat.le_of_ble_eq_true rfl) (by exact Nat.le_of_ble_eq_true rfl) (by exact Nat.le_of_ble_eq_true rfl) (zcn (by exact rfl))
theorem b_X2_swap_60 (d : Nat) (y0 x1 x2 x3 x4 x5 : Int) (σ : zS) : zq d mX2_swap 60 [some (zR (some 0)), some (zI x1), some (zI x2), some (zI x3), some (zI x4), some (zI x5), none] [zI y0] σ = (if nrm y0 ≤ nrm x2 then zq d mX2_swap 80 [some (zR (some 0)), some (zI x1), some (zI x2), some (zI x3), some (zI x4), some (zI x5), none] [] σ else zq d mX2_swap 80 [some (zR (some 0)), some (zI x1), some (zI y0), some (zI ((10 * x4) + x5)), some (zI x4), some (zI x5), none] [] σ) := by
  refine Eq.trans (zY_step (by exact rfl) (by exact dX2_swap_60) (by exact rfl) (pc' := 62) (L' := [some (zR (some 0)), some (zI x1), some (zI x2), some (zI x3), some (zI x4), some (zI x5), some (zI y0)]) (S' := []) (by exact rfl) (zcn (by exact rfl))) ?_
  refine Eq.trans (zY_step (by exact rfl) (by exact dX2_swap_62) (by exact rfl) (pc' := 64) (S' := [zI y0]) (by exact rfl) (zcn (by exact rfl))) ?_
  refine Eq.trans (zY_step (by exact rfl) (by exact dX2_swap_64) (by exact rfl) (pc' := 65) (S' := [zI x2, zI y0]) (by exact rfl) (zcn (by exact rfl))) ?_
  refine Eq.trans (zY_ic_le (by exact rfl) (by exact dX2_swap_65) (t := 80) (by exact rfl) (a2 := nrm y0) (b2 := nrm x2) (by exact rfl) (by exact rfl) (L1 := [some (zR (some 0)), some (zI x1), some (zI x2), some (zI x3), some (zI x4), some (zI x5), none]) (by exact rfl) (zcn (by exact rfl))) (zif ?_ ?_)
  · exact rfl
  · refine Eq.trans (zY_step (by exact rfl) (by exact dX2_swap_68) (by exact rfl) (pc' := 70) (S' := [zI y0]) (by exact rfl) (zcn (by exact rfl))) ?_
    refine Eq.trans (zY_step (by exact rfl) (by exact dX2_swap_70) (by exact rfl) (pc' := 71) (L' := [some (zR (some 0)), some (zI x1), some (zI y0), some (zI x3), some (zI x4), some (zI x5), some (zI y0)]) (S' := []) (by exact rfl) (zcn (by exact rfl))) ?_
    refine Eq.trans (zY_step (by exact rfl) (by exact dX2_swap_71) (by exact rfl) (pc' := 73) (S' := [zI 10]) (by exact rfl) (zcn (by exact rfl))) ?_
    refine Eq.trans (zY_step (by exact rfl) (by exact dX2_swap_73) (by exact rfl) (pc' := 75) (S' := [zI x4, zI 10]) (by exact rfl) (zcn (by exact rfl))) ?_
    refine Eq.trans (zY_step (by exact rfl) (by exact dX2_swap_75) (by exact rfl) (pc' := 76) (S' := [zI (10 * x4)]) (by exact rfl) (zcn (by exact rfl))) ?_
    refine Eq.trans (zY_step (by exact rfl) (by exact dX2_swap_76) (by exact rfl) (pc' := 78) (S' := [zI x5, zI (10 * x4)]) (by exact rfl) (zcn (by exact rfl))) ?_
    refine Eq.trans (zY_step (by exact rfl) (by exact dX2_swap_78) (by exact rfl) (pc' := 79) (S' := [zI ((10 * x4) + x5)]) (by exact rfl) (zcn (by exact rfl))) ?_
    exact zY_step (by exact rfl) (by exact dX2_swap_79) (by exact rfl) (pc' := 80) (L' := [some (zR (some 0)), some (zI x1), some (zI y0), some (zI ((10 * x4) + x5)), some (zI x4), some (zI x5), some (zI y0)]) (S' := []) (L2 := [some (zR (some 0)), some (zI x1), some (zI y0), some (zI ((10 * x4) + x5)), some (zI x4), some (zI x5), none]) (by exact rfl) (by exact rfl)
theorem b_X2_swap_80 (d : Nat) (x1 x2 x3 x4 x5 : Int) (σ : zS) : zq d mX2_swap 80 [some (zR (some 0)), some (zI x1), some (zI x2), some (zI x3), some (zI x4), some (zI x5), none] [] σ = zq d mX2_swap 39 [some (zR (some 0)), some (zI x1), some (zI x2), some (zI x3), some (zI x4), some (zI (x5 + 1)), none] [] σ := by
  refine Eq.trans (zY_step (by exact rfl) (by exact dX2_swap_80) (by exact rfl) (pc' := 83) (L' := [some (zR (some 0)), some (zI x1), some (zI x2), some (zI x3), some (zI x4), some (zI (x5 + 1)), none]) (S' := []) (by exact rfl) (zcn (by exact rfl))) ?_
  exact zY_step (by exact rfl) (by exact dX2_swap_83) (by exact rfl) (pc' := 39) (S' := []) (by exact rfl) (zcn (by exact rfl))
theorem e_X2_stops (d : Nat) (x1 : Int) (σ : zS) : zc d mX2_stops [zR (some 0), zI x1] σ = (if nrm x1 < 1 then some (some (zI ((-1))), σ) else (if nrm x1 ≤ 60 then zq d mX2_stops 39 [some (zR (some 0)), some (zI x1), some (zI ((zshl 1 (σ 1 0)) - 1)), some (zI ((zshl 1 (σ 1 0)) - 1)), some (zI (σ 1 0)), some (zI 0), none] [] σ else some (some (zI ((-1))), σ))) := by
  refine Eq.trans (zc_zq (L := [some (zR (some 0)), some (zI x1), none, none, none, none, none]) (by exact rfl)) ?_
  refine Eq.trans (zY_step (by exact rfl) (by exact dX2_stops_0) (by exact rfl) (pc' := 1) (S' := [zI x1]) (by exact rfl) (zcn (by exact rfl))) ?_
  refine Eq.trans (zY_step (by exact rfl) (by exact dX2_stops_1) (by exact rfl) (pc' := 2) (S' := [zI 1, zI x1]) (by exact rfl) (zcn (by exact rfl))) ?_
  refine Eq.trans (zY_ic_lt (by exact rfl) (by exact dX2_stops_2) (t := 11) (by exact rfl) (a2 := nrm x1) (b2 := 1) (by exact rfl) (by decide) (L1 := [none, none, none, none, none, none, none]) (by exact rfl) (zcn (by exact rfl))) (zif ?_ ?_)
  · refine Eq.trans (zY_step (by exact rfl) (by exact dX2_stops_11) (by exact rfl) (pc' := 12) (S' := [zI ((-1))]) (by exact rfl) (zcn (by exact rfl))) ?_
    exact zq_ret (by exact dX2_stops_12) (by exact rfl) (rv := some (zI ((-1)))) (by exact rfl)
  · refine Eq.trans (zY_step (by exact rfl) (by exact dX2_stops_5) (by exact rfl) (pc' := 6) (S' := [zI x1]) (by exact rfl) (zcn (by exact rfl))) ?_
    refine Eq.trans (zY_step (by exact rfl) (by exact dX2_stops_6) (by exact rfl) (pc' := 8) (S' := [zI 60, zI x1]) (by exact rfl) (zcn (by exact rfl))) ?_
    refine Eq.trans (zY_ic_le (by exact rfl) (by exact dX2_stops_8) (t := 13) (by exact rfl) (a2 := nrm x1) (b2 := 60) (by exact rfl) (by decide) (L2 := [none, none, none, none, none, none, none]) (zcn (by exact rfl)) (by exact rfl)) (zif ?_ ?_)
    · refine Eq.trans (zY_step (by exact rfl) (by exact dX2_stops_13) (by exact rfl) (pc' := 14) (S' := [zI 1]) (by exact rfl) (zcn (by exact rfl))) ?_
      refine Eq.trans (zY_step (by exact rfl) (by exact dX2_stops_14) (by exact rfl) (pc' := 15) (S' := [zR (some 0), zI 1]) (by exact rfl) (zcn (by exact rfl))) ?_
      refine Eq.trans (zY_getR (by exact rfl) (by exact dX2_stops_15) (by exact rfl) (by exact rfl) (t := 1) (by exact rfl) (zcn (by exact rfl))) ?_
      refine Eq.trans (zY_getI (by exact rfl) (by exact dX2_stops_18) (by exact rfl) (by exact zCo_k zCo1) (by exact zCo_r0 zCo1) (zcn (by exact rfl))) ?_
      refine Eq.trans (zY_step (by exact rfl) (by exact dX2_stops_21) (by exact rfl) (pc' := 22) (S' := [zI (zshl 1 (σ 1 0))]) (by exact rfl) (zcn (by exact rfl))) ?_
      refine Eq.trans (zY_step (by exact rfl) (by exact dX2_stops_22) (by exact rfl) (pc' := 23) (S' := [zI 1, zI (zshl 1 (σ 1 0))]) (by exact rfl) (zcn (by exact rfl))) ?_
      refine Eq.trans (zY_step (by exact rfl) (by exact dX2_stops_23) (by exact rfl) (pc' := 24) (S' := [zI ((zshl 1 (σ 1 0)) - 1)]) (by exact rfl) (zcn (by exact rfl))) ?_
      refine Eq.trans (zY_step (by exact rfl) (by exact dX2_stops_24) (by exact rfl) (pc' := 25) (L' := [some (zR (some 0)), some (zI x1), some (zI ((zshl 1 (σ 1 0)) - 1)), none, none, none, none]) (S' := []) (by exact rfl) (zcn (by exact rfl))) ?_
      refine Eq.trans (zY_step (by exact rfl) (by exact dX2_stops_25) (by exact rfl) (pc' := 26) (S' := [zI ((zshl 1 (σ 1 0)) - 1)]) (by exact rfl) (zcn (by exact rfl))) ?_
      refine Eq.trans (zY_step (by exact rfl) (by exact dX2_stops_26) (by exact rfl) (pc' := 27) (L' := [some (zR (some 0)), some (zI x1), some (zI ((zshl 1 (σ 1 0)) - 1)), some (zI ((zshl 1 (σ 1 0)) - 1)), none, none, none]) (S' := []) (by exact rfl) (zcn (by exact rfl))) ?_
      refine Eq.trans (zY_step (by exact rfl) (by exact dX2_stops_27) (by exact rfl) (pc' := 28) (S' := [zR (some 0)]) (by exact rfl) (zcn (by exact rfl))) ?_
      refine Eq.trans (zY_getR (by exact rfl) (by exact dX2_stops_28) (by exact rfl) (by exact rfl) (t := 1) (by exact rfl) (zcn (by exact rfl))) ?_
      refine Eq.trans (zY_getI (by exact rfl) (by exact dX2_stops_31) (by exact rfl) (by exact zCo_k zCo1) (by exact zCo_r0 zCo1) (zcn (by exact rfl))) ?_
      refine Eq.trans (zY_step (by exact rfl) (by exact dX2_stops_34) (by exact rfl) (pc' := 36) (L' := [some (zR (some 0)), some (zI x1), some (zI ((zshl 1 (σ 1 0)) - 1)), some (zI ((zshl 1 (σ 1 0)) - 1)), some (zI (σ 1 0)), none, none]) (S' := []) (by exact rfl) (zcn (by exact rfl))) ?_
      refine Eq.trans (zY_step (by exact rfl) (by exact dX2_stops_36) (by exact rfl) (pc' := 37) (S' := [zI 0]) (by exact rfl) (zcn (by exact rfl))) ?_
      exact zY_step (by exact rfl) (by exact dX2_stops_37) (by exact rfl) (pc' := 39) (L' := [some (zR (some 0)), some (zI x1), some (zI ((zshl 1 (σ 1 0)) - 1)), some (zI ((zshl 1 (σ 1 0)) - 1)), some (zI (σ 1 0)), some (zI 0), none]) (S' := []) (by exact rfl) (zcn (by exact rfl))
    · refine Eq.trans (zY_step (by exact rfl) (by exact dX2_stops_11) (by exact rfl) (pc' := 12) (S' := [zI ((-1))]) (by exact rfl) (zcn (by exact rfl))) ?_
      exact zq_ret (by exact dX2_stops_12) (by exact rfl) (rv := some (zI ((-1)))) (by exact rfl)
theorem b_X2_stops_39 (d : Nat) (x1 x2 x3 x4 x5 : Int) (σ : zS) : zq (d + 1) mX2_stops 39 [some (zR (some 0)), some (zI x1), some (zI x2), some (zI x3), some (zI x4), some (zI x5), none] [] σ = (if nrm x2 ≤ nrm x5 then some (some (zI x3), σ) else (zc d mJ6_bitCount_0f7a4 [zI x5] σ).bind fun r => zq (d + 1) mX2_stops 50 [some (zR (some 0)), some (zI x1), some (zI x2), some (zI x3), some (zI x4), some (zI x5), none] (r.1.toList ++ []) r.2) := by
  refine Eq.trans (zY_step (by exact rfl) (by exact dX2_stops_39) (by exact rfl) (pc' := 41) (S' := [zI x5]) (by exact rfl) (zcn (by exact rfl))) ?_
  refine Eq.trans (zY_step (by exact rfl) (by exact dX2_stops_41) (by exact rfl) (pc' := 42) (S' := [zI x2, zI x5]) (by exact rfl) (zcn (by exact rfl))) ?_
  refine Eq.trans (zY_ic_ge (by exact rfl) (by exact dX2_stops_42) (t := 82) (by exact rfl) (a2 := nrm x5) (b2 := nrm x2) (by exact rfl) (by exact rfl) (zcn (by exact rfl)) (zcn (by exact rfl))) (zif ?_ ?_)
  · refine Eq.trans (zY_step (by exact rfl) (by exact dX2_stops_82) (by exact rfl) (pc' := 83) (S' := [zI x3]) (by exact rfl) (zcn (by exact rfl))) ?_
    exact zq_ret (by exact dX2_stops_83) (by exact rfl) (rv := some (zI x3)) (by exact rfl)
  · refine Eq.trans (zY_step (by exact rfl) (by exact dX2_stops_45) (by exact rfl) (pc' := 47) (S' := [zI x5]) (by exact rfl) (zcn (by exact rfl))) ?_
    exact zY_S (by exact rfl) (by exact dX2_stops_47) (by exact rfl) (by exact Or.inl rfl) (as := [zI x5]) (S' := []) (by exact rfl) (by exact rfl) (by exact Nat.le_of_ble_eq_true rfl) (by exact Nat.le_of_ble_eq_true rfl) (zcn (by exact rfl))
theorem b_X2_stops_50 (d : Nat) (y0 x1 x2 x3 x4 x5 : Int) (σ : zS) : zq (d + 1) mX2_stops 50 [some (zR (some 0)), some (zI x1), some (zI x2), some (zI x3), some (zI x4), some (zI x5), none] [zI y0] σ = (if nrm x4 ≤ nrm y0 then zq (d + 1) mX2_stops 76 [some (zR (some 0)), some (zI x1), some (zI x2), some (zI x3), some (zI x4), some (zI x5), none] [] σ else (zc d mX2_nobodyTips [zR (some 0), zI x5, zI x1] σ).bind fun r => zq (d + 1) mX2_stops 66 [some (zR (some 0)), some (zI x1), some (zI x2), some (zI x3), some (zI x4), some (zI x5), some (zI y0)] (r.1.toList ++ []) r.2) := by
  refine Eq.trans (zY_step (by exact rfl) (by exact dX2_stops_50) (by exact rfl) (pc' := 52) (L' := [some (zR (some 0)), some (zI x1), some (zI x2), some (zI x3), some (zI x4), some (zI x5), some (zI y0)]) (S' := []) (by exact rfl) (zcn (by exact rfl))) ?_
  refine Eq.trans (zY_step (by exact rfl) (by exact dX2_stops_52) (by exact rfl) (pc' := 54) (S' := [zI y0]) (by exact rfl) (zcn (by exact rfl))) ?_
  refine Eq.trans (zY_step (by exact rfl) (by exact dX2_stops_54) (by exact rfl) (pc' := 56) (S' := [zI x4, zI y0]) (by exact rfl) (zcn (by exact rfl))) ?_
  refine Eq.trans (zY_ic_ge (by exact rfl) (by exact dX2_stops_56) (t := 76) (by exact rfl) (a2 := nrm y0) (b2 := nrm x4) (by exact rfl) (by exact rfl) (L1 := [some (zR (some 0)), some (zI x1), some (zI x2), some (zI x3), some (zI x4), some (zI x5), none]) (by exact rfl) (zcn (by exact rfl))) (zif ?_ ?_)
  · exact rfl
  · refine Eq.trans (zY_step (by exact rfl) (by exact dX2_stops_59) (by exact rfl) (pc' := 60) (S' := [zR (some 0)]) (by exact rfl) (zcn (by exact rfl))) ?_
    refine Eq.trans (zY_step (by exact rfl) (by exact dX2_stops_60) (by exact rfl) (pc' := 62) (S' := [zI x5, zR (some 0)]) (by exact rfl) (zcn (by exact rfl))) ?_
    refine Eq.trans (zY_step (by exact rfl) (by exact dX2_stops_62) (by exact rfl) (pc' := 63) (S' := [zI x1, zI x5, zR (some 0)]) (by exact rfl) (zcn (by exact rfl))) ?_
    exact zY_V (by exact rfl) (by exact dX2_stops_63) (by exact rfl) (as := [zI x5, zI x1]) (S' := []) (by exact rfl) (by exact rfl) (by exact rfl) (by exact Nat.le_of_ble_eq_true rfl) (by exact Nat.le_of_ble_eq_true rfl) (by exact Nat.le_of_ble_eq_true rfl) (zcn (by exact rfl))
theorem b_X2_stops_76 (d : Nat) (x1 x2 x3 x4 x5 : Int) (σ : zS) : zq d mX2_stops 76 [some (zR (some 0)), some (zI x1), some (zI x2), some (zI x3), some (zI x4), some (zI x5), none] [] σ = zq d mX2_stops 39 [some (zR (some 0)), some (zI x1), some (zI x2), some (zI x3), some (zI x4), some (zI (x5 + 1)), none] [] σ := by
  refine Eq.trans (zY_step (by exact rfl) (by exact dX2_stops_76) (by exact rfl) (pc' := 79) (L' := [some (zR (some 0)), some (zI x1), some (zI x2), some (zI x3), some (zI x4), some (zI (x5 + 1)), none]) (S' := []) (by exact rfl) (zcn (by exact rfl))) ?_
  exact zY_step (by exact rfl) (by exact dX2_stops_79) (by exact rfl) (pc' := 39) (S' := []) (by exact rfl) (zcn (by exact rfl))
theorem b_X2_stops_66 (d : Nat) (y0 x1 x2 x3 x4 x5 x6 : Int) (σ : zS) : zq d mX2_stops 66 [some (zR (some 0)), some (zI x1), some (zI x2), some (zI x3), some (zI x4), some (zI x5), some (zI x6)] [zI y0] σ = (if nrm y0 = 0 then zq d mX2_stops 76 [some (zR (some 0)), some (zI x1), some (zI x2), some (zI x3), some (zI x4), some (zI x5), none] [] σ else zq d mX2_stops 76 [some (zR (some 0)), some (zI x1), some (zI x2), some (zI x5), some (zI x6), some (zI x5), none] [] σ) := by
  refine Eq.trans (zY_if_eq (by exact rfl) (by exact dX2_stops_66) (t := 76) (by exact rfl) (a2 := nrm y0) (by exact rfl) (L1 := [some (zR (some 0)), some (zI x1), some (zI x2), some (zI x3), some (zI x4), some (zI x5), none]) (by exact rfl) (zcn (by exact rfl))) (zif ?_ ?_)
  · exact rfl
  · refine Eq.trans (zY_step (by exact rfl) (by exact dX2_stops_69) (by exact rfl) (pc' := 71) (S' := [zI x6]) (by exact rfl) (zcn (by exact rfl))) ?_
    refine Eq.trans (zY_step (by exact rfl) (by exact dX2_stops_71) (by exact rfl) (pc' := 73) (L' := [some (zR (some 0)), some (zI x1), some (zI x2), some (zI x3), some (zI x6), some (zI x5), some (zI x6)]) (S' := []) (by exact rfl) (zcn (by exact rfl))) ?_
    refine Eq.trans (zY_step (by exact rfl) (by exact dX2_stops_73) (by exact rfl) (pc' := 75) (S' := [zI x5]) (by exact rfl) (zcn (by exact rfl))) ?_
    exact zY_step (by exact rfl) (by exact dX2_stops_75) (by exact rfl) (pc' := 76) (L' := [some (zR (some 0)), some (zI x1), some (zI x2), some (zI x5), some (zI x6), some (zI x5), some (zI x6)]) (S' := []) (L2 := [some (zR (some 0)), some (zI x1), some (zI x2), some (zI x5), some (zI x6), some (zI x5), none]) (by exact rfl) (by exact rfl)
theorem e_X2_ask (d : Nat) (x1 : Int) (σ : zS) : zc (d + 1) mX2_ask [zR (some 0), zI x1] σ = (zc d mX2_isMindRounds [zI x1] σ).bind fun r => zq (d + 1) mX2_ask 4 [some (zR (some 0)), some (zI x1), none, none, none, none] (r.1.toList ++ []) r.2 := by
  refine Eq.trans (zc_zq (L := [some (zR (some 0)), some (zI x1), none, none, none, none]) (by exact rfl)) ?_
  refine Eq.trans (zY_step (by exact rfl) (by exact dX2_ask_0) (by exact rfl) (pc' := 1) (S' := [zI x1]) (by exact rfl) (zcn (by exact rfl))) ?_
  exact zY_S (by exact rfl) (by exact dX2_ask_1) (by exact rfl) (by exact Or.inl rfl) (as := [zI x1]) (S' := []) (by exact rfl) (by exact rfl) (by exact Nat.le_of_ble_eq_true rfl) (by exact Nat.le_of_ble_eq_true rfl) (zcn (by exact rfl))
theorem b_X2_ask_4 (d : Nat) (y0 x1 : Int) (σ : zS) : zq d mX2_ask 4 [some (zR (some 0)), some (zI x1), none, none, none, none] [zI y0] σ = (if ¬ nrm y0 = 0 then zq d mX2_ask 17 [some (zR (some 0)), some (zI x1), some (zI ((-4))), some (zI 0), some (zI 0), none] [] σ else some (some (zI ((-1))), σ)) := by
  refine Eq.trans (zY_if_ne (by exact rfl) (by exact dX2_ask_4) (t := 9) (by exact rfl) (a2 := nrm y0) (by exact rfl) (zcn (by exact rfl)) (zcn (by exact rfl))) (zif ?_ ?_)
  · refine Eq.trans (zY_step (by exact rfl) (by exact dX2_ask_9) (by exact rfl) (pc' := 11) (S' := [zI ((-4))]) (by exact rfl) (zcn (by exact rfl))) ?_
    refine Eq.trans (zY_step (by exact rfl) (by exact dX2_ask_11) (by exact rfl) (pc' := 12) (L' := [some (zR (some 0)), some (zI x1), some (zI ((-4))), none, none, none]) (S' := []) (by exact rfl) (zcn (by exact rfl))) ?_
    refine Eq.trans (zY_step (by exact rfl) (by exact dX2_ask_12) (by exact rfl) (pc' := 13) (S' := [zI 0]) (by exact rfl) (zcn (by exact rfl))) ?_
    refine Eq.trans (zY_step (by exact rfl) (by exact dX2_ask_13) (by exact rfl) (pc' := 14) (L' := [some (zR (some 0)), some (zI x1), some (zI ((-4))), some (zI 0), none, none]) (S' := []) (by exact rfl) (zcn (by exact rfl))) ?_
    refine Eq.trans (zY_step (by exact rfl) (by exact dX2_ask_14) (by exact rfl) (pc' := 15) (S' := [zI 0]) (by exact rfl) (zcn (by exact rfl))) ?_
    exact zY_step (by exact rfl) (by exact dX2_ask_15) (by exact rfl) (pc' := 17) (L' := [some (zR (some 0)), some (zI x1), some (zI ((-4))), some (zI 0), some (zI 0), none]) (S' := []) (by exact rfl) (zcn (by exact rfl))
  · refine Eq.trans (zY_step (by exact rfl) (by exact dX2_ask_7) (by exact rfl) (pc' := 8) (S' := [zI ((-1))]) (by exact rfl) (zcn (by exact rfl))) ?_
    exact zq_ret (by exact dX2_ask_8) (by exact rfl) (rv := some (zI ((-1)))) (by exact rfl)
theorem b_X2_ask_17 (d : Nat) (x1 x2 x3 x4 : Int) (σ : zS) : zq (d + 1) mX2_ask 17 [some (zR (some 0)), some (zI x1), some (zI x2), some (zI x3), some (zI x4), none] [] σ = (if nrm (σ 1 0) ≤ nrm x4 then some (some (zI x2), σ) else (zc d mX2_thinkOnBlocked [zR (some 0), zI (zshl 1 x4), zI x1] σ).bind fun r => zq (d + 1) mX2_ask 38 [some (zR (some 0)), some (zI x1), some (zI x2), some (zI x3), some (zI x4), none] (r.1.toList ++ []) r.2) := by
  refine Eq.trans (zY_step (by exact rfl) (by exact dX2_ask_17) (by exact rfl) (pc' := 19) (S' := [zI x4]) (by exact rfl) (zcn (by exact rfl))) ?_
  refine Eq.trans (zY_step (by exact rfl) (by exact dX2_ask_19) (by exact rfl) (pc' := 20) (S' := [zR (some 0), zI x4]) (by exact rfl) (zcn (by exact rfl))) ?_
  refine Eq.trans (zY_getR (by exact rfl) (by exact dX2_ask_20) (by exact rfl) (by exact rfl) (t := 1) (by exact rfl) (zcn (by exact rfl))) ?_
  refine Eq.trans (zY_getI (by exact rfl) (by exact dX2_ask_23) (by exact rfl) (by exact zCo_k zCo1) (by exact zCo_r0 zCo1) (zcn (by exact rfl))) ?_
  refine Eq.trans (zY_ic_ge (by exact rfl) (by exact dX2_ask_26) (t := 71) (by exact rfl) (a2 := nrm x4) (b2 := nrm (σ 1 0)) (by exact rfl) (by exact rfl) (zcn (by exact rfl)) (zcn (by exact rfl))) (zif ?_ ?_)
  · refine Eq.trans (zY_step (by exact rfl) (by exact dX2_ask_71) (by exact rfl) (pc' := 72) (S' := [zI x2]) (by exact rfl) (zcn (by exact rfl))) ?_
    exact zq_ret (by exact dX2_ask_72) (by exact rfl) (rv := some (zI x2)) (by exact rfl)
  · refine Eq.trans (zY_step (by exact rfl) (by exact dX2_ask_29) (by exact rfl) (pc' := 30) (S' := [zR (some 0)]) (by exact rfl) (zcn (by exact rfl))) ?_
    refine Eq.trans (zY_step (by exact rfl) (by exact dX2_ask_30) (by exact rfl) (pc' := 31) (S' := [zI 1, zR (some 0)]) (by exact rfl) (zcn (by exact rfl))) ?_
    refine Eq.trans (zY_step (by exact rfl) (by exact dX2_ask_31) (by exact rfl) (pc' := 33) (S' := [zI x4, zI 1, zR (some 0)]) (by exact rfl) (zcn (by exact rfl))) ?_
    refine Eq.trans (zY_step (by exact rfl) (by exact dX2_ask_33) (by exact rfl) (pc' := 34) (S' := [zI (zshl 1 x4), zR (some 0)]) (by exact rfl) (zcn (by exact rfl))) ?_
    refine Eq.trans (zY_step (by exact rfl) (by exact dX2_ask_34) (by exact rfl) (pc' := 35) (S' := [zI x1, zI (zshl 1 x4), zR (some 0)]) (by exact rfl) (zcn (by exact rfl))) ?_
    exact zY_V (by exact rfl) (by exact dX2_ask_35) (by exact rfl) (as := [zI (zshl 1 x4), zI x1]) (S' := []) (by exact rfl) (by exact rfl) (by exact rfl) (by exact Nat.le_of_ble_eq_true rfl) (by exact Nat.le_of_ble_eq_true rfl) (by exact Nat.le_of_ble_eq_true rfl) (zcn (by exact rfl))
theorem b_X2_ask_38 (d : Nat) (x1 x2 x3 x4 : Int) (σ : zS) : zq (d + 1) mX2_ask 38 [some (zR (some 0)), some (zI x1), some (zI x2), some (zI x3), some (zI x4), none] [] σ = (zc d mX0_allJoy [zR (some 6)] σ).bind fun r => zq (d + 1) mX2_ask 45 [some (zR (some 0)), some (zI x1), some (zI x2), some (zI x3), some (zI x4), none] (r.1.toList ++ []) r.2 := by
  refine Eq.trans (zY_step (by exact rfl) (by exact dX2_ask_38) (by exact rfl) (pc' := 39) (S' := [zR (some 0)]) (by exact rfl) (zcn (by exact rfl))) ?_
  refine Eq.trans (zY_getR (by exact rfl) (by exact dX2_ask_39) (by exact rfl) (by exact rfl) (t := 6) (by exact rfl) (zcn (by exact rfl))) ?_
  exact zY_V (by exact rfl) (by exact dX2_ask_42) (by exact rfl) (as := []) (S' := []) (by exact rfl) (by exact rfl) (by exact zCo_k zCo6) (by exact Nat.le_of_ble_eq_true rfl) (by exact Nat.le_of_ble_eq_true rfl) (by exact Nat.le_of_ble_eq_true rfl) (zcn (by exact rfl))
theorem b_X2_ask_45 (d : Nat) (y0 x1 x2 x3 x4 : Int) (σ : zS) : zq d mX2_ask 45 [some (zR (some 0)), some (zI x1), some (zI x2), some (zI x3), some (zI x4), none] [zI y0] σ = (if nrm x2 = (-4) then zq d mX2_ask 59 [some (zR (some 0)), some (zI x1), none, none, some (zI x4), some (zI y0)] [] σ else (if nrm y0 ≤ nrm x3 then zq d mX2_ask 65 [some (zR (some 0)), some (zI x1), some (zI x2), some (zI x3), some (zI x4), none] [] σ else zq d mX2_ask 59 [some (zR (some 0)), some (zI x1), none, none, some (zI x4), some (zI y0)] [] σ)) := by
  refine Eq.trans (zY_step (by exact rfl) (by exact dX2_ask_45) (by exact rfl) (pc' := 47) (L' := [some (zR (some 0)), some (zI x1), some (zI x2), some (zI x3), some (zI x4), some (zI y0)]) (S' := []) (by exact rfl) (zcn (by exact rfl))) ?_
  refine Eq.trans (zY_step (by exact rfl) (by exact dX2_ask_47) (by exact rfl) (pc' := 48) (S' := [zI x2]) (by exact rfl) (zcn (by exact rfl))) ?_
  refine Eq.trans (zY_step (by exact rfl) (by exact dX2_ask_48) (by exact rfl) (pc' := 50) (S' := [zI ((-4)), zI x2]) (by exact rfl) (zcn (by exact rfl))) ?_
  refine Eq.trans (zY_ic_eq (by exact rfl) (by exact dX2_ask_50) (t := 59) (by exact rfl) (a2 := nrm x2) (b2 := (-4)) (by exact rfl) (by decide) (L1 := [some (zR (some 0)), some (zI x1), none, none, some (zI x4), some (zI y0)]) (by exact rfl) (zcn (by exact rfl))) (zif ?_ ?_)
  · exact rfl
  · refine Eq.trans (zY_step (by exact rfl) (by exact dX2_ask_53) (by exact rfl) (pc' := 55) (S' := [zI y0]) (by exact rfl) (zcn (by exact rfl))) ?_
    refine Eq.trans (zY_step (by exact rfl) (by exact dX2_ask_55) (by exact rfl) (pc' := 56) (S' := [zI x3, zI y0]) (by exact rfl) (zcn (by exact rfl))) ?_
    refine Eq.trans (zY_ic_le (by exact rfl) (by exact dX2_ask_56) (t := 65) (by exact rfl) (a2 := nrm y0) (b2 := nrm x3) (by exact rfl) (by exact rfl) (L1 := [some (zR (some 0)), some (zI x1), some (zI x2), some (zI x3), some (zI x4), none]) (L2 := [some (zR (some 0)), some (zI x1), none, none, some (zI x4), some (zI y0)]) (by exact rfl) (by exact rfl)) (zif ?_ ?_)
    · exact rfl
    · exact rfl
theorem b_X2_ask_59 (d : Nat) (x1 x4 x5 : Int) (σ : zS) : zq d mX2_ask 59 [some (zR (some 0)), some (zI x1), none, none, some (zI x4), some (zI x5)] [] σ = zq d mX2_ask 65 [some (zR (some 0)), some (zI x1), some (zI x4), some (zI x5), some (zI x4), none] [] σ := by
  refine Eq.trans (zY_step (by exact rfl) (by exact dX2_ask_59) (by exact rfl) (pc' := 61) (S' := [zI x5]) (by exact rfl) (zcn (by exact rfl))) ?_
  refine Eq.trans (zY_step (by exact rfl) (by exact dX2_ask_61) (by exact rfl) (pc' := 62) (L' := [some (zR (some 0)), some (zI x1), none, some (zI x5), some (zI x4), some (zI x5)]) (S' := []) (by exact rfl) (zcn (by exact rfl))) ?_
  refine Eq.trans (zY_step (by exact rfl) (by exact dX2_ask_62) (by exact rfl) (pc' := 64) (S' := [zI x4]) (by exact rfl) (zcn (by exact rfl))) ?_
  exact zY_step (by exact rfl) (by exact dX2_ask_64) (by exact rfl) (pc' := 65) (L' := [some (zR (some 0)), some (zI x1), some (zI x4), some (zI x5), some (zI x4), some (zI x5)]) (S' := []) (L2 := [some (zR (some 0)), some (zI x1), some (zI x4), some (zI x5), some (zI x4), none]) (by exact rfl) (by exact rfl)
theorem b_X2_ask_65 (d : Nat) (x1 x2 x3 x4 : Int) (σ : zS) : zq d mX2_ask 65 [some (zR (some 0)), some (zI x1), some (zI x2), some (zI x3), some (zI x4), none] [] σ = zq d mX2_ask 17 [some (zR (some 0)), some (zI x1), some (zI x2), some (zI x3), some (zI (x4 + 1)), none] [] σ := by
  refine Eq.trans (zY_step (by exact rfl) (by exact dX2_ask_65) (by exact rfl) (pc' := 68) (L' := [some (zR (some 0)), some (zI x1), some (zI x2), some (zI x3), some (zI (x4 + 1)), none]) (S' := []) (by exact rfl) (zcn (by exact rfl))) ?_
  exact zY_step (by exact rfl) (by exact dX2_ask_68) (by exact rfl) (pc' := 17) (S' := []) (by exact rfl) (zcn (by exact rfl))
theorem e_X2_bestHour (d : Nat) (x1 : Int) (σ : zS) : zc (d + 1) mX2_bestHour [zR (some 0), zI x1] σ = (zc d mX2_isMindRounds [zI x1] σ).bind fun r => zq (d + 1) mX2_bestHour 4 [some (zR (some 0)), some (zI x1), none, none, none, none] (r.1.toList ++ []) r.2 := by
  refine Eq.trans (zc_zq (L := [some (zR (some 0)), some (zI x1), none, none, none, none]) (by exact rfl)) ?_
  refine Eq.trans (zY_step (by exact rfl) (by exact dX2_bestHour_0) (by exact rfl) (pc' := 1) (S' := [zI x1]) (by exact rfl) (zcn (by exact rfl))) ?_
  exact zY_S (by exact rfl) (by exact dX2_bestHour_1) (by exact rfl) (by exact Or.inl rfl) (as := [zI x1]) (S' := []) (by exact rfl) (by exact rfl) (by exact Nat.le_of_ble_eq_true rfl) (by exact Nat.le_of_ble_eq_true rfl) (zcn (by exact rfl))
theorem b_X2_bestHour_4 (d : Nat) (y0 x1 : Int) (σ : zS) : zq (d + 1) mX2_bestHour 4 [some (zR (some 0)), some (zI x1), none, none, none, none] [zI y0] σ = (if ¬ nrm y0 = 0 then (zc d mX2_joyAtHour [zR (some 0), zI 0, zI x1] σ).bind fun r => zq (d + 1) mX2_bestHour 17 [some (zR (some 0)), some (zI x1), some (zI 0), none, none, none] (r.1.toList ++ []) r.2 else some (some (zI ((-1))), σ)) := by
  refine Eq.trans (zY_if_ne (by exact rfl) (by exact dX2_bestHour_4) (t := 9) (by exact rfl) (a2 := nrm y0) (by exact rfl) (zcn (by exact rfl)) (zcn (by exact rfl))) (zif ?_ ?_)
  · refine Eq.trans (zY_step (by exact rfl) (by exact dX2_bestHour_9) (by exact rfl) (pc' := 10) (S' := [zI 0]) (by exact rfl) (zcn (by exact rfl))) ?_
    refine Eq.trans (zY_step (by exact rfl) (by exact dX2_bestHour_10) (by exact rfl) (pc' := 11) (L' := [some (zR (some 0)), some (zI x1), some (zI 0), none, none, none]) (S' := []) (by exact rfl) (zcn (by exact rfl))) ?_
    refine Eq.trans (zY_step (by exact rfl) (by exact dX2_bestHour_11) (by exact rfl) (pc' := 12) (S' := [zR (some 0)]) (by exact rfl) (zcn (by exact rfl))) ?_
    refine Eq.trans (zY_step (by exact rfl) (by exact dX2_bestHour_12) (by exact rfl) (pc' := 13) (S' := [zI 0, zR (some 0)]) (by exact rfl) (zcn (by exact rfl))) ?_
    refine Eq.trans (zY_step (by exact rfl) (by exact dX2_bestHour_13) (by exact rfl) (pc' := 14) (S' := [zI x1, zI 0, zR (some 0)]) (by exact rfl) (zcn (by exact rfl))) ?_
    exact zY_V (by exact rfl) (by exact dX2_bestHour_14) (by exact rfl) (as := [zI 0, zI x1]) (S' := []) (by exact rfl) (by exact rfl) (by exact rfl) (by exact Nat.le_of_ble_eq_true rfl) (by exact Nat.le_of_ble_eq_true rfl) (by exact Nat.le_of_ble_eq_true rfl) (zcn (by exact rfl))
  · refine Eq.trans (zY_step (by exact rfl) (by exact dX2_bestHour_7) (by exact rfl) (pc' := 8) (S' := [zI ((-1))]) (by exact rfl) (zcn (by exact rfl))) ?_
    exact zq_ret (by exact dX2_bestHour_8) (by exact rfl) (rv := some (zI ((-1)))) (by exact rfl)
theorem b_X2_bestHour_17 (d : Nat) (y0 x1 x2 : Int) (σ : zS) : zq d mX2_bestHour 17 [some (zR (some 0)), some (zI x1), some (zI x2), none, none, none] [zI y0] σ = zq d mX2_bestHour 21 [some (zR (some 0)), some (zI x1), some (zI x2), some (zI y0), some (zI 1), none] [] σ := by
  refine Eq.trans (zY_step (by exact rfl) (by exact dX2_bestHour_17) (by exact rfl) (pc' := 18) (L' := [some (zR (some 0)), some (zI x1), some (zI x2), some (zI y0), none, none]) (S' := []) (by exact rfl) (zcn (by exact rfl))) ?_
  refine Eq.trans (zY_step (by exact rfl) (by exact dX2_bestHour_18) (by exact rfl) (pc' := 19) (S' := [zI 1]) (by exact rfl) (zcn (by exact rfl))) ?_
  exact zY_step (by exact rfl) (by exact dX2_bestHour_19) (by exact rfl) (pc' := 21) (L' := [some (zR (some 0)), some (zI x1), some (zI x2), some (zI y0), some (zI 1), none]) (S' := []) (by exact rfl) (zcn (by exact rfl))
theorem b_X2_bestHour_21 (d : Nat) (x1 x2 x3 x4 : Int) (σ : zS) : zq (d + 1) mX2_bestHour 21 [some (zR (some 0)), some (zI x1), some (zI x2), some (zI x3), some (zI x4), none] [] σ = (if 24 ≤ nrm x4 then some (some (zI x2), σ) else (zc d mX2_joyAtHour [zR (some 0), zI x4, zI x1] σ).bind fun r => zq (d + 1) mX2_bestHour 35 [some (zR (some 0)), some (zI x1), some (zI x2), some (zI x3), some (zI x4), none] (r.1.toList ++ []) r.2) := by
  refine Eq.trans (zY_step (by exact rfl) (by exact dX2_bestHour_21) (by exact rfl) (pc' := 23) (S' := [zI x4]) (by exact rfl) (zcn (by exact rfl))) ?_
  refine Eq.trans (zY_step (by exact rfl) (by exact dX2_bestHour_23) (by exact rfl) (pc' := 25) (S' := [zI 24, zI x4]) (by exact rfl) (zcn (by exact rfl))) ?_
  refine Eq.trans (zY_ic_ge (by exact rfl) (by exact dX2_bestHour_25) (t := 55) (by exact rfl) (a2 := nrm x4) (b2 := 24) (by exact rfl) (by decide) (zcn (by exact rfl)) (zcn (by exact rfl))) (zif ?_ ?_)
  · refine Eq.trans (zY_step (by exact rfl) (by exact dX2_bestHour_55) (by exact rfl) (pc' := 56) (S' := [zI x2]) (by exact rfl) (zcn (by exact rfl))) ?_
    exact zq_ret (by exact dX2_bestHour_56) (by exact rfl) (rv := some (zI x2)) (by exact rfl)
  · refine Eq.trans (zY_step (by exact rfl) (by exact dX2_bestHour_28) (by exact rfl) (pc' := 29) (S' := [zR (some 0)]) (by exact rfl) (zcn (by exact rfl))) ?_
    refine Eq.trans (zY_step (by exact rfl) (by exact dX2_bestHour_29) (by exact rfl) (pc' := 31) (S' := [zI x4, zR (some 0)]) (by exact rfl) (zcn (by exact rfl))) ?_
    refine Eq.trans (zY_step (by exact rfl) (by exact dX2_bestHour_31) (by exact rfl) (pc' := 32) (S' := [zI x1, zI x4, zR (some 0)]) (by exact rfl) (zcn (by exact rfl))) ?_
    exact zY_V (by exact rfl) (by exact dX2_bestHour_32) (by exact rfl) (as := [zI x4, zI x1]) (S' := []) (by exact rfl) (by exact rfl) (by exact rfl) (by exact Nat.le_of_ble_eq_true rfl) (by exact Nat.le_of_ble_eq_true rfl) (by exact Nat.le_of_ble_eq_true rfl) (zcn (by exact rfl))
theorem b_X2_bestHour_35 (d : Nat) (y0 x1 x2 x3 x4 : Int) (σ : zS) : zq d mX2_bestHour 35 [some (zR (some 0)), some (zI x1), some (zI x2), some (zI x3), some (zI x4), none] [zI y0] σ = (if nrm y0 ≤ nrm x3 then zq d mX2_bestHour 49 [some (zR (some 0)), some (zI x1), some (zI x2), some (zI x3), some (zI x4), none] [] σ else zq d mX2_bestHour 49 [some (zR (some 0)), some (zI x1), some (zI x4), some (zI y0), some (zI x4), none] [] σ) := by
  refine Eq.trans (zY_step (by exact rfl) (by exact dX2_bestHour_35) (by exact rfl) (pc' := 37) (L' := [some (zR (some 0)), some (zI x1), some (zI x2), some (zI x3), some (zI x4), some (zI y0)]) (S' := []) (by exact rfl) (zcn (by exact rfl))) ?_
  refine Eq.trans (zY_step (by exact rfl) (by exact dX2_bestHour_37) (by exact rfl) (pc' := 39) (S' := [zI y0]) (by exact rfl) (zcn (by exact rfl))) ?_
  refine Eq.trans (zY_step (by exact rfl) (by exact dX2_bestHour_39) (by exact rfl) (pc' := 40) (S' := [zI x3, zI y0]) (by exact rfl) (zcn (by exact rfl))) ?_
  refine Eq.trans (zY_ic_le (by exact rfl) (by exact dX2_bestHour_40) (t := 49) (by exact rfl) (a2 := nrm y0) (b2 := nrm x3) (by exact rfl) (by exact rfl) (L1 := [some (zR (some 0)), some (zI x1), some (zI x2), some (zI x3), some (zI x4), none]) (by exact rfl) (zcn (by exact rfl))) (zif ?_ ?_)
  · exact rfl
  · refine Eq.trans (zY_step (by exact rfl) (by exact dX2_bestHour_43) (by exact rfl) (pc' := 45) (S' := [zI y0]) (by exact rfl) (zcn (by exact rfl))) ?_
    refine Eq.trans (zY_step (by exact rfl) (by exact dX2_bestHour_45) (by exact rfl) (pc' := 46) (L' := [some (zR (some 0)), some (zI x1), some (zI x2), some (zI y0), some (zI x4), some (zI y0)]) (S' := []) (by exact rfl) (zcn (by exact rfl))) ?_
    refine Eq.trans (zY_step (by exact rfl) (by exact dX2_bestHour_46) (by exact rfl) (pc' := 48) (S' := [zI x4]) (by exact rfl) (zcn (by exact rfl))) ?_
    exact zY_step (by exact rfl) (by exact dX2_bestHour_48) (by exact rfl) (pc' := 49) (L' := [some (zR (some 0)), some (zI x1), some (zI x4), some (zI y0), some (zI x4), some (zI y0)]) (S' := []) (L2 := [some (zR (some 0)), some (zI x1), some (zI x4), some (zI y0), some (zI x4), none]) (by exact rfl) (by exact rfl)
theorem b_X2_bestHour_49 (d : Nat) (x1 x2 x3 x4 : Int) (σ : zS) : zq d mX2_bestHour 49 [some (zR (some 0)), some (zI x1), some (zI x2), some (zI x3), some (zI x4), none] [] σ = zq d mX2_bestHour 21 [some (zR (some 0)), some (zI x1), some (zI x2), some (zI x3), some (zI (x4 + 1)), none] [] σ := by
  refine Eq.trans (zY_step (by exact rfl) (by exact dX2_bestHour_49) (by exact rfl) (pc' := 52) (L' := [some (zR (some 0)), some (zI x1), some (zI x2), some (zI x3), some (zI (x4 + 1)), none]) (S' := []) (by exact rfl) (zcn (by exact rfl))) ?_
  exact zY_step (by exact rfl) (by exact dX2_bestHour_52) (by exact rfl) (pc' := 21) (S' := []) (by exact rfl) (zcn (by exact rfl))
theorem e_X2_two (d : Nat) (x1 : Int) (σ : zS) : zc (d + 1) mX2_two [zR (some 0), zI x1] σ = (zc d mX2_hasOneBehind [zR (some 0), zI x1] σ).bind fun r => zq (d + 1) mX2_two 5 [some (zR (some 0)), some (zI x1), none, none] (r.1.toList ++ []) r.2 := by
  refine Eq.trans (zc_zq (L := [some (zR (some 0)), some (zI x1), none, none]) (by exact rfl)) ?_
  refine Eq.trans (zY_step (by exact rfl) (by exact dX2_two_0) (by exact rfl) (pc' := 1) (S' := [zR (some 0)]) (by exact rfl) (zcn (by exact rfl))) ?_
  refine Eq.trans (zY_step (by exact rfl) (by exact dX2_two_1) (by exact rfl) (pc' := 2) (S' := [zI x1, zR (some 0)]) (by exact rfl) (zcn (by exact rfl))) ?_
  exact zY_V (by exact rfl) (by exact dX2_two_2) (by exact rfl) (as := [zI x1]) (S' := []) (by exact rfl) (by exact rfl) (by exact rfl) (by exact Nat.le_of_ble_eq_true rfl) (by exact Nat.le_of_ble_eq_true rfl) (by exact Nat.le_of_ble_eq_true rfl) (zcn (by exact rfl))
theorem b_X2_two_5 (d : Nat) (y0 x1 : Int) (σ : zS) : zq (d + 1) mX2_two 5 [some (zR (some 0)), some (zI x1), none, none] [zI y0] σ = (if ¬ nrm y0 = 0 then (zc d mX0_copyFrom [zR (some 6), zR (some 1)] σ).bind fun r => zq (d + 1) mX2_two 21 [some (zR (some 0)), some (zI x1), none, none] (r.1.toList ++ []) r.2 else some (some (zI ((-1))), σ)) := by
  refine Eq.trans (zY_if_ne (by exact rfl) (by exact dX2_two_5) (t := 10) (by exact rfl) (a2 := nrm y0) (by exact rfl) (zcn (by exact rfl)) (zcn (by exact rfl))) (zif ?_ ?_)
  · refine Eq.trans (zY_step (by exact rfl) (by exact dX2_two_10) (by exact rfl) (pc' := 11) (S' := [zR (some 0)]) (by exact rfl) (zcn (by exact rfl))) ?_
    refine Eq.trans (zY_getR (by exact rfl) (by exact dX2_two_11) (by exact rfl) (by exact rfl) (t := 6) (by exact rfl) (zcn (by exact rfl))) ?_
    refine Eq.trans (zY_step (by exact rfl) (by exact dX2_two_14) (by exact rfl) (pc' := 15) (S' := [zR (some 0), zR (some 6)]) (by exact rfl) (zcn (by exact rfl))) ?_
    refine Eq.trans (zY_getR (by exact rfl) (by exact dX2_two_15) (by exact rfl) (by exact rfl) (t := 1) (by exact rfl) (zcn (by exact rfl))) ?_
    exact zY_V (by exact rfl) (by exact dX2_two_18) (by exact rfl) (as := [zR (some 1)]) (S' := []) (by exact rfl) (by exact rfl) (by exact zCo_k zCo6) (by exact Nat.le_of_ble_eq_true rfl) (by exact Nat.le_of_ble_eq_true rfl) (by exact Nat.le_of_ble_eq_true rfl) (zcn (by exact rfl))
  · refine Eq.trans (zY_step (by exact rfl) (by exact dX2_two_8) (by exact rfl) (pc' := 9) (S' := [zI ((-1))]) (by exact rfl) (zcn (by exact rfl))) ?_
    exact zq_ret (by exact dX2_two_9) (by exact rfl) (rv := some (zI ((-1)))) (by exact rfl)
theorem b_X2_two_21 (d : Nat) (x1 : Int) (σ : zS) : zq d mX2_two 21 [some (zR (some 0)), some (zI x1), none, none] [] σ = zq d mX2_two 23 [some (zR (some 0)), some (zI x1), some (zI 0), none] [] σ := by
  refine Eq.trans (zY_step (by exact rfl) (by exact dX2_two_21) (by exact rfl) (pc' := 22) (S' := [zI 0]) (by exact rfl) (zcn (by exact rfl))) ?_
  exact zY_step (by exact rfl) (by exact dX2_two_22) (by exact rfl) (pc' := 23) (L' := [some (zR (some 0)), some (zI x1), some (zI 0), none]) (S' := []) (L2 := [some (zR (some 0)), some (zI x1), some (zI 0), none]) (by exact rfl) (by exact rfl)
theorem b_X2_two_23 (d : Nat) (x1 x2 : Int) (σ : zS) : zq d mX2_two 23 [some (zR (some 0)), some (zI x1), some (zI x2), none] [] σ = (if 2 ≤ nrm x2 then some (some (zI ((-4))), σ) else zq d mX2_two 30 [some (zR (some 0)), some (zI x1), some (zI x2), some (zI 0)] [] σ) := by
  refine Eq.trans (zY_step (by exact rfl) (by exact dX2_two_23) (by exact rfl) (pc' := 24) (S' := [zI x2]) (by exact rfl) (zcn (by exact rfl))) ?_
  refine Eq.trans (zY_step (by exact rfl) (by exact dX2_two_24) (by exact rfl) (pc' := 25) (S' := [zI 2, zI x2]) (by exact rfl) (zcn (by exact rfl))) ?_
  refine Eq.trans (zY_ic_ge (by exact rfl) (by exact dX2_two_25) (t := 64) (by exact rfl) (a2 := nrm x2) (b2 := 2) (by exact rfl) (by decide) (zcn (by exact rfl)) (zcn (by exact rfl))) (zif ?_ ?_)
  · refine Eq.trans (zY_step (by exact rfl) (by exact dX2_two_64) (by exact rfl) (pc' := 66) (S' := [zI ((-4))]) (by exact rfl) (zcn (by exact rfl))) ?_
    exact zq_ret (by exact dX2_two_66) (by exact rfl) (rv := some (zI ((-4)))) (by exact rfl)
  · refine Eq.trans (zY_step (by exact rfl) (by exact dX2_two_28) (by exact rfl) (pc' := 29) (S' := [zI 0]) (by exact rfl) (zcn (by exact rfl))) ?_
    exact zY_step (by exact rfl) (by exact dX2_two_29) (by exact rfl) (pc' := 30) (L' := [some (zR (some 0)), some (zI x1), some (zI x2), some (zI 0)]) (S' := []) (by exact rfl) (zcn (by exact rfl))
theorem b_X2_two_30 (d : Nat) (x1 x2 x3 : Int) (σ : zS) : zq (d + 1) mX2_two 30 [some (zR (some 0)), some (zI x1), some (zI x2), some (zI x3)] [] σ = (if 2 ≤ nrm x3 then zq (d + 1) mX2_two 23 [some (zR (some 0)), some (zI x1), some (zI (x2 + 1)), none] [] σ else (zc d mX2_neitherWouldRather [zR (some 0), zI x1, zI x2, zI x3] σ).bind fun r => zq (d + 1) mX2_two 42 [some (zR (some 0)), some (zI x1), some (zI x2), some (zI x3)] (r.1.toList ++ []) r.2) := by
  refine Eq.trans (zY_step (by exact rfl) (by exact dX2_two_30) (by exact rfl) (pc' := 31) (S' := [zI x3]) (by exact rfl) (zcn (by exact rfl))) ?_
  refine Eq.trans (zY_step (by exact rfl) (by exact dX2_two_31) (by exact rfl) (pc' := 32) (S' := [zI 2, zI x3]) (by exact rfl) (zcn (by exact rfl))) ?_
  refine Eq.trans (zY_ic_ge (by exact rfl) (by exact dX2_two_32) (t := 58) (by exact rfl) (a2 := nrm x3) (b2 := 2) (by exact rfl) (by decide) (zcn (by exact rfl)) (zcn (by exact rfl))) (zif ?_ ?_)
  · refine Eq.trans (zY_step (by exact rfl) (by exact dX2_two_58) (by exact rfl) (pc' := 61) (L' := [some (zR (some 0)), some (zI x1), some (zI (x2 + 1)), some (zI x3)]) (S' := []) (by exact rfl) (zcn (by exact rfl))) ?_
    exact zY_step (by exact rfl) (by exact dX2_two_61) (by exact rfl) (pc' := 23) (S' := []) (L2 := [some (zR (some 0)), some (zI x1), some (zI (x2 + 1)), none]) (by exact rfl) (by exact rfl)
  · refine Eq.trans (zY_step (by exact rfl) (by exact dX2_two_35) (by exact rfl) (pc' := 36) (S' := [zR (some 0)]) (by exact rfl) (zcn (by exact rfl))) ?_
    refine Eq.trans (zY_step (by exact rfl) (by exact dX2_two_36) (by exact rfl) (pc' := 37) (S' := [zI x1, zR (some 0)]) (by exact rfl) (zcn (by exact rfl))) ?_
    refine Eq.trans (zY_step (by exact rfl) (by exact dX2_two_37) (by exact rfl) (pc' := 38) (S' := [zI x2, zI x1, zR (some 0)]) (by exact rfl) (zcn (by exact rfl))) ?_
    refine Eq.trans (zY_step (by exact rfl) (by exact dX2_two_38) (by exact rfl) (pc' := 39) (S' := [zI x3, zI x2, zI x1, zR (some 0)]) (by exact rfl) (zcn (by exact rfl))) ?_
    exact zY_V (by exact rfl) (by exact dX2_two_39) (by exact rfl) (as := [zI x1, zI x2, zI x3]) (S' := []) (by exact rfl) (by exact rfl) (by exact rfl) (by exact Nat.le_of_ble_eq_true rfl) (by exact Nat.le_of_ble_eq_true rfl) (by exact Nat.le_of_ble_eq_true rfl) (zcn (by exact rfl))
theorem b_X2_two_42 (d : Nat) (y0 x1 x2 x3 : Int) (σ : zS) : zq d mX2_two 42 [some (zR (some 0)), some (zI x1), some (zI x2), some (zI x3)] [zI y0] σ = (if nrm y0 = 0 then zq d mX2_two 30 [some (zR (some 0)), some (zI x1), some (zI x2), some (zI (x3 + 1))] [] σ else some (some (zI ((10 * x2) + x3)), σ)) := by
  refine Eq.trans (zY_if_eq (by exact rfl) (by exact dX2_two_42) (t := 52) (by exact rfl) (a2 := nrm y0) (by exact rfl) (zcn (by exact rfl)) (zcn (by exact rfl))) (zif ?_ ?_)
  · refine Eq.trans (zY_step (by exact rfl) (by exact dX2_two_52) (by exact rfl) (pc' := 55) (L' := [some (zR (some 0)), some (zI x1), some (zI x2), some (zI (x3 + 1))]) (S' := []) (by exact rfl) (zcn (by exact rfl))) ?_
    exact zY_step (by exact rfl) (by exact dX2_two_55) (by exact rfl) (pc' := 30) (S' := []) (by exact rfl) (zcn (by exact rfl))
  · refine Eq.trans (zY_step (by exact rfl) (by exact dX2_two_45) (by exact rfl) (pc' := 47) (S' := [zI 10]) (by exact rfl) (zcn (by exact rfl))) ?_
    refine Eq.trans (zY_step (by exact rfl) (by exact dX2_two_47) (by exact rfl) (pc' := 48) (S' := [zI x2, zI 10]) (by exact rfl) (zcn (by exact rfl))) ?_
    refine Eq.trans (zY_step (by exact rfl) (by exact dX2_two_48) (by exact rfl) (pc' := 49) (S' := [zI (10 * x2)]) (by exact rfl) (zcn (by exact rfl))) ?_
    refine Eq.trans (zY_step (by exact rfl) (by exact dX2_two_49) (by exact rfl) (pc' := 50) (S' := [zI x3, zI (10 * x2)]) (by exact rfl) (zcn (by exact rfl))) ?_
    refine Eq.trans (zY_step (by exact rfl) (by exact dX2_two_50) (by exact rfl) (pc' := 51) (S' := [zI ((10 * x2) + x3)]) (by exact rfl) (zcn (by exact rfl))) ?_
    exact zq_ret (by exact dX2_two_51) (by exact rfl) (rv := some (zI ((10 * x2) + x3))) (by exact rfl)
theorem e_X2_looksRound (d : Nat) (x1 x2 x3 : Int) (σ : zS) : zc (d + 1) mX2_looksRound [zR (some 0), zI x1, zI x2, zI x3] σ = (if nrm x1 < 2 then some (some (zJ 1000000001), σ) else (if 20 < nrm x1 then some (some (zJ 1000000001), σ) else (if nrm x2 < 0 then some (some (zJ 1000000001), σ) else (if 80 < nrm x2 then some (some (zJ 1000000001), σ) else (if nrm x3 < 0 then some (some (zJ 1000000001), σ) else (if nrm x3 ≤ 1 then (zc d mX2_thinkOn [zR (some 0), zI 1] σ).bind fun r => zq (d + 1) mX2_looksRound 39 [some (zR (some 0)), some (zI x1), some (zI x2), some (zI x3), none, none, none, none, none] (r.1.toList ++ []) r.2 else some (some (zJ 1000000001), σ))))))) := by
  refine Eq.trans (zc_zq (L := [some (zR (some 0)), some (zI x1), some (zI x2), some (zI x3), none, none, none, none, none]) (by exact rfl)) ?_
  refine Eq.trans (zY_step (by exact rfl) (by exact dX2_looksRound_0) (by exact rfl) (pc' := 1) (S' := [zI x1]) (by exact rfl) (zcn (by exact rfl))) ?_
  refine Eq.trans (zY_step (by exact rfl) (by exact dX2_looksRound_1) (by exact rfl) (pc' := 2) (S' := [zI 2, zI x1]) (by exact rfl) (zcn (by exact rfl))) ?_
  refine Eq.trans (zY_ic_lt (by exact rfl) (by exact dX2_looksRound_2) (t := 30) (by exact rfl) (a2 := nrm x1) (b2 := 2) (by exact rfl) (by decide) (L1 := [none, none, none, none, none, none, none, none, none]) (by exact rfl) (zcn (by exact rfl))) (zif ?_ ?_)
  · refine Eq.trans (zY_step (by exact rfl) (by exact dX2_looksRound_30) (by exact rfl) (pc' := 33) (S' := [zJ 1000000001]) (by exact rfl) (zcn (by exact rfl))) ?_
    exact zq_ret (by exact dX2_looksRound_33) (by exact rfl) (rv := some (zJ 1000000001)) (by exact rfl)
  · refine Eq.trans (zY_step (by exact rfl) (by exact dX2_looksRound_5) (by exact rfl) (pc' := 6) (S' := [zI x1]) (by exact rfl) (zcn (by exact rfl))) ?_
    refine Eq.trans (zY_step (by exact rfl) (by exact dX2_looksRound_6) (by exact rfl) (pc' := 8) (S' := [zI 20, zI x1]) (by exact rfl) (zcn (by exact rfl))) ?_
    refine Eq.trans (zY_ic_gt (by exact rfl) (by exact dX2_looksRound_8) (t := 30) (by exact rfl) (a2 := nrm x1) (b2 := 20) (by exact rfl) (by decide) (L1 := [none, none, none, none, none, none, none, none, none]) (by exact rfl) (zcn (by exact rfl))) (zif ?_ ?_)
    · refine Eq.trans (zY_step (by exact rfl) (by exact dX2_looksRound_30) (by exact rfl) (pc' := 33) (S' := [zJ 1000000001]) (by exact rfl) (zcn (by exact rfl))) ?_
      exact zq_ret (by exact dX2_looksRound_33) (by exact rfl) (rv := some (zJ 1000000001)) (by exact rfl)
    · refine Eq.trans (zY_step (by exact rfl) (by exact dX2_looksRound_11) (by exact rfl) (pc' := 12) (S' := [zI x2]) (by exact rfl) (zcn (by exact rfl))) ?_
      refine Eq.trans (zY_if_lt (by exact rfl) (by exact dX2_looksRound_12) (t := 30) (by exact rfl) (a2 := nrm x2) (by exact rfl) (L1 := [none, none, none, none, none, none, none, none, none]) (by exact rfl) (zcn (by exact rfl))) (zif ?_ ?_)
      · refine Eq.trans (zY_step (by exact rfl) (by exact dX2_looksRound_30) (by exact rfl) (pc' := 33) (S' := [zJ 1000000001]) (by exact rfl) (zcn (by exact rfl))) ?_
        exact zq_ret (by exact dX2_looksRound_33) (by exact rfl) (rv := some (zJ 1000000001)) (by exact rfl)
      · refine Eq.trans (zY_step (by exact rfl) (by exact dX2_looksRound_15) (by exact rfl) (pc' := 16) (S' := [zI x2]) (by exact rfl) (zcn (by exact rfl))) ?_
        refine Eq.trans (zY_step (by exact rfl) (by exact dX2_looksRound_16) (by exact rfl) (pc' := 18) (S' := [zI 80, zI x2]) (by exact rfl) (zcn (by exact rfl))) ?_
        refine Eq.trans (zY_ic_gt (by exact rfl) (by exact dX2_looksRound_18) (t := 30) (by exact rfl) (a2 := nrm x2) (b2 := 80) (by exact rfl) (by decide) (L1 := [none, none, none, none, none, none, none, none, none]) (by exact rfl) (zcn (by exact rfl))) (zif ?_ ?_)
        · refine Eq.trans (zY_step (by exact rfl) (by exact dX2_looksRound_30) (by exact rfl) (pc' := 33) (S' := [zJ 1000000001]) (by exact rfl) (zcn (by exact rfl))) ?_
          exact zq_ret (by exact dX2_looksRound_33) (by exact rfl) (rv := some (zJ 1000000001)) (by exact rfl)
        · refine Eq.trans (zY_step (by exact rfl) (by exact dX2_looksRound_21) (by exact rfl) (pc' := 22) (S' := [zI x3]) (by exact rfl) (zcn (by exact rfl))) ?_
          refine Eq.trans (zY_if_lt (by exact rfl) (by exact dX2_looksRound_22) (t := 30) (by exact rfl) (a2 := nrm x3) (by exact rfl) (L1 := [none, none, none, none, none, none, none, none, none]) (by exact rfl) (zcn (by exact rfl))) (zif ?_ ?_)
          · refine Eq.trans (zY_step (by exact rfl) (by exact dX2_looksRound_30) (by exact rfl) (pc' := 33) (S' := [zJ 1000000001]) (by exact rfl) (zcn (by exact rfl))) ?_
            exact zq_ret (by exact dX2_looksRound_33) (by exact rfl) (rv := some (zJ 1000000001)) (by exact rfl)
          · refine Eq.trans (zY_step (by exact rfl) (by exact dX2_looksRound_25) (by exact rfl) (pc' := 26) (S' := [zI x3]) (by exact rfl) (zcn (by exact rfl))) ?_
            refine Eq.trans (zY_step (by exact rfl) (by exact dX2_looksRound_26) (by exact rfl) (pc' := 27) (S' := [zI 1, zI x3]) (by exact rfl) (zcn (by exact rfl))) ?_
            refine Eq.trans (zY_ic_le (by exact rfl) (by exact dX2_looksRound_27) (t := 34) (by exact rfl) (a2 := nrm x3) (b2 := 1) (by exact rfl) (by decide) (L2 := [none, none, none, none, none, none, none, none, none]) (zcn (by exact rfl)) (by exact rfl)) (zif ?_ ?_)
            · refine Eq.trans (zY_step (by exact rfl) (by exact dX2_looksRound_34) (by exact rfl) (pc' := 35) (S' := [zR (some 0)]) (by exact rfl) (zcn (by exact rfl))) ?_
              refine Eq.trans (zY_step (by exact rfl) (by exact dX2_looksRound_35) (by exact rfl) (pc' := 36) (S' := [zI 1, zR (some 0)]) (by exact rfl) (zcn (by exact rfl))) ?_
              exact zY_V (by exact rfl) (by exact dX2_looksRound_36) (by exact rfl) (as := [zI 1]) (S' := []) (by exact rfl) (by exact rfl) (by exact rfl) (by exact Nat.le_of_ble_eq_true rfl) (by exact Nat.le_of_ble_eq_true rfl) (by exact Nat.le_of_ble_eq_true rfl) (zcn (by exact rfl))
            · refine Eq.trans (zY_step (by exact rfl) (by exact dX2_looksRound_30) (by exact rfl) (pc' := 33) (S' := [zJ 1000000001]) (by exact rfl) (zcn (by exact rfl))) ?_
              exact zq_ret (by exact dX2_looksRound_33) (by exact rfl) (rv := some (zJ 1000000001)) (by exact rfl)
theorem b_X2_looksRound_39 (d : Nat) (x1 x2 x3 : Int) (σ : zS) : zq (d + 1) mX2_looksRound 39 [some (zR (some 0)), some (zI x1), some (zI x2), some (zI x3), none, none, none, none, none] [] σ = (zc d mJ7_fill_d0a16 [zR (some 19), zJ 0] σ).bind fun r => zq (d + 1) mX2_looksRound 47 [some (zR (some 0)), some (zI x1), some (zI x2), some (zI x3), none, none, none, none, none] (r.1.toList ++ []) r.2 := by
  refine Eq.trans (zY_step (by exact rfl) (by exact dX2_looksRound_39) (by exact rfl) (pc' := 40) (S' := [zR (some 0)]) (by exact rfl) (zcn (by exact rfl))) ?_
  refine Eq.trans (zY_getR (by exact rfl) (by exact dX2_looksRound_40) (by exact rfl) (by exact rfl) (t := 19) (by exact rfl) (zcn (by exact rfl))) ?_
  refine Eq.trans (zY_step (by exact rfl) (by exact dX2_looksRound_43) (by exact rfl) (pc' := 44) (S' := [zJ 0, zR (some 19)]) (by exact rfl) (zcn (by exact rfl))) ?_
  exact zY_S (by exact rfl) (by exact dX2_looksRound_44) (by exact rfl) (by exact Or.inl rfl) (as := [zR (some 19), zJ 0]) (S' := []) (by exact rfl) (by exact rfl) (by exact Nat.le_of_ble_eq_true rfl) (by exact Nat.le_of_ble_eq_true rfl) (zcn (by exact rfl))
theorem b_X2_looksRound_47 (d : Nat) (x1 x2 x3 : Int) (σ : zS) : zq d mX2_looksRound 47 [some (zR (some 0)), some (zI x1), some (zI x2), some (zI x3), none, none, none, none, none] [] σ = (if zix 0 81 then zq d mX2_looksRound 60 [some (zR (some 0)), some (zI x1), some (zI x2), some (zI x3), some (zJ 1), none, some (zI 0), none, none] [] (zup σ 19 (nrm 0).toNat 1) else none) := by
  refine Eq.trans (zY_step (by exact rfl) (by exact dX2_looksRound_47) (by exact rfl) (pc' := 48) (S' := [zR (some 0)]) (by exact rfl) (zcn (by exact rfl))) ?_
  refine Eq.trans (zY_getR (by exact rfl) (by exact dX2_looksRound_48) (by exact rfl) (by exact rfl) (t := 19) (by exact rfl) (zcn (by exact rfl))) ?_
  refine Eq.trans (zY_step (by exact rfl) (by exact dX2_looksRound_51) (by exact rfl) (pc' := 52) (S' := [zI 0, zR (some 19)]) (by exact rfl) (zcn (by exact rfl))) ?_
  refine Eq.trans (zY_step (by exact rfl) (by exact dX2_looksRound_52) (by exact rfl) (pc' := 53) (S' := [zJ 1, zI 0, zR (some 19)]) (by exact rfl) (zcn (by exact rfl))) ?_
  refine Eq.trans (zY_last (by exact rfl) (by exact dX2_looksRound_53) (by exact rfl) (by exact rfl) (zcn (by exact rfl))) (zif ?_ rfl)
  · refine Eq.trans (zY_step (by exact rfl) (by exact dX2_looksRound_54) (by exact rfl) (pc' := 55) (S' := [zJ 1]) (by exact rfl) (zcn (by exact rfl))) ?_
    refine Eq.trans (zY_step (by exact rfl) (by exact dX2_looksRound_55) (by exact rfl) (pc' := 57) (L' := [some (zR (some 0)), some (zI x1), some (zI x2), some (zI x3), some (zJ 1), none, none, none, none]) (S' := []) (by exact rfl) (zcn (by exact rfl))) ?_
    refine Eq.trans (zY_step (by exact rfl) (by exact dX2_looksRound_57) (by exact rfl) (pc' := 58) (S' := [zI 0]) (by exact rfl) (zcn (by exact rfl))) ?_
    exact zY_step (by exact rfl) (by exact dX2_looksRound_58) (by exact rfl) (pc' := 60) (L' := [some (zR (some 0)), some (zI x1), some (zI x2), some (zI x3), some (zJ 1), none, some (zI 0), none, none]) (S' := []) (by exact rfl) (zcn (by exact rfl))
theorem b_X2_looksRound_60 (d : Nat) (x1 x2 x3 x4 x6 : Int) (σ : zS) : zq (d + 1) mX2_looksRound 60 [some (zR (some 0)), some (zI x1), some (zI x2), some (zI x3), some (zJ x4), none, some (zI x6), none, none] [] σ = (if nrm (σ 6 0) ≤ nrm x6 then zq (d + 1) mX2_looksRound 140 [some (zR (some 0)), none, some (zI x2), some (zI x3), some (zJ x4), none, some (zJ 0), none, some (zI 0)] [] σ else (zc d mX0_childBehind [zR (some 6), zI x6] σ).bind fun r => zq (d + 1) mX2_looksRound 81 [some (zR (some 0)), some (zI x1), some (zI x2), some (zI x3), some (zJ x4), none, some (zI x6), none, none] (r.1.toList ++ []) r.2) := by
  refine Eq.trans (zY_step (by exact rfl) (by exact dX2_looksRound_60) (by exact rfl) (pc' := 62) (S' := [zI x6]) (by exact rfl) (zcn (by exact rfl))) ?_
  refine Eq.trans (zY_step (by exact rfl) (by exact dX2_looksRound_62) (by exact rfl) (pc' := 63) (S' := [zR (some 0), zI x6]) (by exact rfl) (zcn (by exact rfl))) ?_
  refine Eq.trans (zY_getR (by exact rfl) (by exact dX2_looksRound_63) (by exact rfl) (by exact rfl) (t := 6) (by exact rfl) (zcn (by exact rfl))) ?_
  refine Eq.trans (zY_getI (by exact rfl) (by exact dX2_looksRound_66) (by exact rfl) (by exact zCo_k zCo6) (by exact zCo_r0 zCo6) (zcn (by exact rfl))) ?_
  refine Eq.trans (zY_ic_ge (by exact rfl) (by exact dX2_looksRound_69) (t := 134) (by exact rfl) (a2 := nrm x6) (b2 := nrm (σ 6 0)) (by exact rfl) (by exact rfl) (zcn (by exact rfl)) (zcn (by exact rfl))) (zif ?_ ?_)
  · refine Eq.trans (zY_step (by exact rfl) (by exact dX2_looksRound_134) (by exact rfl) (pc' := 135) (S' := [zJ 0]) (by exact rfl) (zcn (by exact rfl))) ?_
    refine Eq.trans (zY_step (by exact rfl) (by exact dX2_looksRound_135) (by exact rfl) (pc' := 137) (L' := [some (zR (some 0)), some (zI x1), some (zI x2), some (zI x3), some (zJ x4), none, some (zJ 0), none, none]) (S' := []) (by exact rfl) (zcn (by exact rfl))) ?_
    refine Eq.trans (zY_step (by exact rfl) (by exact dX2_looksRound_137) (by exact rfl) (pc' := 138) (S' := [zI 0]) (by exact rfl) (zcn (by exact rfl))) ?_
    exact zY_step (by exact rfl) (by exact dX2_looksRound_138) (by exact rfl) (pc' := 140) (L' := [some (zR (some 0)), some (zI x1), some (zI x2), some (zI x3), some (zJ x4), none, some (zJ 0), none, some (zI 0)]) (S' := []) (L2 := [some (zR (some 0)), none, some (zI x2), some (zI x3), some (zJ x4), none, some (zJ 0), none, some (zI 0)]) (by exact rfl) (by exact rfl)
  · refine Eq.trans (zY_step (by exact rfl) (by exact dX2_looksRound_72) (by exact rfl) (pc' := 73) (S' := [zR (some 0)]) (by exact rfl) (zcn (by exact rfl))) ?_
    refine Eq.trans (zY_getR (by exact rfl) (by exact dX2_looksRound_73) (by exact rfl) (by exact rfl) (t := 6) (by exact rfl) (zcn (by exact rfl))) ?_
    refine Eq.trans (zY_step (by exact rfl) (by exact dX2_looksRound_76) (by exact rfl) (pc' := 78) (S' := [zI x6, zR (some 6)]) (by exact rfl) (zcn (by exact rfl))) ?_
    exact zY_V (by exact rfl) (by exact dX2_looksRound_78) (by exact rfl) (as := [zI x6]) (S' := []) (by exact rfl) (by exact rfl) (by exact zCo_k zCo6) (by exact Nat.le_of_ble_eq_true rfl) (by exact Nat.le_of_ble_eq_true rfl) (by exact Nat.le_of_ble_eq_true rfl) (zcn (by exact rfl))
theorem b_X2_looksRound_140 (d : Nat) (x2 x3 x4 x6 x8 : Int) (σ : zS) : zq (d + 1) mX2_looksRound 140 [some (zR (some 0)), none, some (zI x2), some (zI x3), some (zJ x4), none, some (zJ x6), none, some (zI x8)] [] σ = (if nrm x2 < nrm x8 then (zc d mX2_partOf [zJ x6, zJ x4, zI x3] σ).bind fun r => zq (d + 1) mX2_looksRound 172 [some (zR (some 0)), none, some (zI x2), some (zI x3), some (zJ x4), none, some (zJ x6), none, some (zI x8)] (r.1.toList ++ []) r.2 else (if zix x8 81 then zq (d + 1) mX2_looksRound 140 [some (zR (some 0)), none, some (zI x2), some (zI x3), some (zJ x4), none, some (zJ (x6 + (σ 19 (nrm x8).toNat))), none, some (zI (x8 + 1))] [] σ else none)) := by
  refine Eq.trans (zY_step (by exact rfl) (by exact dX2_looksRound_140) (by exact rfl) (pc' := 142) (S' := [zI x8]) (by exact rfl) (zcn (by exact rfl))) ?_
  refine Eq.trans (zY_step (by exact rfl) (by exact dX2_looksRound_142) (by exact rfl) (pc' := 143) (S' := [zI x2, zI x8]) (by exact rfl) (zcn (by exact rfl))) ?_
  refine Eq.trans (zY_ic_gt (by exact rfl) (by exact dX2_looksRound_143) (t := 164) (by exact rfl) (a2 := nrm x8) (b2 := nrm x2) (by exact rfl) (by exact rfl) (zcn (by exact rfl)) (zcn (by exact rfl))) (zif ?_ ?_)
  · refine Eq.trans (zY_step (by exact rfl) (by exact dX2_looksRound_164) (by exact rfl) (pc' := 166) (S' := [zJ x6]) (by exact rfl) (zcn (by exact rfl))) ?_
    refine Eq.trans (zY_step (by exact rfl) (by exact dX2_looksRound_166) (by exact rfl) (pc' := 168) (S' := [zJ x4, zJ x6]) (by exact rfl) (zcn (by exact rfl))) ?_
    refine Eq.trans (zY_step (by exact rfl) (by exact dX2_looksRound_168) (by exact rfl) (pc' := 169) (S' := [zI x3, zJ x4, zJ x6]) (by exact rfl) (zcn (by exact rfl))) ?_
    exact zY_S (by exact rfl) (by exact dX2_looksRound_169) (by exact rfl) (by exact Or.inl rfl) (as := [zJ x6, zJ x4, zI x3]) (S' := []) (by exact rfl) (by exact rfl) (by exact Nat.le_of_ble_eq_true rfl) (by exact Nat.le_of_ble_eq_true rfl) (zcn (by exact rfl))
  · refine Eq.trans (zY_step (by exact rfl) (by exact dX2_looksRound_146) (by exact rfl) (pc' := 148) (S' := [zJ x6]) (by exact rfl) (zcn (by exact rfl))) ?_
    refine Eq.trans (zY_step (by exact rfl) (by exact dX2_looksRound_148) (by exact rfl) (pc' := 149) (S' := [zR (some 0), zJ x6]) (by exact rfl) (zcn (by exact rfl))) ?_
    refine Eq.trans (zY_getR (by exact rfl) (by exact dX2_looksRound_149) (by exact rfl) (by exact rfl) (t := 19) (by exact rfl) (zcn (by exact rfl))) ?_
    refine Eq.trans (zY_step (by exact rfl) (by exact dX2_looksRound_152) (by exact rfl) (pc' := 154) (S' := [zI x8, zR (some 19), zJ x6]) (by exact rfl) (zcn (by exact rfl))) ?_
    refine Eq.trans (zY_lald (by exact rfl) (by exact dX2_looksRound_154) (by exact rfl) (by exact rfl) (zcn (by exact rfl))) (zif ?_ rfl)
    · refine Eq.trans (zY_step (by exact rfl) (by exact dX2_looksRound_155) (by exact rfl) (pc' := 156) (S' := [zJ (x6 + (σ 19 (nrm x8).toNat))]) (by exact rfl) (zcn (by exact rfl))) ?_
      refine Eq.trans (zY_step (by exact rfl) (by exact dX2_looksRound_156) (by exact rfl) (pc' := 158) (L' := [some (zR (some 0)), none, some (zI x2), some (zI x3), some (zJ x4), none, some (zJ (x6 + (σ 19 (nrm x8).toNat))), none, some (zI x8)]) (S' := []) (by exact rfl) (zcn (by exact rfl))) ?_
      refine Eq.trans (zY_step (by exact rfl) (by exact dX2_looksRound_158) (by exact rfl) (pc' := 161) (L' := [some (zR (some 0)), none, some (zI x2), some (zI x3), some (zJ x4), none, some (zJ (x6 + (σ 19 (nrm x8).toNat))), none, some (zI (x8 + 1))]) (S' := []) (by exact rfl) (zcn (by exact rfl))) ?_
      exact zY_step (by exact rfl) (by exact dX2_looksRound_161) (by exact rfl) (pc' := 140) (S' := []) (L2 := [some (zR (some 0)), none, some (zI x2), some (zI x3), some (zJ x4), none, some (zJ (x6 + (σ 19 (nrm x8).toNat))), none, some (zI (x8 + 1))]) (by exact rfl) (by exact rfl)
theorem b_X2_looksRound_81 (d : Nat) (y0 x1 x2 x3 x4 x6 : Int) (σ : zS) : zq (d + 1) mX2_looksRound 81 [some (zR (some 0)), some (zI x1), some (zI x2), some (zI x3), some (zJ x4), none, some (zI x6), none, none] [zI y0] σ = (if nrm y0 = 0 then (if zix x6 8 then (zc d mX2_addTip [zR (some 0), zI (σ 9 (nrm x6).toNat), zI 0, zI 1] σ).bind fun r => zq (d + 1) mX2_looksRound 128 [some (zR (some 0)), some (zI x1), some (zI x2), some (zI x3), some (zJ x4), none, some (zI x6), none, none] (r.1.toList ++ []) r.2 else none) else (if zix x6 8 then (zc d mX2_addTip [zR (some 0), zI (σ 9 (nrm x6).toNat), zI 1, zI (x1 - 1)] σ).bind fun r => zq (d + 1) mX2_looksRound 109 [some (zR (some 0)), some (zI x1), some (zI x2), some (zI x3), some (zJ (x4 * (nrm x1))), none, some (zI x6), none, none] (r.1.toList ++ []) r.2 else none)) := by
  refine Eq.trans (zY_if_eq (by exact rfl) (by exact dX2_looksRound_81) (t := 112) (by exact rfl) (a2 := nrm y0) (by exact rfl) (zcn (by exact rfl)) (zcn (by exact rfl))) (zif ?_ ?_)
  · refine Eq.trans (zY_step (by exact rfl) (by exact dX2_looksRound_112) (by exact rfl) (pc' := 113) (S' := [zR (some 0)]) (by exact rfl) (zcn (by exact rfl))) ?_
    refine Eq.trans (zY_step (by exact rfl) (by exact dX2_looksRound_113) (by exact rfl) (pc' := 114) (S' := [zR (some 0), zR (some 0)]) (by exact rfl) (zcn (by exact rfl))) ?_
    refine Eq.trans (zY_getR (by exact rfl) (by exact dX2_looksRound_114) (by exact rfl) (by exact rfl) (t := 6) (by exact rfl) (zcn (by exact rfl))) ?_
    refine Eq.trans (zY_getR (by exact rfl) (by exact dX2_looksRound_117) (by exact rfl) (by exact rfl) (t := 9) (by exact rfl) (zcn (by exact rfl))) ?_
    refine Eq.trans (zY_step (by exact rfl) (by exact dX2_looksRound_120) (by exact rfl) (pc' := 122) (S' := [zI x6, zR (some 9), zR (some 0)]) (by exact rfl) (zcn (by exact rfl))) ?_
    refine Eq.trans (zY_iald (by exact rfl) (by exact dX2_looksRound_122) (by exact rfl) (by exact rfl) (zcn (by exact rfl))) (zif ?_ rfl)
    · refine Eq.trans (zY_step (by exact rfl) (by exact dX2_looksRound_123) (by exact rfl) (pc' := 124) (S' := [zI 0, zI (σ 9 (nrm x6).toNat), zR (some 0)]) (by exact rfl) (zcn (by exact rfl))) ?_
      refine Eq.trans (zY_step (by exact rfl) (by exact dX2_looksRound_124) (by exact rfl) (pc' := 125) (S' := [zI 1, zI 0, zI (σ 9 (nrm x6).toNat), zR (some 0)]) (by exact rfl) (zcn (by exact rfl))) ?_
      exact zY_V (by exact rfl) (by exact dX2_looksRound_125) (by exact rfl) (as := [zI (σ 9 (nrm x6).toNat), zI 0, zI 1]) (S' := []) (by exact rfl) (by exact rfl) (by exact rfl) (by exact Nat.le_of_ble_eq_true rfl) (by exact Nat.le_of_ble_eq_true rfl) (by exact Nat.le_of_ble_eq_true rfl) (zcn (by exact rfl))
  · refine Eq.trans (zY_step (by exact rfl) (by exact dX2_looksRound_84) (by exact rfl) (pc' := 86) (S' := [zJ x4]) (by exact rfl) (zcn (by exact rfl))) ?_
    refine Eq.trans (zY_step (by exact rfl) (by exact dX2_looksRound_86) (by exact rfl) (pc' := 87) (S' := [zI x1, zJ x4]) (by exact rfl) (zcn (by exact rfl))) ?_
    refine Eq.trans (zY_step (by exact rfl) (by exact dX2_looksRound_87) (by exact rfl) (pc' := 88) (S' := [zJ (nrm x1), zJ x4]) (by exact rfl) (zcn (by exact rfl))) ?_
    refine Eq.trans (zY_step (by exact rfl) (by exact dX2_looksRound_88) (by exact rfl) (pc' := 89) (S' := [zJ (x4 * (nrm x1))]) (by exact rfl) (zcn (by exact rfl))) ?_
    refine Eq.trans (zY_step (by exact rfl) (by exact dX2_looksRound_89) (by exact rfl) (pc' := 91) (L' := [some (zR (some 0)), some (zI x1), some (zI x2), some (zI x3), some (zJ (x4 * (nrm x1))), none, some (zI x6), none, none]) (S' := []) (by exact rfl) (zcn (by exact rfl))) ?_
    refine Eq.trans (zY_step (by exact rfl) (by exact dX2_looksRound_91) (by exact rfl) (pc' := 92) (S' := [zR (some 0)]) (by exact rfl) (zcn (by exact rfl))) ?_
    refine Eq.trans (zY_step (by exact rfl) (by exact dX2_looksRound_92) (by exact rfl) (pc' := 93) (S' := [zR (some 0), zR (some 0)]) (by exact rfl) (zcn (by exact rfl))) ?_
    refine Eq.trans (zY_getR (by exact rfl) (by exact dX2_looksRound_93) (by exact rfl) (by exact rfl) (t := 6) (by exact rfl) (zcn (by exact rfl))) ?_
    refine Eq.trans (zY_getR (by exact rfl) (by exact dX2_looksRound_96) (by exact rfl) (by exact rfl) (t := 9) (by exact rfl) (zcn (by exact rfl))) ?_
    refine Eq.trans (zY_step (by exact rfl) (by exact dX2_looksRound_99) (by exact rfl) (pc' := 101) (S' := [zI x6, zR (some 9), zR (some 0)]) (by exact rfl) (zcn (by exact rfl))) ?_
    refine Eq.trans (zY_iald (by exact rfl) (by exact dX2_looksRound_101) (by exact rfl) (by exact rfl) (zcn (by exact rfl))) (zif ?_ rfl)
    · refine Eq.trans (zY_step (by exact rfl) (by exact dX2_looksRound_102) (by exact rfl) (pc' := 103) (S' := [zI 1, zI (σ 9 (nrm x6).toNat), zR (some 0)]) (by exact rfl) (zcn (by exact rfl))) ?_
      refine Eq.trans (zY_step (by exact rfl) (by exact dX2_looksRound_103) (by exact rfl) (pc' := 104) (S' := [zI x1, zI 1, zI (σ 9 (nrm x6).toNat), zR (some 0)]) (by exact rfl) (zcn (by exact rfl))) ?_
      refine Eq.trans (zY_step (by exact rfl) (by exact dX2_looksRound_104) (by exact rfl) (pc' := 105) (S' := [zI 1, zI x1, zI 1, zI (σ 9 (nrm x6).toNat), zR (some 0)]) (by exact rfl) (zcn (by exact rfl))) ?_
      refine Eq.trans (zY_step (by exact rfl) (by exact dX2_looksRound_105) (by exact rfl) (pc' := 106) (S' := [zI (x1 - 1), zI 1, zI (σ 9 (nrm x6).toNat), zR (some 0)]) (by exact rfl) (zcn (by exact rfl))) ?_
      exact zY_V (by exact rfl) (by exact dX2_looksRound_106) (by exact rfl) (as := [zI (σ 9 (nrm x6).toNat), zI 1, zI (x1 - 1)]) (S' := []) (by exact rfl) (by exact rfl) (by exact rfl) (by exact Nat.le_of_ble_eq_true rfl) (by exact Nat.le_of_ble_eq_true rfl) (by exact Nat.le_of_ble_eq_true rfl) (zcn (by exact rfl))
theorem b_X2_looksRound_172 (d : Nat) (y0 x2 x3 x4 x6 x8 : Int) (σ : zS) : zq d mX2_looksRound 172 [some (zR (some 0)), none, some (zI x2), some (zI x3), some (zJ x4), none, some (zJ x6), none, some (zI x8)] [zJ y0] σ = some (some (zJ y0), σ) := by
  exact zq_ret (by exact dX2_looksRound_172) (by exact rfl) (rv := some (zJ y0)) (by exact rfl)
theorem b_X2_looksRound_128 (d : Nat) (x1 x2 x3 x4 x6 : Int) (σ : zS) : zq d mX2_looksRound 128 [some (zR (some 0)), some (zI x1), some (zI x2), some (zI x3), some (zJ x4), none, some (zI x6), none, none] [] σ = zq d mX2_looksRound 60 [some (zR (some 0)), some (zI x1), some (zI x2), some (zI x3), some (zJ x4), none, some (zI (x6 + 1)), none, none] [] σ := by
  refine Eq.trans (zY_step (by exact rfl) (by exact dX2_looksRound_128) (by exact rfl) (pc' := 131) (L' := [some (zR (some 0)), some (zI x1), some (zI x2), some (zI x3), some (zJ x4), none, some (zI (x6 + 1)), none, none]) (S' := []) (by exact rfl) (zcn (by exact rfl))) ?_
  exact zY_step (by exact rfl) (by exact dX2_looksRound_131) (by exact rfl) (pc' := 60) (S' := []) (by exact rfl) (zcn (by exact rfl))
theorem b_X2_looksRound_109 (d : Nat) (x1 x2 x3 x4 x6 : Int) (σ : zS) : zq d mX2_looksRound 109 [some (zR (some 0)), some (zI x1), some (zI x2), some (zI x3), some (zJ x4), none, some (zI x6), none, none] [] σ = zq d mX2_looksRound 128 [some (zR (some 0)), some (zI x1), some (zI x2), some (zI x3), some (zJ x4), none, some (zI x6), none, none] [] σ := by
  exact zY_step (by exact rfl) (by exact dX2_looksRound_109) (by exact rfl) (pc' := 128) (S' := []) (by exact rfl) (zcn (by exact rfl))
theorem e_X2_whatIs (d : Nat) (x1 x2 x3 : Int) (σ : zS) : zc (d + 1) mX2_whatIs [zR (some 0), zI x1, zI x2, zI x3] σ = (zc d mX2_shelfAt [zR (some 0), zI x1] σ).bind fun r => zq (d + 1) mX2_whatIs 5 [some (zR (some 0)), some (zI x1), some (zI x2), some (zI x3), none, none] (r.1.toList ++ []) r.2 := by
  refine Eq.trans (zc_zq (L := [some (zR (some 0)), some (zI x1), some (zI x2), some (zI x3), none, none]) (by exact rfl)) ?_
  refine Eq.trans (zY_step (by exact rfl) (by exact dX2_whatIs_0) (by exact rfl) (pc' := 1) (S' := [zR (some 0)]) (by exact rfl) (zcn (by exact rfl))) ?_
  refine Eq.trans (zY_step (by exact rfl) (by exact dX2_whatIs_1) (by exact rfl) (pc' := 2) (S' := [zI x1, zR (some 0)]) (by exact rfl) (zcn (by exact rfl))) ?_
  exact zY_V (by exact rfl) (by exact dX2_whatIs_2) (by exact rfl) (as := [zI x1]) (S' := []) (by exact rfl) (by exact rfl) (by exact rfl) (by exact Nat.le_of_ble_eq_true rfl) (by exact Nat.le_of_ble_eq_true rfl) (by exact Nat.le_of_ble_eq_true rfl) (zcn (by exact rfl))
theorem b_X2_whatIs_5 (d : Nat) (x1 x2 x3 : Int) {q5 : Nat} (hq5 : zSh q5) (σ : zS) : zq (d + 1) mX2_whatIs 5 [some (zR (some 0)), some (zI x1), some (zI x2), some (zI x3), none, none] [zR (some q5)] σ = (zc d mX0_isRow [zR (some 1), zI x2] σ).bind fun r => zq (d + 1) mX2_whatIs 20 [some (zR (some 0)), some (zI x1), some (zI x2), some (zI x3), some (zR (some q5)), none] (r.1.toList ++ []) r.2 := by
  refine Eq.trans (zY_step (by exact rfl) (by exact dX2_whatIs_5) (by exact rfl) (pc' := 7) (L' := [some (zR (some 0)), some (zI x1), some (zI x2), some (zI x3), some (zR (some q5)), none]) (S' := []) (by exact rfl) (zcn (by exact rfl))) ?_
  refine Eq.trans (zY_step (by exact rfl) (by exact dX2_whatIs_7) (by exact rfl) (pc' := 9) (S' := [zR (some q5)]) (by exact rfl) (zcn (by exact rfl))) ?_
  refine Eq.trans (zY_step (by exact rfl) (by exact dX2_whatIs_9) (by exact rfl) (pc' := 12) (S' := []) (by exact rfl) (zcn (by exact rfl))) ?_
  refine Eq.trans (zY_step (by exact rfl) (by exact dX2_whatIs_12) (by exact rfl) (pc' := 13) (S' := [zR (some 0)]) (by exact rfl) (zcn (by exact rfl))) ?_
  refine Eq.trans (zY_getR (by exact rfl) (by exact dX2_whatIs_13) (by exact rfl) (by exact rfl) (t := 1) (by exact rfl) (zcn (by exact rfl))) ?_
  refine Eq.trans (zY_step (by exact rfl) (by exact dX2_whatIs_16) (by exact rfl) (pc' := 17) (S' := [zI x2, zR (some 1)]) (by exact rfl) (zcn (by exact rfl))) ?_
  exact zY_V (by exact rfl) (by exact dX2_whatIs_17) (by exact rfl) (as := [zI x2]) (S' := []) (by exact rfl) (by exact rfl) (by exact zCo_k zCo1) (by exact Nat.le_of_ble_eq_true rfl) (by exact Nat.le_of_ble_eq_true rfl) (by exact Nat.le_of_ble_eq_true rfl) (zcn (by exact rfl))
theorem b_X2_whatIs_5_2 (d : Nat) (x1 x2 x3 : Int) (σ : zS) : zq d mX2_whatIs 5 [some (zR (some 0)), some (zI x1), some (zI x2), some (zI x3), none, none] [zR none] σ = some (some (zI ((-1))), σ) := by
  refine Eq.trans (zY_step (by exact rfl) (by exact dX2_whatIs_5) (by exact rfl) (pc' := 7) (L' := [some (zR (some 0)), some (zI x1), some (zI x2), some (zI x3), some (zR none), none]) (S' := []) (by exact rfl) (zcn (by exact rfl))) ?_
  refine Eq.trans (zY_step (by exact rfl) (by exact dX2_whatIs_7) (by exact rfl) (pc' := 9) (S' := [zR none]) (by exact rfl) (zcn (by exact rfl))) ?_
  refine Eq.trans (zY_step (by exact rfl) (by exact dX2_whatIs_9) (by exact rfl) (pc' := 32) (S' := []) (L2 := [none, none, none, none, none, none]) (by exact rfl) (by exact rfl)) ?_
  refine Eq.trans (zY_step (by exact rfl) (by exact dX2_whatIs_32) (by exact rfl) (pc' := 33) (S' := [zI ((-1))]) (by exact rfl) (zcn (by exact rfl))) ?_
  exact zq_ret (by exact dX2_whatIs_33) (by exact rfl) (rv := some (zI ((-1)))) (by exact rfl)
theorem b_X2_whatIs_20 (d : Nat) (y0 x1 x2 x3 : Int) {q5 : Nat} (hq5 : zSh q5) (σ : zS) : zq (d + 1) mX2_whatIs 20 [some (zR (some 0)), some (zI x1), some (zI x2), some (zI x3), some (zR (some q5)), none] [zI y0] σ = (if nrm y0 = 0 then some (some (zI ((-1))), σ) else (if nrm x3 < 0 then some (some (zI ((-1))), σ) else (if nrm x3 ≤ 1 then (zc d mX1_refusalUnless [zR (some q5), zI 2] σ).bind fun r => zq (d + 1) mX2_whatIs 40 [some (zR (some 0)), some (zI x1), some (zI x2), some (zI x3), some (zR (some q5)), none] (r.1.toList ++ []) r.2 else some (some (zI ((-1))), σ)))) := by
  refine Eq.trans (zY_if_eq (by exact rfl) (by exact dX2_whatIs_20) (t := 32) (by exact rfl) (a2 := nrm y0) (by exact rfl) (L1 := [none, none, none, none, none, none]) (by exact rfl) (zcn (by exact rfl))) (zif ?_ ?_)
  · refine Eq.trans (zY_step (by exact rfl) (by exact dX2_whatIs_32) (by exact rfl) (pc' := 33) (S' := [zI ((-1))]) (by exact rfl) (zcn (by exact rfl))) ?_
    exact zq_ret (by exact dX2_whatIs_33) (by exact rfl) (rv := some (zI ((-1)))) (by exact rfl)
  · refine Eq.trans (zY_step (by exact rfl) (by exact dX2_whatIs_23) (by exact rfl) (pc' := 24) (S' := [zI x3]) (by exact rfl) (zcn (by exact rfl))) ?_
    refine Eq.trans (zY_if_lt (by exact rfl) (by exact dX2_whatIs_24) (t := 32) (by exact rfl) (a2 := nrm x3) (by exact rfl) (L1 := [none, none, none, none, none, none]) (by exact rfl) (zcn (by exact rfl))) (zif ?_ ?_)
    · refine Eq.trans (zY_step (by exact rfl) (by exact dX2_whatIs_32) (by exact rfl) (pc' := 33) (S' := [zI ((-1))]) (by exact rfl) (zcn (by exact rfl))) ?_
      exact zq_ret (by exact dX2_whatIs_33) (by exact rfl) (rv := some (zI ((-1)))) (by exact rfl)
    · refine Eq.trans (zY_step (by exact rfl) (by exact dX2_whatIs_27) (by exact rfl) (pc' := 28) (S' := [zI x3]) (by exact rfl) (zcn (by exact rfl))) ?_
      refine Eq.trans (zY_step (by exact rfl) (by exact dX2_whatIs_28) (by exact rfl) (pc' := 29) (S' := [zI 1, zI x3]) (by exact rfl) (zcn (by exact rfl))) ?_
      refine Eq.trans (zY_ic_le (by exact rfl) (by exact dX2_whatIs_29) (t := 34) (by exact rfl) (a2 := nrm x3) (b2 := 1) (by exact rfl) (by decide) (L2 := [none, none, none, none, none, none]) (zcn (by exact rfl)) (by exact rfl)) (zif ?_ ?_)
      · refine Eq.trans (zY_step (by exact rfl) (by exact dX2_whatIs_34) (by exact rfl) (pc' := 36) (S' := [zR (some q5)]) (by exact rfl) (zcn (by exact rfl))) ?_
        refine Eq.trans (zY_step (by exact rfl) (by exact dX2_whatIs_36) (by exact rfl) (pc' := 37) (S' := [zI 2, zR (some q5)]) (by exact rfl) (zcn (by exact rfl))) ?_
        exact zY_V (by exact rfl) (by exact dX2_whatIs_37) (by exact rfl) (as := [zI 2]) (S' := []) (by exact rfl) (by exact rfl) (by exact zSh_k hq5) (by exact Nat.le_of_ble_eq_true rfl) (by exact Nat.le_of_ble_eq_true rfl) (by exact Nat.le_of_ble_eq_true rfl) (zcn (by exact rfl))
      · refine Eq.trans (zY_step (by exact rfl) (by exact dX2_whatIs_32) (by exact rfl) (pc' := 33) (S' := [zI ((-1))]) (by exact rfl) (zcn (by exact rfl))) ?_
        exact zq_ret (by exact dX2_whatIs_33) (by exact rfl) (rv := some (zI ((-1)))) (by exact rfl)
theorem b_X2_whatIs_40 (d : Nat) (y0 x1 x2 x3 : Int) {q5 : Nat} (hq5 : zSh q5) (σ : zS) : zq (d + 1) mX2_whatIs 40 [some (zR (some 0)), some (zI x1), some (zI x2), some (zI x3), some (zR (some q5)), none] [zI y0] σ = (if nrm y0 = 0 then (if ¬ nrm x3 = 0 then (zc d mX2_figuresAsTold [zR (some 0), zR (some q5), zI x2] σ).bind fun r => zq (d + 1) mX2_whatIs 71 [none, none, none, none, none, none] (r.1.toList ++ []) r.2 else (zc d mX2_kindsAsTold [zR (some 0), zR (some q5), zI x2] σ).bind fun r => zq (d + 1) mX2_whatIs 61 [some (zR (some 0)), some (zI x1), some (zI x2), some (zI x3), some (zR (some q5)), some (zI y0)] (r.1.toList ++ []) r.2) else some (some (zI y0), σ)) := by
  refine Eq.trans (zY_step (by exact rfl) (by exact dX2_whatIs_40) (by exact rfl) (pc' := 42) (L' := [some (zR (some 0)), some (zI x1), some (zI x2), some (zI x3), some (zR (some q5)), some (zI y0)]) (S' := []) (by exact rfl) (zcn (by exact rfl))) ?_
  refine Eq.trans (zY_step (by exact rfl) (by exact dX2_whatIs_42) (by exact rfl) (pc' := 44) (S' := [zI y0]) (by exact rfl) (zcn (by exact rfl))) ?_
  refine Eq.trans (zY_if_eq (by exact rfl) (by exact dX2_whatIs_44) (t := 50) (by exact rfl) (a2 := nrm y0) (by exact rfl) (zcn (by exact rfl)) (zcn (by exact rfl))) (zif ?_ ?_)
  · refine Eq.trans (zY_step (by exact rfl) (by exact dX2_whatIs_50) (by exact rfl) (pc' := 51) (S' := [zI x3]) (by exact rfl) (zcn (by exact rfl))) ?_
    refine Eq.trans (zY_if_ne (by exact rfl) (by exact dX2_whatIs_51) (t := 64) (by exact rfl) (a2 := nrm x3) (by exact rfl) (zcn (by exact rfl)) (zcn (by exact rfl))) (zif ?_ ?_)
    · refine Eq.trans (zY_step (by exact rfl) (by exact dX2_whatIs_64) (by exact rfl) (pc' := 65) (S' := [zR (some 0)]) (by exact rfl) (zcn (by exact rfl))) ?_
      refine Eq.trans (zY_step (by exact rfl) (by exact dX2_whatIs_65) (by exact rfl) (pc' := 67) (S' := [zR (some q5), zR (some 0)]) (by exact rfl) (zcn (by exact rfl))) ?_
      refine Eq.trans (zY_step (by exact rfl) (by exact dX2_whatIs_67) (by exact rfl) (pc' := 68) (S' := [zI x2, zR (some q5), zR (some 0)]) (by exact rfl) (zcn (by exact rfl))) ?_
      exact zY_V (by exact rfl) (by exact dX2_whatIs_68) (by exact rfl) (as := [zR (some q5), zI x2]) (S' := []) (by exact rfl) (by exact rfl) (by exact rfl) (by exact Nat.le_of_ble_eq_true rfl) (by exact Nat.le_of_ble_eq_true rfl) (by exact Nat.le_of_ble_eq_true rfl) (L2 := [none, none, none, none, none, none]) (by exact rfl)
    · refine Eq.trans (zY_step (by exact rfl) (by exact dX2_whatIs_54) (by exact rfl) (pc' := 55) (S' := [zR (some 0)]) (by exact rfl) (zcn (by exact rfl))) ?_
      refine Eq.trans (zY_step (by exact rfl) (by exact dX2_whatIs_55) (by exact rfl) (pc' := 57) (S' := [zR (some q5), zR (some 0)]) (by exact rfl) (zcn (by exact rfl))) ?_
      refine Eq.trans (zY_step (by exact rfl) (by exact dX2_whatIs_57) (by exact rfl) (pc' := 58) (S' := [zI x2, zR (some q5), zR (some 0)]) (by exact rfl) (zcn (by exact rfl))) ?_
      exact zY_V (by exact rfl) (by exact dX2_whatIs_58) (by exact rfl) (as := [zR (some q5), zI x2]) (S' := []) (by exact rfl) (by exact rfl) (by exact rfl) (by exact Nat.le_of_ble_eq_true rfl) (by exact Nat.le_of_ble_eq_true rfl) (by exact Nat.le_of_ble_eq_true rfl) (zcn (by exact rfl))
  · refine Eq.trans (zY_step (by exact rfl) (by exact dX2_whatIs_47) (by exact rfl) (pc' := 49) (S' := [zI y0]) (by exact rfl) (zcn (by exact rfl))) ?_
    exact zq_ret (by exact dX2_whatIs_49) (by exact rfl) (rv := some (zI y0)) (by exact rfl)
theorem b_X2_whatIs_71 (d : Nat) (y0 : Int) (σ : zS) : zq d mX2_whatIs 71 [none, none, none, none, none, none] [zI y0] σ = some (some (zI y0), σ) := by
  exact zq_ret (by exact dX2_whatIs_71) (by exact rfl) (rv := some (zI y0)) (by exact rfl)
theorem b_X2_whatIs_61 (d : Nat) (y0 x1 x2 x3 x5 : Int) {q5 : Nat} (hq5 : zSh q5) (σ : zS) : zq d mX2_whatIs 61 [some (zR (some 0)), some (zI x1), some (zI x2), some (zI x3), some (zR (some q5)), some (zI x5)] [zI y0] σ = some (some (zI y0), σ) := by
  refine Eq.trans (zY_step (by exact rfl) (by exact dX2_whatIs_61) (by exact rfl) (pc' := 71) (S' := [zI y0]) (L2 := [none, none, none, none, none, none]) (by exact rfl) (by exact rfl)) ?_
  exact zq_ret (by exact dX2_whatIs_71) (by exact rfl) (rv := some (zI y0)) (by exact rfl)
theorem e_X2_mean (d : Nat) (x1 : Int) (σ : zS) : zc (d + 1) mX2_mean [zR (some 0), zI x1] σ = (if nrm x1 < 0 then some (some (zJ 1000000001), σ) else (if nrm x1 ≤ 1 then (if ¬ nrm (σ 1 0) = 0 then (zc d mX0_allRoom [zR (some 1)] σ).bind fun r => zq (d + 1) mX2_mean 39 [some (zR (some 0)), some (zI x1)] (r.1.toList ++ []) r.2 else (zc d mX2_partOf [zJ 0, zJ 1, zI x1] σ).bind fun r => zq (d + 1) mX2_mean 29 [some (zR (some 0)), some (zI x1)] (r.1.toList ++ []) r.2) else some (some (zJ 1000000001), σ))) := by
  refine Eq.trans (zc_zq (L := [some (zR (some 0)), some (zI x1)]) (by exact rfl)) ?_
  refine Eq.trans (zY_step (by exact rfl) (by exact dX2_mean_0) (by exact rfl) (pc' := 1) (S' := [zI x1]) (by exact rfl) (zcn (by exact rfl))) ?_
  refine Eq.trans (zY_if_lt (by exact rfl) (by exact dX2_mean_1) (t := 9) (by exact rfl) (a2 := nrm x1) (by exact rfl) (L1 := [none, none]) (by exact rfl) (zcn (by exact rfl))) (zif ?_ ?_)
  · refine Eq.trans (zY_step (by exact rfl) (by exact dX2_mean_9) (by exact rfl) (pc' := 12) (S' := [zJ 1000000001]) (by exact rfl) (zcn (by exact rfl))) ?_
    exact zq_ret (by exact dX2_mean_12) (by exact rfl) (rv := some (zJ 1000000001)) (by exact rfl)
  · refine Eq.trans (zY_step (by exact rfl) (by exact dX2_mean_4) (by exact rfl) (pc' := 5) (S' := [zI x1]) (by exact rfl) (zcn (by exact rfl))) ?_
    refine Eq.trans (zY_step (by exact rfl) (by exact dX2_mean_5) (by exact rfl) (pc' := 6) (S' := [zI 1, zI x1]) (by exact rfl) (zcn (by exact rfl))) ?_
    refine Eq.trans (zY_ic_le (by exact rfl) (by exact dX2_mean_6) (t := 13) (by exact rfl) (a2 := nrm x1) (b2 := 1) (by exact rfl) (by decide) (L2 := [none, none]) (zcn (by exact rfl)) (by exact rfl)) (zif ?_ ?_)
    · refine Eq.trans (zY_step (by exact rfl) (by exact dX2_mean_13) (by exact rfl) (pc' := 14) (S' := [zR (some 0)]) (by exact rfl) (zcn (by exact rfl))) ?_
      refine Eq.trans (zY_getR (by exact rfl) (by exact dX2_mean_14) (by exact rfl) (by exact rfl) (t := 1) (by exact rfl) (zcn (by exact rfl))) ?_
      refine Eq.trans (zY_getI (by exact rfl) (by exact dX2_mean_17) (by exact rfl) (by exact zCo_k zCo1) (by exact zCo_r0 zCo1) (zcn (by exact rfl))) ?_
      refine Eq.trans (zY_if_ne (by exact rfl) (by exact dX2_mean_20) (t := 32) (by exact rfl) (a2 := nrm (σ 1 0)) (by exact rfl) (zcn (by exact rfl)) (zcn (by exact rfl))) (zif ?_ ?_)
      · refine Eq.trans (zY_step (by exact rfl) (by exact dX2_mean_32) (by exact rfl) (pc' := 33) (S' := [zR (some 0)]) (by exact rfl) (zcn (by exact rfl))) ?_
        refine Eq.trans (zY_getR (by exact rfl) (by exact dX2_mean_33) (by exact rfl) (by exact rfl) (t := 1) (by exact rfl) (zcn (by exact rfl))) ?_
        exact zY_V (by exact rfl) (by exact dX2_mean_36) (by exact rfl) (as := []) (S' := []) (by exact rfl) (by exact rfl) (by exact zCo_k zCo1) (by exact Nat.le_of_ble_eq_true rfl) (by exact Nat.le_of_ble_eq_true rfl) (by exact Nat.le_of_ble_eq_true rfl) (zcn (by exact rfl))
      · refine Eq.trans (zY_step (by exact rfl) (by exact dX2_mean_23) (by exact rfl) (pc' := 24) (S' := [zJ 0]) (by exact rfl) (zcn (by exact rfl))) ?_
        refine Eq.trans (zY_step (by exact rfl) (by exact dX2_mean_24) (by exact rfl) (pc' := 25) (S' := [zJ 1, zJ 0]) (by exact rfl) (zcn (by exact rfl))) ?_
        refine Eq.trans (zY_step (by exact rfl) (by exact dX2_mean_25) (by exact rfl) (pc' := 26) (S' := [zI x1, zJ 1, zJ 0]) (by exact rfl) (zcn (by exact rfl))) ?_
        exact zY_S (by exact rfl) (by exact dX2_mean_26) (by exact rfl) (by exact Or.inl rfl) (as := [zJ 0, zJ 1, zI x1]) (S' := []) (by exact rfl) (by exact rfl) (by exact Nat.le_of_ble_eq_true rfl) (by exact Nat.le_of_ble_eq_true rfl) (zcn (by exact rfl))
    · refine Eq.trans (zY_step (by exact rfl) (by exact dX2_mean_9) (by exact rfl) (pc' := 12) (S' := [zJ 1000000001]) (by exact rfl) (zcn (by exact rfl))) ?_
      exact zq_ret (by exact dX2_mean_12) (by exact rfl) (rv := some (zJ 1000000001)) (by exact rfl)
theorem b_X2_mean_39 (d : Nat) (y0 x1 : Int) (σ : zS) : zq (d + 1) mX2_mean 39 [some (zR (some 0)), some (zI x1)] [zI y0] σ = (zc d mX2_partOf [zJ (nrm y0), zJ (nrm (σ 1 0)), zI x1] σ).bind fun r => zq (d + 1) mX2_mean 52 [none, none] (r.1.toList ++ []) r.2 := by
  refine Eq.trans (zY_step (by exact rfl) (by exact dX2_mean_39) (by exact rfl) (pc' := 40) (S' := [zJ (nrm y0)]) (by exact rfl) (zcn (by exact rfl))) ?_
  refine Eq.trans (zY_step (by exact rfl) (by exact dX2_mean_40) (by exact rfl) (pc' := 41) (S' := [zR (some 0), zJ (nrm y0)]) (by exact rfl) (zcn (by exact rfl))) ?_
  refine Eq.trans (zY_getR (by exact rfl) (by exact dX2_mean_41) (by exact rfl) (by exact rfl) (t := 1) (by exact rfl) (zcn (by exact rfl))) ?_
  refine Eq.trans (zY_getI (by exact rfl) (by exact dX2_mean_44) (by exact rfl) (by exact zCo_k zCo1) (by exact zCo_r0 zCo1) (zcn (by exact rfl))) ?_
  refine Eq.trans (zY_step (by exact rfl) (by exact dX2_mean_47) (by exact rfl) (pc' := 48) (S' := [zJ (nrm (σ 1 0)), zJ (nrm y0)]) (by exact rfl) (zcn (by exact rfl))) ?_
  refine Eq.trans (zY_step (by exact rfl) (by exact dX2_mean_48) (by exact rfl) (pc' := 49) (S' := [zI x1, zJ (nrm (σ 1 0)), zJ (nrm y0)]) (by exact rfl) (zcn (by exact rfl))) ?_
  exact zY_S (by exact rfl) (by exact dX2_mean_49) (by exact rfl) (by exact Or.inl rfl) (as := [zJ (nrm y0), zJ (nrm (σ 1 0)), zI x1]) (S' := []) (by exact rfl) (by exact rfl) (by exact Nat.le_of_ble_eq_true rfl) (by exact Nat.le_of_ble_eq_true rfl) (L2 := [none, none]) (by exact rfl)
theorem b_X2_mean_29 (d : Nat) (y0 x1 : Int) (σ : zS) : zq d mX2_mean 29 [some (zR (some 0)), some (zI x1)] [zJ y0] σ = some (some (zJ y0), σ) := by
  refine Eq.trans (zY_step (by exact rfl) (by exact dX2_mean_29) (by exact rfl) (pc' := 52) (S' := [zJ y0]) (L2 := [none, none]) (by exact rfl) (by exact rfl)) ?_
  exact zq_ret (by exact dX2_mean_52) (by exact rfl) (rv := some (zJ y0)) (by exact rfl)
theorem b_X2_mean_52 (d : Nat) (y0 : Int) (σ : zS) : zq d mX2_mean 52 [none, none] [zJ y0] σ = some (some (zJ y0), σ) := by
  exact zq_ret (by exact dX2_mean_52) (by exact rfl) (rv := some (zJ y0)) (by exact rfl)
theorem e_X2_tightest (d : Nat) (x1 : Int) (σ : zS) : zc d mX2_tightest [zR (some 0), zI x1] σ = (if nrm x1 < 0 then some (some (zI ((-1))), σ) else (if nrm x1 ≤ 1 then zq d mX2_tightest 20 [some (zR (some 0)), some (zI x1), some (zI ((-4))), some (zI ((-4))), some (zI 0), none] [] σ else some (some (zI ((-1))), σ))) := by
  refine Eq.trans (zc_zq (L := [some (zR (some 0)), some (zI x1), none, none, none, none]) (by exact rfl)) ?_
  refine Eq.trans (zY_step (by exact rfl) (by exact dX2_tightest_0) (by exact rfl) (pc' := 1) (S' := [zI x1]) (by exact rfl) (zcn (by exact rfl))) ?_
  refine Eq.trans (zY_if_lt (by exact rfl) (by exact dX2_tightest_1) (t := 9) (by exact rfl) (a2 := nrm x1) (by exact rfl) (L1 := [none, none, none, none, none, none]) (by exact rfl) (zcn (by exact rfl))) (zif ?_ ?_)
  · refine Eq.trans (zY_step (by exact rfl) (by exact dX2_tightest_9) (by exact rfl) (pc' := 10) (S' := [zI ((-1))]) (by exact rfl) (zcn (by exact rfl))) ?_
    exact zq_ret (by exact dX2_tightest_10) (by exact rfl) (rv := some (zI ((-1)))) (by exact rfl)
  · refine Eq.trans (zY_step (by exact rfl) (by exact dX2_tightest_4) (by exact rfl) (pc' := 5) (S' := [zI x1]) (by exact rfl) (zcn (by exact rfl))) ?_
    refine Eq.trans (zY_step (by exact rfl) (by exact dX2_tightest_5) (by exact rfl) (pc' := 6) (S' := [zI 1, zI x1]) (by exact rfl) (zcn (by exact rfl))) ?_
    refine Eq.trans (zY_ic_le (by exact rfl) (by exact dX2_tightest_6) (t := 11) (by exact rfl) (a2 := nrm x1) (b2 := 1) (by exact rfl) (by decide) (L2 := [none, none, none, none, none, none]) (zcn (by exact rfl)) (by exact rfl)) (zif ?_ ?_)
    · refine Eq.trans (zY_step (by exact rfl) (by exact dX2_tightest_11) (by exact rfl) (pc' := 13) (S' := [zI ((-4))]) (by exact rfl) (zcn (by exact rfl))) ?_
      refine Eq.trans (zY_step (by exact rfl) (by exact dX2_tightest_13) (by exact rfl) (pc' := 14) (L' := [some (zR (some 0)), some (zI x1), some (zI ((-4))), none, none, none]) (S' := []) (by exact rfl) (zcn (by exact rfl))) ?_
      refine Eq.trans (zY_step (by exact rfl) (by exact dX2_tightest_14) (by exact rfl) (pc' := 16) (S' := [zI ((-4))]) (by exact rfl) (zcn (by exact rfl))) ?_
      refine Eq.trans (zY_step (by exact rfl) (by exact dX2_tightest_16) (by exact rfl) (pc' := 17) (L' := [some (zR (some 0)), some (zI x1), some (zI ((-4))), some (zI ((-4))), none, none]) (S' := []) (by exact rfl) (zcn (by exact rfl))) ?_
      refine Eq.trans (zY_step (by exact rfl) (by exact dX2_tightest_17) (by exact rfl) (pc' := 18) (S' := [zI 0]) (by exact rfl) (zcn (by exact rfl))) ?_
      exact zY_step (by exact rfl) (by exact dX2_tightest_18) (by exact rfl) (pc' := 20) (L' := [some (zR (some 0)), some (zI x1), some (zI ((-4))), some (zI ((-4))), some (zI 0), none]) (S' := []) (by exact rfl) (zcn (by exact rfl))
    · refine Eq.trans (zY_step (by exact rfl) (by exact dX2_tightest_9) (by exact rfl) (pc' := 10) (S' := [zI ((-1))]) (by exact rfl) (zcn (by exact rfl))) ?_
      exact zq_ret (by exact dX2_tightest_10) (by exact rfl) (rv := some (zI ((-1)))) (by exact rfl)
theorem b_X2_tightest_20 (d : Nat) (x1 x2 x3 x4 : Int) (σ : zS) : zq (d + 1) mX2_tightest 20 [some (zR (some 0)), some (zI x1), some (zI x2), some (zI x3), some (zI x4), none] [] σ = (if nrm (σ 1 0) ≤ nrm x4 then (if ¬ nrm x1 = 0 then some (some (zI x3), σ) else some (some (zI x2), σ)) else (zc d mX0_roomAt [zR (some 1), zI x4] σ).bind fun r => zq (d + 1) mX2_tightest 41 [some (zR (some 0)), some (zI x1), some (zI x2), some (zI x3), some (zI x4), none] (r.1.toList ++ []) r.2) := by
  refine Eq.trans (zY_step (by exact rfl) (by exact dX2_tightest_20) (by exact rfl) (pc' := 22) (S' := [zI x4]) (by exact rfl) (zcn (by exact rfl))) ?_
  refine Eq.trans (zY_step (by exact rfl) (by exact dX2_tightest_22) (by exact rfl) (pc' := 23) (S' := [zR (some 0), zI x4]) (by exact rfl) (zcn (by exact rfl))) ?_
  refine Eq.trans (zY_getR (by exact rfl) (by exact dX2_tightest_23) (by exact rfl) (by exact rfl) (t := 1) (by exact rfl) (zcn (by exact rfl))) ?_
  refine Eq.trans (zY_getI (by exact rfl) (by exact dX2_tightest_26) (by exact rfl) (by exact zCo_k zCo1) (by exact zCo_r0 zCo1) (zcn (by exact rfl))) ?_
  refine Eq.trans (zY_ic_ge (by exact rfl) (by exact dX2_tightest_29) (t := 67) (by exact rfl) (a2 := nrm x4) (b2 := nrm (σ 1 0)) (by exact rfl) (by exact rfl) (zcn (by exact rfl)) (zcn (by exact rfl))) (zif ?_ ?_)
  · refine Eq.trans (zY_step (by exact rfl) (by exact dX2_tightest_67) (by exact rfl) (pc' := 68) (S' := [zI x1]) (by exact rfl) (zcn (by exact rfl))) ?_
    refine Eq.trans (zY_if_ne (by exact rfl) (by exact dX2_tightest_68) (t := 75) (by exact rfl) (a2 := nrm x1) (by exact rfl) (zcn (by exact rfl)) (zcn (by exact rfl))) (zif ?_ ?_)
    · refine Eq.trans (zY_step (by exact rfl) (by exact dX2_tightest_75) (by exact rfl) (pc' := 76) (S' := [zI x3]) (L2 := [none, none, none, none, none, none]) (by exact rfl) (by exact rfl)) ?_
      exact zq_ret (by exact dX2_tightest_76) (by exact rfl) (rv := some (zI x3)) (by exact rfl)
    · refine Eq.trans (zY_step (by exact rfl) (by exact dX2_tightest_71) (by exact rfl) (pc' := 72) (S' := [zI x2]) (by exact rfl) (zcn (by exact rfl))) ?_
      refine Eq.trans (zY_step (by exact rfl) (by exact dX2_tightest_72) (by exact rfl) (pc' := 76) (S' := [zI x2]) (L2 := [none, none, none, none, none, none]) (by exact rfl) (by exact rfl)) ?_
      exact zq_ret (by exact dX2_tightest_76) (by exact rfl) (rv := some (zI x2)) (by exact rfl)
  · refine Eq.trans (zY_step (by exact rfl) (by exact dX2_tightest_32) (by exact rfl) (pc' := 33) (S' := [zR (some 0)]) (by exact rfl) (zcn (by exact rfl))) ?_
    refine Eq.trans (zY_getR (by exact rfl) (by exact dX2_tightest_33) (by exact rfl) (by exact rfl) (t := 1) (by exact rfl) (zcn (by exact rfl))) ?_
    refine Eq.trans (zY_step (by exact rfl) (by exact dX2_tightest_36) (by exact rfl) (pc' := 38) (S' := [zI x4, zR (some 1)]) (by exact rfl) (zcn (by exact rfl))) ?_
    exact zY_V (by exact rfl) (by exact dX2_tightest_38) (by exact rfl) (as := [zI x4]) (S' := []) (by exact rfl) (by exact rfl) (by exact zCo_k zCo1) (by exact Nat.le_of_ble_eq_true rfl) (by exact Nat.le_of_ble_eq_true rfl) (by exact Nat.le_of_ble_eq_true rfl) (zcn (by exact rfl))
theorem b_X2_tightest_41 (d : Nat) (y0 x1 x2 x3 x4 : Int) (σ : zS) : zq d mX2_tightest 41 [some (zR (some 0)), some (zI x1), some (zI x2), some (zI x3), some (zI x4), none] [zI y0] σ = (if nrm x2 = (-4) then zq d mX2_tightest 55 [some (zR (some 0)), some (zI x1), none, none, some (zI x4), some (zI y0)] [] σ else (if nrm x3 ≤ nrm y0 then zq d mX2_tightest 61 [some (zR (some 0)), some (zI x1), some (zI x2), some (zI x3), some (zI x4), none] [] σ else zq d mX2_tightest 55 [some (zR (some 0)), some (zI x1), none, none, some (zI x4), some (zI y0)] [] σ)) := by
  refine Eq.trans (zY_step (by exact rfl) (by exact dX2_tightest_41) (by exact rfl) (pc' := 43) (L' := [some (zR (some 0)), some (zI x1), some (zI x2), some (zI x3), some (zI x4), some (zI y0)]) (S' := []) (by exact rfl) (zcn (by exact rfl))) ?_
  refine Eq.trans (zY_step (by exact rfl) (by exact dX2_tightest_43) (by exact rfl) (pc' := 44) (S' := [zI x2]) (by exact rfl) (zcn (by exact rfl))) ?_
  refine Eq.trans (zY_step (by exact rfl) (by exact dX2_tightest_44) (by exact rfl) (pc' := 46) (S' := [zI ((-4)), zI x2]) (by exact rfl) (zcn (by exact rfl))) ?_
  refine Eq.trans (zY_ic_eq (by exact rfl) (by exact dX2_tightest_46) (t := 55) (by exact rfl) (a2 := nrm x2) (b2 := (-4)) (by exact rfl) (by decide) (L1 := [some (zR (some 0)), some (zI x1), none, none, some (zI x4), some (zI y0)]) (by exact rfl) (zcn (by exact rfl))) (zif ?_ ?_)
  · exact rfl
  · refine Eq.trans (zY_step (by exact rfl) (by exact dX2_tightest_49) (by exact rfl) (pc' := 51) (S' := [zI y0]) (by exact rfl) (zcn (by exact rfl))) ?_
    refine Eq.trans (zY_step (by exact rfl) (by exact dX2_tightest_51) (by exact rfl) (pc' := 52) (S' := [zI x3, zI y0]) (by exact rfl) (zcn (by exact rfl))) ?_
    refine Eq.trans (zY_ic_ge (by exact rfl) (by exact dX2_tightest_52) (t := 61) (by exact rfl) (a2 := nrm y0) (b2 := nrm x3) (by exact rfl) (by exact rfl) (L1 := [some (zR (some 0)), some (zI x1), some (zI x2), some (zI x3), some (zI x4), none]) (L2 := [some (zR (some 0)), some (zI x1), none, none, some (zI x4), some (zI y0)]) (by exact rfl) (by exact rfl)) (zif ?_ ?_)
    · exact rfl
    · exact rfl
theorem b_X2_tightest_55 (d : Nat) (x1 x4 x5 : Int) (σ : zS) : zq d mX2_tightest 55 [some (zR (some 0)), some (zI x1), none, none, some (zI x4), some (zI x5)] [] σ = zq d mX2_tightest 61 [some (zR (some 0)), some (zI x1), some (zI x4), some (zI x5), some (zI x4), none] [] σ := by
  refine Eq.trans (zY_step (by exact rfl) (by exact dX2_tightest_55) (by exact rfl) (pc' := 57) (S' := [zI x5]) (by exact rfl) (zcn (by exact rfl))) ?_
  refine Eq.trans (zY_step (by exact rfl) (by exact dX2_tightest_57) (by exact rfl) (pc' := 58) (L' := [some (zR (some 0)), some (zI x1), none, some (zI x5), some (zI x4), some (zI x5)]) (S' := []) (by exact rfl) (zcn (by exact rfl))) ?_
  refine Eq.trans (zY_step (by exact rfl) (by exact dX2_tightest_58) (by exact rfl) (pc' := 60) (S' := [zI x4]) (by exact rfl) (zcn (by exact rfl))) ?_
  exact zY_step (by exact rfl) (by exact dX2_tightest_60) (by exact rfl) (pc' := 61) (L' := [some (zR (some 0)), some (zI x1), some (zI x4), some (zI x5), some (zI x4), some (zI x5)]) (S' := []) (L2 := [some (zR (some 0)), some (zI x1), some (zI x4), some (zI x5), some (zI x4), none]) (by exact rfl) (by exact rfl)
theorem b_X2_tightest_61 (d : Nat) (x1 x2 x3 x4 : Int) (σ : zS) : zq d mX2_tightest 61 [some (zR (some 0)), some (zI x1), some (zI x2), some (zI x3), some (zI x4), none] [] σ = zq d mX2_tightest 20 [some (zR (some 0)), some (zI x1), some (zI x2), some (zI x3), some (zI (x4 + 1)), none] [] σ := by
  refine Eq.trans (zY_step (by exact rfl) (by exact dX2_tightest_61) (by exact rfl) (pc' := 64) (L' := [some (zR (some 0)), some (zI x1), some (zI x2), some (zI x3), some (zI (x4 + 1)), none]) (S' := []) (by exact rfl) (zcn (by exact rfl))) ?_
  exact zY_step (by exact rfl) (by exact dX2_tightest_64) (by exact rfl) (pc' := 20) (S' := []) (by exact rfl) (zcn (by exact rfl))
theorem e_X2_forged (d : Nat) (x1 : Int) (σ : zS) : zc (d + 1) mX2_forged [zR (some 0), zI x1] σ = (zc d mX2_shelfAt [zR (some 0), zI x1] σ).bind fun r => zq (d + 1) mX2_forged 5 [some (zR (some 0)), some (zI x1), none, none, none, none] (r.1.toList ++ []) r.2 := by
  refine Eq.trans (zc_zq (L := [some (zR (some 0)), some (zI x1), none, none, none, none]) (by exact rfl)) ?_
  refine Eq.trans (zY_step (by exact rfl) (by exact dX2_forged_0) (by exact rfl) (pc' := 1) (S' := [zR (some 0)]) (by exact rfl) (zcn (by exact rfl))) ?_
  refine Eq.trans (zY_step (by exact rfl) (by exact dX2_forged_1) (by exact rfl) (pc' := 2) (S' := [zI x1, zR (some 0)]) (by exact rfl) (zcn (by exact rfl))) ?_
  exact zY_V (by exact rfl) (by exact dX2_forged_2) (by exact rfl) (as := [zI x1]) (S' := []) (by exact rfl) (by exact rfl) (by exact rfl) (by exact Nat.le_of_ble_eq_true rfl) (by exact Nat.le_of_ble_eq_true rfl) (by exact Nat.le_of_ble_eq_true rfl) (zcn (by exact rfl))
theorem b_X2_forged_5 (d : Nat) (x1 : Int) {q5 : Nat} (hq5 : zSh q5) (σ : zS) : zq (d + 1) mX2_forged 5 [some (zR (some 0)), some (zI x1), none, none, none, none] [zR (some q5)] σ = (zc d mX1_refusalUnless [zR (some q5), zI 2] σ).bind fun r => zq (d + 1) mX2_forged 17 [some (zR (some 0)), some (zI x1), some (zR (some q5)), none, none, none] (r.1.toList ++ []) r.2 := by
  refine Eq.trans (zY_step (by exact rfl) (by exact dX2_forged_5) (by exact rfl) (pc' := 6) (L' := [some (zR (some 0)), some (zI x1), some (zR (some q5)), none, none, none]) (S' := []) (by exact rfl) (zcn (by exact rfl))) ?_
  refine Eq.trans (zY_step (by exact rfl) (by exact dX2_forged_6) (by exact rfl) (pc' := 7) (S' := [zR (some q5)]) (by exact rfl) (zcn (by exact rfl))) ?_
  refine Eq.trans (zY_step (by exact rfl) (by exact dX2_forged_7) (by exact rfl) (pc' := 12) (S' := []) (by exact rfl) (zcn (by exact rfl))) ?_
  refine Eq.trans (zY_step (by exact rfl) (by exact dX2_forged_12) (by exact rfl) (pc' := 13) (S' := [zR (some q5)]) (by exact rfl) (zcn (by exact rfl))) ?_
  refine Eq.trans (zY_step (by exact rfl) (by exact dX2_forged_13) (by exact rfl) (pc' := 14) (S' := [zI 2, zR (some q5)]) (by exact rfl) (zcn (by exact rfl))) ?_
  exact zY_V (by exact rfl) (by exact dX2_forged_14) (by exact rfl) (as := [zI 2]) (S' := []) (by exact rfl) (by exact rfl) (by exact zSh_k hq5) (by exact Nat.le_of_ble_eq_true rfl) (by exact Nat.le_of_ble_eq_true rfl) (by exact Nat.le_of_ble_eq_true rfl) (zcn (by exact rfl))
theorem b_X2_forged_5_2 (d : Nat) (x1 : Int) (σ : zS) : zq d mX2_forged 5 [some (zR (some 0)), some (zI x1), none, none, none, none] [zR none] σ = some (some (zI ((-1))), σ) := by
  refine Eq.trans (zY_step (by exact rfl) (by exact dX2_forged_5) (by exact rfl) (pc' := 6) (L' := [some (zR (some 0)), some (zI x1), some (zR none), none, none, none]) (S' := []) (by exact rfl) (zcn (by exact rfl))) ?_
  refine Eq.trans (zY_step (by exact rfl) (by exact dX2_forged_6) (by exact rfl) (pc' := 7) (S' := [zR none]) (by exact rfl) (zcn (by exact rfl))) ?_
  refine Eq.trans (zY_step (by exact rfl) (by exact dX2_forged_7) (by exact rfl) (pc' := 10) (S' := []) (by exact rfl) (zcn (by exact rfl))) ?_
  refine Eq.trans (zY_step (by exact rfl) (by exact dX2_forged_10) (by exact rfl) (pc' := 11) (S' := [zI ((-1))]) (by exact rfl) (zcn (by exact rfl))) ?_
  exact zq_ret (by exact dX2_forged_11) (by exact rfl) (rv := some (zI ((-1)))) (by exact rfl)
theorem b_X2_forged_17 (d : Nat) (y0 x1 : Int) {q5 : Nat} (hq5 : zSh q5) (σ : zS) : zq d mX2_forged 17 [some (zR (some 0)), some (zI x1), some (zR (some q5)), none, none, none] [zI y0] σ = (if nrm y0 = 0 then zq d mX2_forged 27 [some (zR (some 0)), none, some (zR (some q5)), none, some (zI 0), none] [] σ else some (some (zI y0), σ)) := by
  refine Eq.trans (zY_step (by exact rfl) (by exact dX2_forged_17) (by exact rfl) (pc' := 18) (L' := [some (zR (some 0)), some (zI x1), some (zR (some q5)), some (zI y0), none, none]) (S' := []) (by exact rfl) (zcn (by exact rfl))) ?_
  refine Eq.trans (zY_step (by exact rfl) (by exact dX2_forged_18) (by exact rfl) (pc' := 19) (S' := [zI y0]) (by exact rfl) (zcn (by exact rfl))) ?_
  refine Eq.trans (zY_if_eq (by exact rfl) (by exact dX2_forged_19) (t := 24) (by exact rfl) (a2 := nrm y0) (by exact rfl) (zcn (by exact rfl)) (zcn (by exact rfl))) (zif ?_ ?_)
  · refine Eq.trans (zY_step (by exact rfl) (by exact dX2_forged_24) (by exact rfl) (pc' := 25) (S' := [zI 0]) (by exact rfl) (zcn (by exact rfl))) ?_
    exact zY_step (by exact rfl) (by exact dX2_forged_25) (by exact rfl) (pc' := 27) (L' := [some (zR (some 0)), some (zI x1), some (zR (some q5)), some (zI y0), some (zI 0), none]) (S' := []) (L2 := [some (zR (some 0)), none, some (zR (some q5)), none, some (zI 0), none]) (by exact rfl) (by exact rfl)
  · refine Eq.trans (zY_step (by exact rfl) (by exact dX2_forged_22) (by exact rfl) (pc' := 23) (S' := [zI y0]) (by exact rfl) (zcn (by exact rfl))) ?_
    exact zq_ret (by exact dX2_forged_23) (by exact rfl) (rv := some (zI y0)) (by exact rfl)
theorem b_X2_forged_27 (d : Nat) (x4 : Int) {q5 : Nat} (hq5 : zSh q5) (σ : zS) : zq (d + 1) mX2_forged 27 [some (zR (some 0)), none, some (zR (some q5)), none, some (zI x4), none] [] σ = (if nrm (σ q5 4) ≤ nrm x4 then some (some (zI ((-4))), σ) else (if zix x4 100 then (zc d mX0_isRow [zR (some 1), zI x4] σ).bind fun r => zq (d + 1) mX2_forged 54 [some (zR (some 0)), none, some (zR (some q5)), none, some (zI x4), some (zI (σ (q5 + 1) (nrm x4).toNat))] (r.1.toList ++ []) r.2 else none)) := by
  refine Eq.trans (zY_step (by exact rfl) (by exact dX2_forged_27) (by exact rfl) (pc' := 29) (S' := [zI x4]) (by exact rfl) (zcn (by exact rfl))) ?_
  refine Eq.trans (zY_step (by exact rfl) (by exact dX2_forged_29) (by exact rfl) (pc' := 30) (S' := [zR (some q5), zI x4]) (by exact rfl) (zcn (by exact rfl))) ?_
  refine Eq.trans (zY_getI (by exact rfl) (by exact dX2_forged_30) (by exact rfl) (by exact zSh_k hq5) (by exact zSh_r4 hq5) (zcn (by exact rfl))) ?_
  refine Eq.trans (zY_ic_ge (by exact rfl) (by exact dX2_forged_33) (t := 85) (by exact rfl) (a2 := nrm x4) (b2 := nrm (σ q5 4)) (by exact rfl) (by exact rfl) (zcn (by exact rfl)) (zcn (by exact rfl))) (zif ?_ ?_)
  · refine Eq.trans (zY_step (by exact rfl) (by exact dX2_forged_85) (by exact rfl) (pc' := 87) (S' := [zI ((-4))]) (by exact rfl) (zcn (by exact rfl))) ?_
    exact zq_ret (by exact dX2_forged_87) (by exact rfl) (rv := some (zI ((-4)))) (by exact rfl)
  · refine Eq.trans (zY_step (by exact rfl) (by exact dX2_forged_36) (by exact rfl) (pc' := 37) (S' := [zR (some q5)]) (by exact rfl) (zcn (by exact rfl))) ?_
    refine Eq.trans (zY_getR (by exact rfl) (by exact dX2_forged_37) (by exact rfl) (by exact zSh_k hq5) (by exact zSh_r5 hq5) (zcn (by exact rfl))) ?_
    refine Eq.trans (zY_step (by exact rfl) (by exact dX2_forged_40) (by exact rfl) (pc' := 42) (S' := [zI x4, zR (some (q5 + 1))]) (by exact rfl) (zcn (by exact rfl))) ?_
    refine Eq.trans (zY_iald (by exact rfl) (by exact dX2_forged_42) (by exact zSh_a1 hq5) (by exact zSh_n1 hq5) (zcn (by exact rfl))) (zif ?_ rfl)
    · refine Eq.trans (zY_step (by exact rfl) (by exact dX2_forged_43) (by exact rfl) (pc' := 45) (L' := [some (zR (some 0)), none, some (zR (some q5)), none, some (zI x4), some (zI (σ (q5 + 1) (nrm x4).toNat))]) (S' := []) (by exact rfl) (zcn (by exact rfl))) ?_
      refine Eq.trans (zY_step (by exact rfl) (by exact dX2_forged_45) (by exact rfl) (pc' := 46) (S' := [zR (some 0)]) (by exact rfl) (zcn (by exact rfl))) ?_
      refine Eq.trans (zY_getR (by exact rfl) (by exact dX2_forged_46) (by exact rfl) (by exact rfl) (t := 1) (by exact rfl) (zcn (by exact rfl))) ?_
      refine Eq.trans (zY_step (by exact rfl) (by exact dX2_forged_49) (by exact rfl) (pc' := 51) (S' := [zI x4, zR (some 1)]) (by exact rfl) (zcn (by exact rfl))) ?_
      exact zY_V (by exact rfl) (by exact dX2_forged_51) (by exact rfl) (as := [zI x4]) (S' := []) (by exact rfl) (by exact rfl) (by exact zCo_k zCo1) (by exact Nat.le_of_ble_eq_true rfl) (by exact Nat.le_of_ble_eq_true rfl) (by exact Nat.le_of_ble_eq_true rfl) (zcn (by exact rfl))
theorem b_X2_forged_54 (d : Nat) (y0 x4 x5 : Int) {q5 : Nat} (hq5 : zSh q5) (σ : zS) : zq (d + 1) mX2_forged 54 [some (zR (some 0)), none, some (zR (some q5)), none, some (zI x4), some (zI x5)] [zI y0] σ = (if nrm y0 = 0 then some (some (zI x4), σ) else (if nrm x5 < 0 then some (some (zI x4), σ) else (zc d mX0_canAt [zR (some 1), zI x4] σ).bind fun r => zq (d + 1) mX2_forged 73 [some (zR (some 0)), none, some (zR (some q5)), none, some (zI x4), some (zI x5)] (r.1.toList ++ [zI x5]) r.2)) := by
  refine Eq.trans (zY_if_eq (by exact rfl) (by exact dX2_forged_54) (t := 76) (by exact rfl) (a2 := nrm y0) (by exact rfl) (L1 := [none, none, none, none, some (zI x4), none]) (by exact rfl) (zcn (by exact rfl))) (zif ?_ ?_)
  · refine Eq.trans (zY_step (by exact rfl) (by exact dX2_forged_76) (by exact rfl) (pc' := 78) (S' := [zI x4]) (by exact rfl) (zcn (by exact rfl))) ?_
    exact zq_ret (by exact dX2_forged_78) (by exact rfl) (rv := some (zI x4)) (by exact rfl)
  · refine Eq.trans (zY_step (by exact rfl) (by exact dX2_forged_57) (by exact rfl) (pc' := 59) (S' := [zI x5]) (by exact rfl) (zcn (by exact rfl))) ?_
    refine Eq.trans (zY_if_lt (by exact rfl) (by exact dX2_forged_59) (t := 76) (by exact rfl) (a2 := nrm x5) (by exact rfl) (L1 := [none, none, none, none, some (zI x4), none]) (by exact rfl) (zcn (by exact rfl))) (zif ?_ ?_)
    · refine Eq.trans (zY_step (by exact rfl) (by exact dX2_forged_76) (by exact rfl) (pc' := 78) (S' := [zI x4]) (by exact rfl) (zcn (by exact rfl))) ?_
      exact zq_ret (by exact dX2_forged_78) (by exact rfl) (rv := some (zI x4)) (by exact rfl)
    · refine Eq.trans (zY_step (by exact rfl) (by exact dX2_forged_62) (by exact rfl) (pc' := 64) (S' := [zI x5]) (by exact rfl) (zcn (by exact rfl))) ?_
      refine Eq.trans (zY_step (by exact rfl) (by exact dX2_forged_64) (by exact rfl) (pc' := 65) (S' := [zR (some 0), zI x5]) (by exact rfl) (zcn (by exact rfl))) ?_
      refine Eq.trans (zY_getR (by exact rfl) (by exact dX2_forged_65) (by exact rfl) (by exact rfl) (t := 1) (by exact rfl) (zcn (by exact rfl))) ?_
      refine Eq.trans (zY_step (by exact rfl) (by exact dX2_forged_68) (by exact rfl) (pc' := 70) (S' := [zI x4, zR (some 1), zI x5]) (by exact rfl) (zcn (by exact rfl))) ?_
      exact zY_V (by exact rfl) (by exact dX2_forged_70) (by exact rfl) (as := [zI x4]) (S' := [zI x5]) (by exact rfl) (by exact rfl) (by exact zCo_k zCo1) (by exact Nat.le_of_ble_eq_true rfl) (by exact Nat.le_of_ble_eq_true rfl) (by exact Nat.le_of_ble_eq_true rfl) (zcn (by exact rfl))
theorem b_X2_forged_73 (d : Nat) (y0 y1 x4 x5 : Int) {q5 : Nat} (hq5 : zSh q5) (σ : zS) : zq d mX2_forged 73 [some (zR (some 0)), none, some (zR (some q5)), none, some (zI x4), some (zI x5)] [zI y0, zI y1] σ = (if nrm y1 ≤ nrm y0 then zq d mX2_forged 27 [some (zR (some 0)), none, some (zR (some q5)), none, some (zI (x4 + 1)), none] [] σ else some (some (zI x4), σ)) := by
  refine Eq.trans (zY_ic_le (by exact rfl) (by exact dX2_forged_73) (t := 79) (by exact rfl) (a2 := nrm y1) (b2 := nrm y0) (by exact rfl) (by exact rfl) (L2 := [none, none, none, none, some (zI x4), none]) (zcn (by exact rfl)) (by exact rfl)) (zif ?_ ?_)
  · refine Eq.trans (zY_step (by exact rfl) (by exact dX2_forged_79) (by exact rfl) (pc' := 82) (L' := [some (zR (some 0)), none, some (zR (some q5)), none, some (zI (x4 + 1)), some (zI x5)]) (S' := []) (by exact rfl) (zcn (by exact rfl))) ?_
    exact zY_step (by exact rfl) (by exact dX2_forged_82) (by exact rfl) (pc' := 27) (S' := []) (L2 := [some (zR (some 0)), none, some (zR (some q5)), none, some (zI (x4 + 1)), none]) (by exact rfl) (by exact rfl)
  · refine Eq.trans (zY_step (by exact rfl) (by exact dX2_forged_76) (by exact rfl) (pc' := 78) (S' := [zI x4]) (by exact rfl) (zcn (by exact rfl))) ?_
    exact zq_ret (by exact dX2_forged_78) (by exact rfl) (rv := some (zI x4)) (by exact rfl)
theorem e_X2_judge (d : Nat) (x1 : Int) (σ : zS) : zc (d + 1) mX2_judge [zR (some 0), zI x1] σ = (zc d mX2_shelfAt [zR (some 0), zI x1] σ).bind fun r => zq (d + 1) mX2_judge 5 [some (zR (some 0)), some (zI x1), none, none, none] (r.1.toList ++ []) r.2 := by
  refine Eq.trans (zc_zq (L := [some (zR (some 0)), some (zI x1), none, none, none]) (by exact rfl)) ?_
  refine Eq.trans (zY_step (by exact rfl) (by exact dX2_judge_0) (by exact rfl) (pc' := 1) (S' := [zR (some 0)]) (by exact rfl) (zcn (by exact rfl))) ?_
  refine Eq.trans (zY_step (by exact rfl) (by exact dX2_judge_1) (by exact rfl) (pc' := 2) (S' := [zI x1, zR (some 0)]) (by exact rfl) (zcn (by exact rfl))) ?_
  exact zY_V (by exact rfl) (by exact dX2_judge_2) (by exact rfl) (as := [zI x1]) (S' := []) (by exact rfl) (by exact rfl) (by exact rfl) (by exact Nat.le_of_ble_eq_true rfl) (by exact Nat.le_of_ble_eq_true rfl) (by exact Nat.le_of_ble_eq_true rfl) (zcn (by exact rfl))
theorem b_X2_judge_5 (d : Nat) (x1 : Int) {q5 : Nat} (hq5 : zSh q5) (σ : zS) : zq (d + 1) mX2_judge 5 [some (zR (some 0)), some (zI x1), none, none, none] [zR (some q5)] σ = (zc d mX1_refusalUnless [zR (some q5), zI 2] σ).bind fun r => zq (d + 1) mX2_judge 17 [some (zR (some 0)), some (zI x1), some (zR (some q5)), none, none] (r.1.toList ++ []) r.2 := by
  refine Eq.trans (zY_step (by exact rfl) (by exact dX2_judge_5) (by exact rfl) (pc' := 6) (L' := [some (zR (some 0)), some (zI x1), some (zR (some q5)), none, none]) (S' := []) (by exact rfl) (zcn (by exact rfl))) ?_
  refine Eq.trans (zY_step (by exact rfl) (by exact dX2_judge_6) (by exact rfl) (pc' := 7) (S' := [zR (some q5)]) (by exact rfl) (zcn (by exact rfl))) ?_
  refine Eq.trans (zY_step (by exact rfl) (by exact dX2_judge_7) (by exact rfl) (pc' := 12) (S' := []) (by exact rfl) (zcn (by exact rfl))) ?_
  refine Eq.trans (zY_step (by exact rfl) (by exact dX2_judge_12) (by exact rfl) (pc' := 13) (S' := [zR (some q5)]) (by exact rfl) (zcn (by exact rfl))) ?_
  refine Eq.trans (zY_step (by exact rfl) (by exact dX2_judge_13) (by exact rfl) (pc' := 14) (S' := [zI 2, zR (some q5)]) (by exact rfl) (zcn (by exact rfl))) ?_
  exact zY_V (by exact rfl) (by exact dX2_judge_14) (by exact rfl) (as := [zI 2]) (S' := []) (by exact rfl) (by exact rfl) (by exact zSh_k hq5) (by exact Nat.le_of_ble_eq_true rfl) (by exact Nat.le_of_ble_eq_true rfl) (by exact Nat.le_of_ble_eq_true rfl) (zcn (by exact rfl))
theorem b_X2_judge_5_2 (d : Nat) (x1 : Int) (σ : zS) : zq d mX2_judge 5 [some (zR (some 0)), some (zI x1), none, none, none] [zR none] σ = some (some (zI ((-1))), σ) := by
  refine Eq.trans (zY_step (by exact rfl) (by exact dX2_judge_5) (by exact rfl) (pc' := 6) (L' := [some (zR (some 0)), some (zI x1), some (zR none), none, none]) (S' := []) (by exact rfl) (zcn (by exact rfl))) ?_
  refine Eq.trans (zY_step (by exact rfl) (by exact dX2_judge_6) (by exact rfl) (pc' := 7) (S' := [zR none]) (by exact rfl) (zcn (by exact rfl))) ?_
  refine Eq.trans (zY_step (by exact rfl) (by exact dX2_judge_7) (by exact rfl) (pc' := 10) (S' := []) (by exact rfl) (zcn (by exact rfl))) ?_
  refine Eq.trans (zY_step (by exact rfl) (by exact dX2_judge_10) (by exact rfl) (pc' := 11) (S' := [zI ((-1))]) (by exact rfl) (zcn (by exact rfl))) ?_
  exact zq_ret (by exact dX2_judge_11) (by exact rfl) (rv := some (zI ((-1)))) (by exact rfl)
theorem b_X2_judge_17 (d : Nat) (y0 x1 : Int) {q5 : Nat} (hq5 : zSh q5) (σ : zS) : zq (d + 1) mX2_judge 17 [some (zR (some 0)), some (zI x1), some (zR (some q5)), none, none] [zI y0] σ = (if nrm y0 = 0 then (zc d mX0_copyFrom [zR (some 6), zR (some 1)] σ).bind fun r => zq (d + 1) mX2_judge 35 [some (zR (some 0)), some (zI x1), some (zR (some q5)), some (zI y0), none] (r.1.toList ++ []) r.2 else some (some (zI y0), σ)) := by
  refine Eq.trans (zY_step (by exact rfl) (by exact dX2_judge_17) (by exact rfl) (pc' := 18) (L' := [some (zR (some 0)), some (zI x1), some (zR (some q5)), some (zI y0), none]) (S' := []) (by exact rfl) (zcn (by exact rfl))) ?_
  refine Eq.trans (zY_step (by exact rfl) (by exact dX2_judge_18) (by exact rfl) (pc' := 19) (S' := [zI y0]) (by exact rfl) (zcn (by exact rfl))) ?_
  refine Eq.trans (zY_if_eq (by exact rfl) (by exact dX2_judge_19) (t := 24) (by exact rfl) (a2 := nrm y0) (by exact rfl) (zcn (by exact rfl)) (zcn (by exact rfl))) (zif ?_ ?_)
  · refine Eq.trans (zY_step (by exact rfl) (by exact dX2_judge_24) (by exact rfl) (pc' := 25) (S' := [zR (some 0)]) (by exact rfl) (zcn (by exact rfl))) ?_
    refine Eq.trans (zY_getR (by exact rfl) (by exact dX2_judge_25) (by exact rfl) (by exact rfl) (t := 6) (by exact rfl) (zcn (by exact rfl))) ?_
    refine Eq.trans (zY_step (by exact rfl) (by exact dX2_judge_28) (by exact rfl) (pc' := 29) (S' := [zR (some 0), zR (some 6)]) (by exact rfl) (zcn (by exact rfl))) ?_
    refine Eq.trans (zY_getR (by exact rfl) (by exact dX2_judge_29) (by exact rfl) (by exact rfl) (t := 1) (by exact rfl) (zcn (by exact rfl))) ?_
    exact zY_V (by exact rfl) (by exact dX2_judge_32) (by exact rfl) (as := [zR (some 1)]) (S' := []) (by exact rfl) (by exact rfl) (by exact zCo_k zCo6) (by exact Nat.le_of_ble_eq_true rfl) (by exact Nat.le_of_ble_eq_true rfl) (by exact Nat.le_of_ble_eq_true rfl) (zcn (by exact rfl))
  · refine Eq.trans (zY_step (by exact rfl) (by exact dX2_judge_22) (by exact rfl) (pc' := 23) (S' := [zI y0]) (by exact rfl) (zcn (by exact rfl))) ?_
    exact zq_ret (by exact dX2_judge_23) (by exact rfl) (rv := some (zI y0)) (by exact rfl)
theorem b_X2_judge_35 (d : Nat) (x1 x3 : Int) {q5 : Nat} (hq5 : zSh q5) (σ : zS) : zq d mX2_judge 35 [some (zR (some 0)), some (zI x1), some (zR (some q5)), some (zI x3), none] [] σ = zq d mX2_judge 38 [some (zR (some 0)), none, some (zR (some q5)), none, some (zI 0)] [] σ := by
  refine Eq.trans (zY_step (by exact rfl) (by exact dX2_judge_35) (by exact rfl) (pc' := 36) (S' := [zI 0]) (by exact rfl) (zcn (by exact rfl))) ?_
  exact zY_step (by exact rfl) (by exact dX2_judge_36) (by exact rfl) (pc' := 38) (L' := [some (zR (some 0)), some (zI x1), some (zR (some q5)), some (zI x3), some (zI 0)]) (S' := []) (L2 := [some (zR (some 0)), none, some (zR (some q5)), none, some (zI 0)]) (by exact rfl) (by exact rfl)
theorem b_X2_judge_38 (d : Nat) (x4 : Int) {q5 : Nat} (hq5 : zSh q5) (σ : zS) : zq (d + 1) mX2_judge 38 [some (zR (some 0)), none, some (zR (some q5)), none, some (zI x4)] [] σ = (if nrm (σ q5 4) ≤ nrm x4 then some (some (zI ((-4))), σ) else (if nrm x4 ≤ 0 then zq (d + 1) mX2_judge 61 [some (zR (some 0)), none, some (zR (some q5)), none, some (zI x4)] [] σ else (zc d mX0_goOn [zR (some 6), zI 1] σ).bind fun r => zq (d + 1) mX2_judge 60 [some (zR (some 0)), none, some (zR (some q5)), none, some (zI x4)] (r.1.toList ++ []) r.2)) := by
  refine Eq.trans (zY_step (by exact rfl) (by exact dX2_judge_38) (by exact rfl) (pc' := 40) (S' := [zI x4]) (by exact rfl) (zcn (by exact rfl))) ?_
  refine Eq.trans (zY_step (by exact rfl) (by exact dX2_judge_40) (by exact rfl) (pc' := 41) (S' := [zR (some q5), zI x4]) (by exact rfl) (zcn (by exact rfl))) ?_
  refine Eq.trans (zY_getI (by exact rfl) (by exact dX2_judge_41) (by exact rfl) (by exact zSh_k hq5) (by exact zSh_r4 hq5) (zcn (by exact rfl))) ?_
  refine Eq.trans (zY_ic_ge (by exact rfl) (by exact dX2_judge_44) (t := 96) (by exact rfl) (a2 := nrm x4) (b2 := nrm (σ q5 4)) (by exact rfl) (by exact rfl) (zcn (by exact rfl)) (zcn (by exact rfl))) (zif ?_ ?_)
  · refine Eq.trans (zY_step (by exact rfl) (by exact dX2_judge_96) (by exact rfl) (pc' := 98) (S' := [zI ((-4))]) (by exact rfl) (zcn (by exact rfl))) ?_
    exact zq_ret (by exact dX2_judge_98) (by exact rfl) (rv := some (zI ((-4)))) (by exact rfl)
  · refine Eq.trans (zY_step (by exact rfl) (by exact dX2_judge_47) (by exact rfl) (pc' := 49) (S' := [zI x4]) (by exact rfl) (zcn (by exact rfl))) ?_
    refine Eq.trans (zY_if_le (by exact rfl) (by exact dX2_judge_49) (t := 61) (by exact rfl) (a2 := nrm x4) (by exact rfl) (zcn (by exact rfl)) (zcn (by exact rfl))) (zif ?_ ?_)
    · exact rfl
    · refine Eq.trans (zY_step (by exact rfl) (by exact dX2_judge_52) (by exact rfl) (pc' := 53) (S' := [zR (some 0)]) (by exact rfl) (zcn (by exact rfl))) ?_
      refine Eq.trans (zY_getR (by exact rfl) (by exact dX2_judge_53) (by exact rfl) (by exact rfl) (t := 6) (by exact rfl) (zcn (by exact rfl))) ?_
      refine Eq.trans (zY_step (by exact rfl) (by exact dX2_judge_56) (by exact rfl) (pc' := 57) (S' := [zI 1, zR (some 6)]) (by exact rfl) (zcn (by exact rfl))) ?_
      exact zY_V (by exact rfl) (by exact dX2_judge_57) (by exact rfl) (as := [zI 1]) (S' := []) (by exact rfl) (by exact rfl) (by exact zCo_k zCo6) (by exact Nat.le_of_ble_eq_true rfl) (by exact Nat.le_of_ble_eq_true rfl) (by exact Nat.le_of_ble_eq_true rfl) (zcn (by exact rfl))
theorem b_X2_judge_61 (d : Nat) (x4 : Int) {q5 : Nat} (hq5 : zSh q5) (σ : zS) : zq (d + 1) mX2_judge 61 [some (zR (some 0)), none, some (zR (some q5)), none, some (zI x4)] [] σ = (zc d mX1_isSkipped [zR (some q5), zI x4] σ).bind fun r => zq (d + 1) mX2_judge 67 [some (zR (some 0)), none, some (zR (some q5)), none, some (zI x4)] (r.1.toList ++ []) r.2 := by
  refine Eq.trans (zY_step (by exact rfl) (by exact dX2_judge_61) (by exact rfl) (pc' := 62) (S' := [zR (some q5)]) (by exact rfl) (zcn (by exact rfl))) ?_
  refine Eq.trans (zY_step (by exact rfl) (by exact dX2_judge_62) (by exact rfl) (pc' := 64) (S' := [zI x4, zR (some q5)]) (by exact rfl) (zcn (by exact rfl))) ?_
  exact zY_V (by exact rfl) (by exact dX2_judge_64) (by exact rfl) (as := [zI x4]) (S' := []) (by exact rfl) (by exact rfl) (by exact zSh_k hq5) (by exact Nat.le_of_ble_eq_true rfl) (by exact Nat.le_of_ble_eq_true rfl) (by exact Nat.le_of_ble_eq_true rfl) (zcn (by exact rfl))
theorem b_X2_judge_60 (d : Nat) (y0 x4 : Int) {q5 : Nat} (hq5 : zSh q5) (σ : zS) : zq d mX2_judge 60 [some (zR (some 0)), none, some (zR (some q5)), none, some (zI x4)] [zI y0] σ = zq d mX2_judge 61 [some (zR (some 0)), none, some (zR (some q5)), none, some (zI x4)] [] σ := by
  exact zY_step (by exact rfl) (by exact dX2_judge_60) (by exact rfl) (pc' := 61) (S' := []) (by exact rfl) (zcn (by exact rfl))
theorem b_X2_judge_67 (d : Nat) (y0 x4 : Int) {q5 : Nat} (hq5 : zSh q5) (σ : zS) : zq (d + 1) mX2_judge 67 [some (zR (some 0)), none, some (zR (some q5)), none, some (zI x4)] [zI y0] σ = (if ¬ nrm y0 = 0 then zq (d + 1) mX2_judge 90 [some (zR (some 0)), none, some (zR (some q5)), none, some (zI x4)] [] σ else (if zix x4 100 then (zc d mX0_allTips [zR (some 6)] σ).bind fun r => zq (d + 1) mX2_judge 84 [some (zR (some 0)), none, some (zR (some q5)), none, some (zI x4)] (r.1.toList ++ [zI (σ (q5 + 1) (nrm x4).toNat)]) r.2 else none)) := by
  refine Eq.trans (zY_if_ne (by exact rfl) (by exact dX2_judge_67) (t := 90) (by exact rfl) (a2 := nrm y0) (by exact rfl) (zcn (by exact rfl)) (zcn (by exact rfl))) (zif ?_ ?_)
  · exact rfl
  · refine Eq.trans (zY_step (by exact rfl) (by exact dX2_judge_70) (by exact rfl) (pc' := 71) (S' := [zR (some q5)]) (by exact rfl) (zcn (by exact rfl))) ?_
    refine Eq.trans (zY_getR (by exact rfl) (by exact dX2_judge_71) (by exact rfl) (by exact zSh_k hq5) (by exact zSh_r5 hq5) (zcn (by exact rfl))) ?_
    refine Eq.trans (zY_step (by exact rfl) (by exact dX2_judge_74) (by exact rfl) (pc' := 76) (S' := [zI x4, zR (some (q5 + 1))]) (by exact rfl) (zcn (by exact rfl))) ?_
    refine Eq.trans (zY_iald (by exact rfl) (by exact dX2_judge_76) (by exact zSh_a1 hq5) (by exact zSh_n1 hq5) (zcn (by exact rfl))) (zif ?_ rfl)
    · refine Eq.trans (zY_step (by exact rfl) (by exact dX2_judge_77) (by exact rfl) (pc' := 78) (S' := [zR (some 0), zI (σ (q5 + 1) (nrm x4).toNat)]) (by exact rfl) (zcn (by exact rfl))) ?_
      refine Eq.trans (zY_getR (by exact rfl) (by exact dX2_judge_78) (by exact rfl) (by exact rfl) (t := 6) (by exact rfl) (zcn (by exact rfl))) ?_
      exact zY_V (by exact rfl) (by exact dX2_judge_81) (by exact rfl) (as := []) (S' := [zI (σ (q5 + 1) (nrm x4).toNat)]) (by exact rfl) (by exact rfl) (by exact zCo_k zCo6) (by exact Nat.le_of_ble_eq_true rfl) (by exact Nat.le_of_ble_eq_true rfl) (by exact Nat.le_of_ble_eq_true rfl) (zcn (by exact rfl))
theorem b_X2_judge_90 (d : Nat) (x4 : Int) {q5 : Nat} (hq5 : zSh q5) (σ : zS) : zq d mX2_judge 90 [some (zR (some 0)), none, some (zR (some q5)), none, some (zI x4)] [] σ = zq d mX2_judge 38 [some (zR (some 0)), none, some (zR (some q5)), none, some (zI (x4 + 1))] [] σ := by
  refine Eq.trans (zY_step (by exact rfl) (by exact dX2_judge_90) (by exact rfl) (pc' := 93) (L' := [some (zR (some 0)), none, some (zR (some q5)), none, some (zI (x4 + 1))]) (S' := []) (by exact rfl) (zcn (by exact rfl))) ?_
  exact zY_step (by exact rfl) (by exact dX2_judge_93) (by exact rfl) (pc' := 38) (S' := []) (L2 := [some (zR (some 0)), none, some (zR (some q5)), none, some (zI (x4 + 1))]) (by exact rfl) (by exact rfl)
theorem b_X2_judge_84 (d : Nat) (y0 y1 x4 : Int) {q5 : Nat} (hq5 : zSh q5) (σ : zS) : zq d mX2_judge 84 [some (zR (some 0)), none, some (zR (some q5)), none, some (zI x4)] [zI y0, zI y1] σ = (if nrm y1 = nrm y0 then zq d mX2_judge 90 [some (zR (some 0)), none, some (zR (some q5)), none, some (zI x4)] [] σ else some (some (zI x4), σ)) := by
  refine Eq.trans (zY_ic_eq (by exact rfl) (by exact dX2_judge_84) (t := 90) (by exact rfl) (a2 := nrm y1) (b2 := nrm y0) (by exact rfl) (by exact rfl) (zcn (by exact rfl)) (zcn (by exact rfl))) (zif ?_ ?_)
  · exact rfl
  · refine Eq.trans (zY_step (by exact rfl) (by exact dX2_judge_87) (by exact rfl) (pc' := 89) (S' := [zI x4]) (by exact rfl) (zcn (by exact rfl))) ?_
    exact zq_ret (by exact dX2_judge_89) (by exact rfl) (rv := some (zI x4)) (by exact rfl)
theorem e_X2_trips (d : Nat) (x1 x2 x3 : Int) (σ : zS) : zc (d + 1) mX2_trips [zR (some 0), zI x1, zI x2, zI x3] σ = (if nrm x1 < 1 then some (some (zI ((-1))), σ) else (if 20 < nrm x1 then some (some (zI ((-1))), σ) else (if nrm x3 < 0 then some (some (zI ((-1))), σ) else (if nrm x3 ≤ 1 then (if ¬ nrm (σ 1 0) = 0 then (zc d mX0_copyFrom [zR (some 6), zR (some 1)] σ).bind fun r => zq (d + 1) mX2_trips 46 [some (zR (some 0)), some (zI x1), some (zI x2), some (zI x3), none, none, none] (r.1.toList ++ []) r.2 else some (some (zI ((-3))), σ)) else some (some (zI ((-1))), σ))))) := by
  refine Eq.trans (zc_zq (L := [some (zR (some 0)), some (zI x1), some (zI x2), some (zI x3), none, none, none]) (by exact rfl)) ?_
  refine Eq.trans (zY_step (by exact rfl) (by exact dX2_trips_0) (by exact rfl) (pc' := 1) (S' := [zI x1]) (by exact rfl) (zcn (by exact rfl))) ?_
  refine Eq.trans (zY_step (by exact rfl) (by exact dX2_trips_1) (by exact rfl) (pc' := 2) (S' := [zI 1, zI x1]) (by exact rfl) (zcn (by exact rfl))) ?_
  refine Eq.trans (zY_ic_lt (by exact rfl) (by exact dX2_trips_2) (t := 20) (by exact rfl) (a2 := nrm x1) (b2 := 1) (by exact rfl) (by decide) (L1 := [none, none, none, none, none, none, none]) (by exact rfl) (zcn (by exact rfl))) (zif ?_ ?_)
  · refine Eq.trans (zY_step (by exact rfl) (by exact dX2_trips_20) (by exact rfl) (pc' := 21) (S' := [zI ((-1))]) (by exact rfl) (zcn (by exact rfl))) ?_
    exact zq_ret (by exact dX2_trips_21) (by exact rfl) (rv := some (zI ((-1)))) (by exact rfl)
  · refine Eq.trans (zY_step (by exact rfl) (by exact dX2_trips_5) (by exact rfl) (pc' := 6) (S' := [zI x1]) (by exact rfl) (zcn (by exact rfl))) ?_
    refine Eq.trans (zY_step (by exact rfl) (by exact dX2_trips_6) (by exact rfl) (pc' := 8) (S' := [zI 20, zI x1]) (by exact rfl) (zcn (by exact rfl))) ?_
    refine Eq.trans (zY_ic_gt (by exact rfl) (by exact dX2_trips_8) (t := 20) (by exact rfl) (a2 := nrm x1) (b2 := 20) (by exact rfl) (by decide) (L1 := [none, none, none, none, none, none, none]) (by exact rfl) (zcn (by exact rfl))) (zif ?_ ?_)
    · refine Eq.trans (zY_step (by exact rfl) (by exact dX2_trips_20) (by exact rfl) (pc' := 21) (S' := [zI ((-1))]) (by exact rfl) (zcn (by exact rfl))) ?_
      exact zq_ret (by exact dX2_trips_21) (by exact rfl) (rv := some (zI ((-1)))) (by exact rfl)
    · refine Eq.trans (zY_step (by exact rfl) (by exact dX2_trips_11) (by exact rfl) (pc' := 12) (S' := [zI x3]) (by exact rfl) (zcn (by exact rfl))) ?_
      refine Eq.trans (zY_if_lt (by exact rfl) (by exact dX2_trips_12) (t := 20) (by exact rfl) (a2 := nrm x3) (by exact rfl) (L1 := [none, none, none, none, none, none, none]) (by exact rfl) (zcn (by exact rfl))) (zif ?_ ?_)
      · refine Eq.trans (zY_step (by exact rfl) (by exact dX2_trips_20) (by exact rfl) (pc' := 21) (S' := [zI ((-1))]) (by exact rfl) (zcn (by exact rfl))) ?_
        exact zq_ret (by exact dX2_trips_21) (by exact rfl) (rv := some (zI ((-1)))) (by exact rfl)
      · refine Eq.trans (zY_step (by exact rfl) (by exact dX2_trips_15) (by exact rfl) (pc' := 16) (S' := [zI x3]) (by exact rfl) (zcn (by exact rfl))) ?_
        refine Eq.trans (zY_step (by exact rfl) (by exact dX2_trips_16) (by exact rfl) (pc' := 17) (S' := [zI 1, zI x3]) (by exact rfl) (zcn (by exact rfl))) ?_
        refine Eq.trans (zY_ic_le (by exact rfl) (by exact dX2_trips_17) (t := 22) (by exact rfl) (a2 := nrm x3) (b2 := 1) (by exact rfl) (by decide) (L2 := [none, none, none, none, none, none, none]) (zcn (by exact rfl)) (by exact rfl)) (zif ?_ ?_)
        · refine Eq.trans (zY_step (by exact rfl) (by exact dX2_trips_22) (by exact rfl) (pc' := 23) (S' := [zR (some 0)]) (by exact rfl) (zcn (by exact rfl))) ?_
          refine Eq.trans (zY_getR (by exact rfl) (by exact dX2_trips_23) (by exact rfl) (by exact rfl) (t := 1) (by exact rfl) (zcn (by exact rfl))) ?_
          refine Eq.trans (zY_getI (by exact rfl) (by exact dX2_trips_26) (by exact rfl) (by exact zCo_k zCo1) (by exact zCo_r0 zCo1) (zcn (by exact rfl))) ?_
          refine Eq.trans (zY_if_ne (by exact rfl) (by exact dX2_trips_29) (t := 35) (by exact rfl) (a2 := nrm (σ 1 0)) (by exact rfl) (zcn (by exact rfl)) (zcn (by exact rfl))) (zif ?_ ?_)
          · refine Eq.trans (zY_step (by exact rfl) (by exact dX2_trips_35) (by exact rfl) (pc' := 36) (S' := [zR (some 0)]) (by exact rfl) (zcn (by exact rfl))) ?_
            refine Eq.trans (zY_getR (by exact rfl) (by exact dX2_trips_36) (by exact rfl) (by exact rfl) (t := 6) (by exact rfl) (zcn (by exact rfl))) ?_
            refine Eq.trans (zY_step (by exact rfl) (by exact dX2_trips_39) (by exact rfl) (pc' := 40) (S' := [zR (some 0), zR (some 6)]) (by exact rfl) (zcn (by exact rfl))) ?_
            refine Eq.trans (zY_getR (by exact rfl) (by exact dX2_trips_40) (by exact rfl) (by exact rfl) (t := 1) (by exact rfl) (zcn (by exact rfl))) ?_
            exact zY_V (by exact rfl) (by exact dX2_trips_43) (by exact rfl) (as := [zR (some 1)]) (S' := []) (by exact rfl) (by exact rfl) (by exact zCo_k zCo6) (by exact Nat.le_of_ble_eq_true rfl) (by exact Nat.le_of_ble_eq_true rfl) (by exact Nat.le_of_ble_eq_true rfl) (zcn (by exact rfl))
          · refine Eq.trans (zY_step (by exact rfl) (by exact dX2_trips_32) (by exact rfl) (pc' := 34) (S' := [zI ((-3))]) (by exact rfl) (zcn (by exact rfl))) ?_
            exact zq_ret (by exact dX2_trips_34) (by exact rfl) (rv := some (zI ((-3)))) (by exact rfl)
        · refine Eq.trans (zY_step (by exact rfl) (by exact dX2_trips_20) (by exact rfl) (pc' := 21) (S' := [zI ((-1))]) (by exact rfl) (zcn (by exact rfl))) ?_
          exact zq_ret (by exact dX2_trips_21) (by exact rfl) (rv := some (zI ((-1)))) (by exact rfl)
theorem b_X2_trips_46 (d : Nat) (x1 x2 x3 : Int) (σ : zS) : zq d mX2_trips 46 [some (zR (some 0)), some (zI x1), some (zI x2), some (zI x3), none, none, none] [] σ = zq d mX2_trips 55 [some (zR (some 0)), some (zI x1), none, some (zI x3), some (zI x2), some (zI 0), some (zI 0)] [] σ := by
  refine Eq.trans (zY_step (by exact rfl) (by exact dX2_trips_46) (by exact rfl) (pc' := 47) (S' := [zI x2]) (by exact rfl) (zcn (by exact rfl))) ?_
  refine Eq.trans (zY_step (by exact rfl) (by exact dX2_trips_47) (by exact rfl) (pc' := 49) (L' := [some (zR (some 0)), some (zI x1), some (zI x2), some (zI x3), some (zI x2), none, none]) (S' := []) (by exact rfl) (zcn (by exact rfl))) ?_
  refine Eq.trans (zY_step (by exact rfl) (by exact dX2_trips_49) (by exact rfl) (pc' := 50) (S' := [zI 0]) (by exact rfl) (zcn (by exact rfl))) ?_
  refine Eq.trans (zY_step (by exact rfl) (by exact dX2_trips_50) (by exact rfl) (pc' := 52) (L' := [some (zR (some 0)), some (zI x1), some (zI x2), some (zI x3), some (zI x2), some (zI 0), none]) (S' := []) (by exact rfl) (zcn (by exact rfl))) ?_
  refine Eq.trans (zY_step (by exact rfl) (by exact dX2_trips_52) (by exact rfl) (pc' := 53) (S' := [zI 0]) (by exact rfl) (zcn (by exact rfl))) ?_
  exact zY_step (by exact rfl) (by exact dX2_trips_53) (by exact rfl) (pc' := 55) (L' := [some (zR (some 0)), some (zI x1), some (zI x2), some (zI x3), some (zI x2), some (zI 0), some (zI 0)]) (S' := []) (L2 := [some (zR (some 0)), some (zI x1), none, some (zI x3), some (zI x2), some (zI 0), some (zI 0)]) (by exact rfl) (by exact rfl)
theorem b_X2_trips_55 (d : Nat) (x1 x3 x4 x5 x6 : Int) (σ : zS) : zq (d + 1) mX2_trips 55 [some (zR (some 0)), some (zI x1), none, some (zI x3), some (zI x4), some (zI x5), some (zI x6)] [] σ = (if nrm x1 ≤ nrm x6 then some (some (zI x5), σ) else (zc d mX2_drawTrip [zR (some 0), zI x4] σ).bind fun r => zq (d + 1) mX2_trips 67 [some (zR (some 0)), some (zI x1), none, some (zI x3), some (zI x4), some (zI x5), some (zI x6)] (r.1.toList ++ []) r.2) := by
  refine Eq.trans (zY_step (by exact rfl) (by exact dX2_trips_55) (by exact rfl) (pc' := 57) (S' := [zI x6]) (by exact rfl) (zcn (by exact rfl))) ?_
  refine Eq.trans (zY_step (by exact rfl) (by exact dX2_trips_57) (by exact rfl) (pc' := 58) (S' := [zI x1, zI x6]) (by exact rfl) (zcn (by exact rfl))) ?_
  refine Eq.trans (zY_ic_ge (by exact rfl) (by exact dX2_trips_58) (t := 113) (by exact rfl) (a2 := nrm x6) (b2 := nrm x1) (by exact rfl) (by exact rfl) (zcn (by exact rfl)) (zcn (by exact rfl))) (zif ?_ ?_)
  · refine Eq.trans (zY_step (by exact rfl) (by exact dX2_trips_113) (by exact rfl) (pc' := 115) (S' := [zI x5]) (by exact rfl) (zcn (by exact rfl))) ?_
    exact zq_ret (by exact dX2_trips_115) (by exact rfl) (rv := some (zI x5)) (by exact rfl)
  · refine Eq.trans (zY_step (by exact rfl) (by exact dX2_trips_61) (by exact rfl) (pc' := 62) (S' := [zR (some 0)]) (by exact rfl) (zcn (by exact rfl))) ?_
    refine Eq.trans (zY_step (by exact rfl) (by exact dX2_trips_62) (by exact rfl) (pc' := 64) (S' := [zI x4, zR (some 0)]) (by exact rfl) (zcn (by exact rfl))) ?_
    exact zY_V (by exact rfl) (by exact dX2_trips_64) (by exact rfl) (as := [zI x4]) (S' := []) (by exact rfl) (by exact rfl) (by exact rfl) (by exact Nat.le_of_ble_eq_true rfl) (by exact Nat.le_of_ble_eq_true rfl) (by exact Nat.le_of_ble_eq_true rfl) (zcn (by exact rfl))
theorem b_X2_trips_67 (d : Nat) (y0 x1 x3 x4 x5 x6 : Int) (σ : zS) : zq (d + 1) mX2_trips 67 [some (zR (some 0)), some (zI x1), none, some (zI x3), some (zI x4), some (zI x5), some (zI x6)] [zI y0] σ = (zc d mX0_goOn [zR (some 6), zI 5] σ).bind fun r => zq (d + 1) mX2_trips 77 [some (zR (some 0)), some (zI x1), none, some (zI x3), some (zI y0), some (zI x5), some (zI x6)] (r.1.toList ++ []) r.2 := by
  refine Eq.trans (zY_step (by exact rfl) (by exact dX2_trips_67) (by exact rfl) (pc' := 69) (L' := [some (zR (some 0)), some (zI x1), none, some (zI x3), some (zI y0), some (zI x5), some (zI x6)]) (S' := []) (by exact rfl) (zcn (by exact rfl))) ?_
  refine Eq.trans (zY_step (by exact rfl) (by exact dX2_trips_69) (by exact rfl) (pc' := 70) (S' := [zR (some 0)]) (by exact rfl) (zcn (by exact rfl))) ?_
  refine Eq.trans (zY_getR (by exact rfl) (by exact dX2_trips_70) (by exact rfl) (by exact rfl) (t := 6) (by exact rfl) (zcn (by exact rfl))) ?_
  refine Eq.trans (zY_step (by exact rfl) (by exact dX2_trips_73) (by exact rfl) (pc' := 74) (S' := [zI 5, zR (some 6)]) (by exact rfl) (zcn (by exact rfl))) ?_
  exact zY_V (by exact rfl) (by exact dX2_trips_74) (by exact rfl) (as := [zI 5]) (S' := []) (by exact rfl) (by exact rfl) (by exact zCo_k zCo6) (by exact Nat.le_of_ble_eq_true rfl) (by exact Nat.le_of_ble_eq_true rfl) (by exact Nat.le_of_ble_eq_true rfl) (zcn (by exact rfl))
theorem b_X2_trips_77 (d : Nat) (y0 x1 x3 x4 x5 x6 : Int) (σ : zS) : zq (d + 1) mX2_trips 77 [some (zR (some 0)), some (zI x1), none, some (zI x3), some (zI x4), some (zI x5), some (zI x6)] [zI y0] σ = (if ¬ nrm x3 = 0 then (zc d mX0_tippingRows [zR (some 6)] σ).bind fun r => zq (d + 1) mX2_trips 101 [some (zR (some 0)), some (zI x1), none, some (zI x3), some (zI x4), some (zI x5), some (zI x6)] (r.1.toList ++ [zI x5]) r.2 else (zc d mX0_allTips [zR (some 6)] σ).bind fun r => zq (d + 1) mX2_trips 91 [some (zR (some 0)), some (zI x1), none, some (zI x3), some (zI x4), some (zI x5), some (zI x6)] (r.1.toList ++ [zI x5]) r.2) := by
  refine Eq.trans (zY_step (by exact rfl) (by exact dX2_trips_77) (by exact rfl) (pc' := 78) (S' := []) (by exact rfl) (zcn (by exact rfl))) ?_
  refine Eq.trans (zY_step (by exact rfl) (by exact dX2_trips_78) (by exact rfl) (pc' := 80) (S' := [zI x5]) (by exact rfl) (zcn (by exact rfl))) ?_
  refine Eq.trans (zY_step (by exact rfl) (by exact dX2_trips_80) (by exact rfl) (pc' := 81) (S' := [zI x3, zI x5]) (by exact rfl) (zcn (by exact rfl))) ?_
  refine Eq.trans (zY_if_ne (by exact rfl) (by exact dX2_trips_81) (t := 94) (by exact rfl) (a2 := nrm x3) (by exact rfl) (zcn (by exact rfl)) (zcn (by exact rfl))) (zif ?_ ?_)
  · refine Eq.trans (zY_step (by exact rfl) (by exact dX2_trips_94) (by exact rfl) (pc' := 95) (S' := [zR (some 0), zI x5]) (by exact rfl) (zcn (by exact rfl))) ?_
    refine Eq.trans (zY_getR (by exact rfl) (by exact dX2_trips_95) (by exact rfl) (by exact rfl) (t := 6) (by exact rfl) (zcn (by exact rfl))) ?_
    exact zY_V (by exact rfl) (by exact dX2_trips_98) (by exact rfl) (as := []) (S' := [zI x5]) (by exact rfl) (by exact rfl) (by exact zCo_k zCo6) (by exact Nat.le_of_ble_eq_true rfl) (by exact Nat.le_of_ble_eq_true rfl) (by exact Nat.le_of_ble_eq_true rfl) (zcn (by exact rfl))
  · refine Eq.trans (zY_step (by exact rfl) (by exact dX2_trips_84) (by exact rfl) (pc' := 85) (S' := [zR (some 0), zI x5]) (by exact rfl) (zcn (by exact rfl))) ?_
    refine Eq.trans (zY_getR (by exact rfl) (by exact dX2_trips_85) (by exact rfl) (by exact rfl) (t := 6) (by exact rfl) (zcn (by exact rfl))) ?_
    exact zY_V (by exact rfl) (by exact dX2_trips_88) (by exact rfl) (as := []) (S' := [zI x5]) (by exact rfl) (by exact rfl) (by exact zCo_k zCo6) (by exact Nat.le_of_ble_eq_true rfl) (by exact Nat.le_of_ble_eq_true rfl) (by exact Nat.le_of_ble_eq_true rfl) (zcn (by exact rfl))
theorem b_X2_trips_101 (d : Nat) (y0 y1 x1 x3 x4 x5 x6 : Int) (σ : zS) : zq (d + 1) mX2_trips 101 [some (zR (some 0)), some (zI x1), none, some (zI x3), some (zI x4), some (zI x5), some (zI x6)] [zI y0, zI y1] σ = (zc d mJ6_bitCount_0f7a4 [zI y0] σ).bind fun r => zq (d + 1) mX2_trips 104 [some (zR (some 0)), some (zI x1), none, some (zI x3), some (zI x4), none, some (zI x6)] (r.1.toList ++ [zI y1]) r.2 := by
  exact zY_S (by exact rfl) (by exact dX2_trips_101) (by exact rfl) (by exact Or.inl rfl) (as := [zI y0]) (S' := [zI y1]) (by exact rfl) (by exact rfl) (by exact Nat.le_of_ble_eq_true rfl) (by exact Nat.le_of_ble_eq_true rfl) (L2 := [some (zR (some 0)), some (zI x1), none, some (zI x3), some (zI x4), none, some (zI x6)]) (by exact rfl)
theorem b_X2_trips_91 (d : Nat) (y0 y1 x1 x3 x4 x5 x6 : Int) (σ : zS) : zq d mX2_trips 91 [some (zR (some 0)), some (zI x1), none, some (zI x3), some (zI x4), some (zI x5), some (zI x6)] [zI y0, zI y1] σ = zq d mX2_trips 104 [some (zR (some 0)), some (zI x1), none, some (zI x3), some (zI x4), none, some (zI x6)] [zI y0, zI y1] σ := by
  exact zY_step (by exact rfl) (by exact dX2_trips_91) (by exact rfl) (pc' := 104) (S' := [zI y0, zI y1]) (L2 := [some (zR (some 0)), some (zI x1), none, some (zI x3), some (zI x4), none, some (zI x6)]) (by exact rfl) (by exact rfl)
theorem b_X2_trips_104 (d : Nat) (y0 y1 x1 x3 x4 x6 : Int) (σ : zS) : zq d mX2_trips 104 [some (zR (some 0)), some (zI x1), none, some (zI x3), some (zI x4), none, some (zI x6)] [zI y0, zI y1] σ = zq d mX2_trips 55 [some (zR (some 0)), some (zI x1), none, some (zI x3), some (zI x4), some (zI (y1 + y0)), some (zI (x6 + 1))] [] σ := by
  refine Eq.trans (zY_step (by exact rfl) (by exact dX2_trips_104) (by exact rfl) (pc' := 105) (S' := [zI (y1 + y0)]) (by exact rfl) (zcn (by exact rfl))) ?_
  refine Eq.trans (zY_step (by exact rfl) (by exact dX2_trips_105) (by exact rfl) (pc' := 107) (L' := [some (zR (some 0)), some (zI x1), none, some (zI x3), some (zI x4), some (zI (y1 + y0)), some (zI x6)]) (S' := []) (by exact rfl) (zcn (by exact rfl))) ?_
  refine Eq.trans (zY_step (by exact rfl) (by exact dX2_trips_107) (by exact rfl) (pc' := 110) (L' := [some (zR (some 0)), some (zI x1), none, some (zI x3), some (zI x4), some (zI (y1 + y0)), some (zI (x6 + 1))]) (S' := []) (by exact rfl) (zcn (by exact rfl))) ?_
  exact zY_step (by exact rfl) (by exact dX2_trips_110) (by exact rfl) (pc' := 55) (S' := []) (L2 := [some (zR (some 0)), some (zI x1), none, some (zI x3), some (zI x4), some (zI (y1 + y0)), some (zI (x6 + 1))]) (by exact rfl) (by exact rfl)
theorem e_X2_image (d : Nat) (σ : zS) : zc (d + 1) mX2_image [zR (some 0)] σ = (zc d mX0_copyFrom [zR (some 11), zR (some 1)] σ).bind fun r => zq (d + 1) mX2_image 11 [some (zR (some 0))] (r.1.toList ++ []) r.2 := by
  refine Eq.trans (zc_zq (L := [some (zR (some 0))]) (by exact rfl)) ?_
  refine Eq.trans (zY_step (by exact rfl) (by exact dX2_image_0) (by exact rfl) (pc' := 1) (S' := [zR (some 0)]) (by exact rfl) (zcn (by exact rfl))) ?_
  refine Eq.trans (zY_getR (by exact rfl) (by exact dX2_image_1) (by exact rfl) (by exact rfl) (t := 11) (by exact rfl) (zcn (by exact rfl))) ?_
  refine Eq.trans (zY_step (by exact rfl) (by exact dX2_image_4) (by exact rfl) (pc' := 5) (S' := [zR (some 0), zR (some 11)]) (by exact rfl) (zcn (by exact rfl))) ?_
  refine Eq.trans (zY_getR (by exact rfl) (by exact dX2_image_5) (by exact rfl) (by exact rfl) (t := 1) (by exact rfl) (zcn (by exact rfl))) ?_
  exact zY_V (by exact rfl) (by exact dX2_image_8) (by exact rfl) (as := [zR (some 1)]) (S' := []) (by exact rfl) (by exact rfl) (by exact zCo_k zCo11) (by exact Nat.le_of_ble_eq_true rfl) (by exact Nat.le_of_ble_eq_true rfl) (by exact Nat.le_of_ble_eq_true rfl) (zcn (by exact rfl))
theorem b_X2_image_11 (d : Nat) (σ : zS) : zq d mX2_image 11 [some (zR (some 0))] [] σ = some (some (zI ((zup σ 0 3 1) 1 2)), zup σ 0 3 1) := by
  refine Eq.trans (zY_step (by exact rfl) (by exact dX2_image_11) (by exact rfl) (pc' := 12) (S' := [zR (some 0)]) (by exact rfl) (zcn (by exact rfl))) ?_
  refine Eq.trans (zY_step (by exact rfl) (by exact dX2_image_12) (by exact rfl) (pc' := 13) (S' := [zI 1, zR (some 0)]) (by exact rfl) (zcn (by exact rfl))) ?_
  refine Eq.trans (zY_putI (by exact rfl) (by exact dX2_image_13) (by exact rfl) (by exact rfl) (by exact rfl) (by exact fun _ => by decide) (zcn (by exact rfl))) ?_
  refine Eq.trans (zY_step (by exact rfl) (by exact dX2_image_16) (by exact rfl) (pc' := 17) (S' := [zR (some 0)]) (by exact rfl) (zcn (by exact rfl))) ?_
  refine Eq.trans (zY_getR (by exact rfl) (by exact dX2_image_17) (by exact rfl) (by exact rfl) (t := 1) (by exact rfl) (zcn (by exact rfl))) ?_
  refine Eq.trans (zY_getI (by exact rfl) (by exact dX2_image_20) (by exact rfl) (by exact zCo_k zCo1) (by exact zCo_r2 zCo1) (zcn (by exact rfl))) ?_
  exact zq_ret (by exact dX2_image_23) (by exact rfl) (rv := some (zI ((zup σ 0 3 1) 1 2))) (by exact rfl)
theorem e_X2_restore (d : Nat) (σ : zS) : zc (d + 1) mX2_restore [zR (some 0)] σ = (if ¬ nrm (σ 0 3) = 0 then (zc d mX0_copyFrom [zR (some 1), zR (some 11)] σ).bind fun r => zq (d + 1) mX2_restore 21 [some (zR (some 0))] (r.1.toList ++ []) r.2 else some (some (zI ((-3))), σ)) := by
  refine Eq.trans (zc_zq (L := [some (zR (some 0))]) (by exact rfl)) ?_
  refine Eq.trans (zY_step (by exact rfl) (by exact dX2_restore_0) (by exact rfl) (pc' := 1) (S' := [zR (some 0)]) (by exact rfl) (zcn (by exact rfl))) ?_
  refine Eq.trans (zY_getI (by exact rfl) (by exact dX2_restore_1) (by exact rfl) (by exact rfl) (by exact rfl) (zcn (by exact rfl))) ?_
  refine Eq.trans (zY_if_ne (by exact rfl) (by exact dX2_restore_4) (t := 10) (by exact rfl) (a2 := nrm (σ 0 3)) (by exact rfl) (zcn (by exact rfl)) (zcn (by exact rfl))) (zif ?_ ?_)
  · refine Eq.trans (zY_step (by exact rfl) (by exact dX2_restore_10) (by exact rfl) (pc' := 11) (S' := [zR (some 0)]) (by exact rfl) (zcn (by exact rfl))) ?_
    refine Eq.trans (zY_getR (by exact rfl) (by exact dX2_restore_11) (by exact rfl) (by exact rfl) (t := 1) (by exact rfl) (zcn (by exact rfl))) ?_
    refine Eq.trans (zY_step (by exact rfl) (by exact dX2_restore_14) (by exact rfl) (pc' := 15) (S' := [zR (some 0), zR (some 1)]) (by exact rfl) (zcn (by exact rfl))) ?_
    refine Eq.trans (zY_getR (by exact rfl) (by exact dX2_restore_15) (by exact rfl) (by exact rfl) (t := 11) (by exact rfl) (zcn (by exact rfl))) ?_
    exact zY_V (by exact rfl) (by exact dX2_restore_18) (by exact rfl) (as := [zR (some 11)]) (S' := []) (by exact rfl) (by exact rfl) (by exact zCo_k zCo1) (by exact Nat.le_of_ble_eq_true rfl) (by exact Nat.le_of_ble_eq_true rfl) (by exact Nat.le_of_ble_eq_true rfl) (zcn (by exact rfl))
  · refine Eq.trans (zY_step (by exact rfl) (by exact dX2_restore_7) (by exact rfl) (pc' := 9) (S' := [zI ((-3))]) (by exact rfl) (zcn (by exact rfl))) ?_
    exact zq_ret (by exact dX2_restore_9) (by exact rfl) (rv := some (zI ((-3)))) (by exact rfl)
theorem b_X2_restore_21 (d : Nat) (σ : zS) : zq d mX2_restore 21 [some (zR (some 0))] [] σ = some (some (zI (σ 1 2)), σ) := by
  refine Eq.trans (zY_step (by exact rfl) (by exact dX2_restore_21) (by exact rfl) (pc' := 22) (S' := [zR (some 0)]) (by exact rfl) (zcn (by exact rfl))) ?_
  refine Eq.trans (zY_getR (by exact rfl) (by exact dX2_restore_22) (by exact rfl) (by exact rfl) (t := 1) (by exact rfl) (zcn (by exact rfl))) ?_
  refine Eq.trans (zY_getI (by exact rfl) (by exact dX2_restore_25) (by exact rfl) (by exact zCo_k zCo1) (by exact zCo_r2 zCo1) (zcn (by exact rfl))) ?_
  exact zq_ret (by exact dX2_restore_28) (by exact rfl) (rv := some (zI (σ 1 2))) (by exact rfl)
theorem e_X2_count (d : Nat) (x1 : Int) (σ : zS) : zc (d + 1) mX2_count [zR (some 0), zI x1] σ = (if nrm x1 = 0 then some (some (zI (σ 1 0)), σ) else (if nrm x1 = 1 then some (some (zI (σ 1 1)), σ) else (if nrm x1 = 2 then some (some (zI (σ 1 2)), σ) else (if nrm x1 = 3 then (zc d mX0_allTips [zR (some 1)] σ).bind fun r => zq (d + 1) mX2_count 75 [some (zR (some 0)), some (zI x1)] (r.1.toList ++ []) r.2 else (if nrm x1 = 4 then some (some (zI (σ 1 3)), σ) else (if nrm x1 = 5 then (zc d mX0_allRoom [zR (some 1)] σ).bind fun r => zq (d + 1) mX2_count 91 [some (zR (some 0)), some (zI x1)] (r.1.toList ++ []) r.2 else (if nrm x1 = 6 then (zc d mX0_tippingRows [zR (some 1)] σ).bind fun r => zq (d + 1) mX2_count 99 [some (zR (some 0)), some (zI x1)] (r.1.toList ++ []) r.2 else some (some (zI ((-1))), σ)))))))) := by
  refine Eq.trans (zc_zq (L := [some (zR (some 0)), some (zI x1)]) (by exact rfl)) ?_
  refine Eq.trans (zY_step (by exact rfl) (by exact dX2_count_0) (by exact rfl) (pc' := 1) (S' := [zI x1]) (by exact rfl) (zcn (by exact rfl))) ?_
  refine Eq.trans (zY_tsw (by exact rfl) (by exact dX2_count_1) (by exact rfl) (dt := 100) (by exact rfl) (ts := [(0, 44), (1, 52), (2, 60), (3, 68), (4, 76), (5, 84), (6, 92)]) (by exact rfl)) ?_
  refine zif ?_ (zif ?_ (zif ?_ (zif ?_ (zif ?_ (zif ?_ (zif ?_ (?_)))))))
  · refine Eq.trans (zY_at (L2 := [some (zR (some 0)), some (zI x1)]) (zcn (by exact rfl))) ?_
    refine Eq.trans (zY_step (by exact rfl) (by exact dX2_count_44) (by exact rfl) (pc' := 45) (S' := [zR (some 0)]) (by exact rfl) (zcn (by exact rfl))) ?_
    refine Eq.trans (zY_getR (by exact rfl) (by exact dX2_count_45) (by exact rfl) (by exact rfl) (t := 1) (by exact rfl) (zcn (by exact rfl))) ?_
    refine Eq.trans (zY_getI (by exact rfl) (by exact dX2_count_48) (by exact rfl) (by exact zCo_k zCo1) (by exact zCo_r0 zCo1) (zcn (by exact rfl))) ?_
    exact zq_ret (by exact dX2_count_51) (by exact rfl) (rv := some (zI (σ 1 0))) (by exact rfl)
  · refine Eq.trans (zY_at (L2 := [some (zR (some 0)), some (zI x1)]) (zcn (by exact rfl))) ?_
    refine Eq.trans (zY_step (by exact rfl) (by exact dX2_count_52) (by exact rfl) (pc' := 53) (S' := [zR (some 0)]) (by exact rfl) (zcn (by exact rfl))) ?_
    refine Eq.trans (zY_getR (by exact rfl) (by exact dX2_count_53) (by exact rfl) (by exact rfl) (t := 1) (by exact rfl) (zcn (by exact rfl))) ?_
    refine Eq.trans (zY_getI (by exact rfl) (by exact dX2_count_56) (by exact rfl) (by exact zCo_k zCo1) (by exact zCo_r1 zCo1) (zcn (by exact rfl))) ?_
    exact zq_ret (by exact dX2_count_59) (by exact rfl) (rv := some (zI (σ 1 1))) (by exact rfl)
  · refine Eq.trans (zY_at (L2 := [some (zR (some 0)), some (zI x1)]) (zcn (by exact rfl))) ?_
    refine Eq.trans (zY_step (by exact rfl) (by exact dX2_count_60) (by exact rfl) (pc' := 61) (S' := [zR (some 0)]) (by exact rfl) (zcn (by exact rfl))) ?_
    refine Eq.trans (zY_getR (by exact rfl) (by exact dX2_count_61) (by exact rfl) (by exact rfl) (t := 1) (by exact rfl) (zcn (by exact rfl))) ?_
    refine Eq.trans (zY_getI (by exact rfl) (by exact dX2_count_64) (by exact rfl) (by exact zCo_k zCo1) (by exact zCo_r2 zCo1) (zcn (by exact rfl))) ?_
    exact zq_ret (by exact dX2_count_67) (by exact rfl) (rv := some (zI (σ 1 2))) (by exact rfl)
  · refine Eq.trans (zY_at (L2 := [some (zR (some 0)), some (zI x1)]) (zcn (by exact rfl))) ?_
    refine Eq.trans (zY_step (by exact rfl) (by exact dX2_count_68) (by exact rfl) (pc' := 69) (S' := [zR (some 0)]) (by exact rfl) (zcn (by exact rfl))) ?_
    refine Eq.trans (zY_getR (by exact rfl) (by exact dX2_count_69) (by exact rfl) (by exact rfl) (t := 1) (by exact rfl) (zcn (by exact rfl))) ?_
    exact zY_V (by exact rfl) (by exact dX2_count_72) (by exact rfl) (as := []) (S' := []) (by exact rfl) (by exact rfl) (by exact zCo_k zCo1) (by exact Nat.le_of_ble_eq_true rfl) (by exact Nat.le_of_ble_eq_true rfl) (by exact Nat.le_of_ble_eq_true rfl) (zcn (by exact rfl))
  · refine Eq.trans (zY_at (L2 := [some (zR (some 0)), some (zI x1)]) (zcn (by exact rfl))) ?_
    refine Eq.trans (zY_step (by exact rfl) (by exact dX2_count_76) (by exact rfl) (pc' := 77) (S' := [zR (some 0)]) (by exact rfl) (zcn (by exact rfl))) ?_
    refine Eq.trans (zY_getR (by exact rfl) (by exact dX2_count_77) (by exact rfl) (by exact rfl) (t := 1) (by exact rfl) (zcn (by exact rfl))) ?_
    refine Eq.trans (zY_getI (by exact rfl) (by exact dX2_count_80) (by exact rfl) (by exact zCo_k zCo1) (by exact zCo_r3 zCo1) (zcn (by exact rfl))) ?_
    exact zq_ret (by exact dX2_count_83) (by exact rfl) (rv := some (zI (σ 1 3))) (by exact rfl)
  · refine Eq.trans (zY_at (L2 := [some (zR (some 0)), some (zI x1)]) (zcn (by exact rfl))) ?_
    refine Eq.trans (zY_step (by exact rfl) (by exact dX2_count_84) (by exact rfl) (pc' := 85) (S' := [zR (some 0)]) (by exact rfl) (zcn (by exact rfl))) ?_
    refine Eq.trans (zY_getR (by exact rfl) (by exact dX2_count_85) (by exact rfl) (by exact rfl) (t := 1) (by exact rfl) (zcn (by exact rfl))) ?_
    exact zY_V (by exact rfl) (by exact dX2_count_88) (by exact rfl) (as := []) (S' := []) (by exact rfl) (by exact rfl) (by exact zCo_k zCo1) (by exact Nat.le_of_ble_eq_true rfl) (by exact Nat.le_of_ble_eq_true rfl) (by exact Nat.le_of_ble_eq_true rfl) (zcn (by exact rfl))
  · refine Eq.trans (zY_at (L2 := [some (zR (some 0)), some (zI x1)]) (zcn (by exact rfl))) ?_
    refine Eq.trans (zY_step (by exact rfl) (by exact dX2_count_92) (by exact rfl) (pc' := 93) (S' := [zR (some 0)]) (by exact rfl) (zcn (by exact rfl))) ?_
    refine Eq.trans (zY_getR (by exact rfl) (by exact dX2_count_93) (by exact rfl) (by exact rfl) (t := 1) (by exact rfl) (zcn (by exact rfl))) ?_
    exact zY_V (by exact rfl) (by exact dX2_count_96) (by exact rfl) (as := []) (S' := []) (by exact rfl) (by exact rfl) (by exact zCo_k zCo1) (by exact Nat.le_of_ble_eq_true rfl) (by exact Nat.le_of_ble_eq_true rfl) (by exact Nat.le_of_ble_eq_true rfl) (zcn (by exact rfl))
  · refine Eq.trans (zY_at (L2 := [some (zR (some 0)), some (zI x1)]) (zcn (by exact rfl))) ?_
    refine Eq.trans (zY_step (by exact rfl) (by exact dX2_count_100) (by exact rfl) (pc' := 101) (S' := [zI ((-1))]) (by exact rfl) (zcn (by exact rfl))) ?_
    exact zq_ret (by exact dX2_count_101) (by exact rfl) (rv := some (zI ((-1)))) (by exact rfl)
theorem b_X2_count_75 (d : Nat) (y0 x1 : Int) (σ : zS) : zq d mX2_count 75 [some (zR (some 0)), some (zI x1)] [zI y0] σ = some (some (zI y0), σ) := by
  exact zq_ret (by exact dX2_count_75) (by exact rfl) (rv := some (zI y0)) (by exact rfl)
theorem b_X2_count_91 (d : Nat) (y0 x1 : Int) (σ : zS) : zq d mX2_count 91 [some (zR (some 0)), some (zI x1)] [zI y0] σ = some (some (zI y0), σ) := by
  exact zq_ret (by exact dX2_count_91) (by exact rfl) (rv := some (zI y0)) (by exact rfl)
theorem b_X2_count_99 (d : Nat) (y0 x1 : Int) (σ : zS) : zq d mX2_count 99 [some (zR (some 0)), some (zI x1)] [zI y0] σ = some (some (zI y0), σ) := by
  exact zq_ret (by exact dX2_count_99) (by exact rfl) (rv := some (zI y0)) (by exact rfl)
theorem e_X2_keep (d : Nat) (x1 x2 x3 x4 : Int) (σ : zS) : zc (d + 1) mX2_keep [zR (some 0), zI x1, zI x2, zI x3, zI x4] σ = (zc d mX2_shelfAt [zR (some 0), zI x1] σ).bind fun r => zq (d + 1) mX2_keep 5 [some (zR (some 0)), some (zI x1), some (zI x2), some (zI x3), some (zI x4), none] (r.1.toList ++ []) r.2 := by
  refine Eq.trans (zc_zq (L := [some (zR (some 0)), some (zI x1), some (zI x2), some (zI x3), some (zI x4), none]) (by exact rfl)) ?_
  refine Eq.trans (zY_step (by exact rfl) (by exact dX2_keep_0) (by exact rfl) (pc' := 1) (S' := [zR (some 0)]) (by exact rfl) (zcn (by exact rfl))) ?_
  refine Eq.trans (zY_step (by exact rfl) (by exact dX2_keep_1) (by exact rfl) (pc' := 2) (S' := [zI x1, zR (some 0)]) (by exact rfl) (zcn (by exact rfl))) ?_
  exact zY_V (by exact rfl) (by exact dX2_keep_2) (by exact rfl) (as := [zI x1]) (S' := []) (by exact rfl) (by exact rfl) (by exact rfl) (by exact Nat.le_of_ble_eq_true rfl) (by exact Nat.le_of_ble_eq_true rfl) (by exact Nat.le_of_ble_eq_true rfl) (zcn (by exact rfl))
theorem b_X2_keep_5 (d : Nat) (x1 x2 x3 x4 : Int) {q5 : Nat} (hq5 : zSh q5) (σ : zS) : zq d mX2_keep 5 [some (zR (some 0)), some (zI x1), some (zI x2), some (zI x3), some (zI x4), none] [zR (some q5)] σ = (if nrm x2 < 0 then some (some (zI ((-1))), σ) else (if nrm x2 ≤ 1 then (if ¬ nrm x2 = 0 then (if nrm x3 < 0 then some (some (zI ((-1))), σ) else (if 8 ≤ nrm x3 then some (some (zI ((-1))), σ) else (if nrm x4 < 0 then some (some (zI ((-1))), σ) else (if nrm x4 < 10 then some (some (zI 0), zup (zup (zup σ q5 0 1) q5 1 x3) q5 2 x4) else some (some (zI ((-1))), σ))))) else some (some (zI 0), zup σ q5 0 0)) else some (some (zI ((-1))), σ))) := by
  refine Eq.trans (zY_step (by exact rfl) (by exact dX2_keep_5) (by exact rfl) (pc' := 7) (L' := [some (zR (some 0)), some (zI x1), some (zI x2), some (zI x3), some (zI x4), some (zR (some q5))]) (S' := []) (by exact rfl) (zcn (by exact rfl))) ?_
  refine Eq.trans (zY_step (by exact rfl) (by exact dX2_keep_7) (by exact rfl) (pc' := 9) (S' := [zR (some q5)]) (by exact rfl) (zcn (by exact rfl))) ?_
  refine Eq.trans (zY_step (by exact rfl) (by exact dX2_keep_9) (by exact rfl) (pc' := 12) (S' := []) (by exact rfl) (zcn (by exact rfl))) ?_
  refine Eq.trans (zY_step (by exact rfl) (by exact dX2_keep_12) (by exact rfl) (pc' := 13) (S' := [zI x2]) (by exact rfl) (zcn (by exact rfl))) ?_
  refine Eq.trans (zY_if_lt (by exact rfl) (by exact dX2_keep_13) (t := 21) (by exact rfl) (a2 := nrm x2) (by exact rfl) (L1 := [none, none, none, none, none, none]) (by exact rfl) (zcn (by exact rfl))) (zif ?_ ?_)
  · refine Eq.trans (zY_step (by exact rfl) (by exact dX2_keep_21) (by exact rfl) (pc' := 22) (S' := [zI ((-1))]) (by exact rfl) (zcn (by exact rfl))) ?_
    exact zq_ret (by exact dX2_keep_22) (by exact rfl) (rv := some (zI ((-1)))) (by exact rfl)
  · refine Eq.trans (zY_step (by exact rfl) (by exact dX2_keep_16) (by exact rfl) (pc' := 17) (S' := [zI x2]) (by exact rfl) (zcn (by exact rfl))) ?_
    refine Eq.trans (zY_step (by exact rfl) (by exact dX2_keep_17) (by exact rfl) (pc' := 18) (S' := [zI 1, zI x2]) (by exact rfl) (zcn (by exact rfl))) ?_
    refine Eq.trans (zY_ic_le (by exact rfl) (by exact dX2_keep_18) (t := 23) (by exact rfl) (a2 := nrm x2) (b2 := 1) (by exact rfl) (by decide) (L2 := [none, none, none, none, none, none]) (zcn (by exact rfl)) (by exact rfl)) (zif ?_ ?_)
    · refine Eq.trans (zY_step (by exact rfl) (by exact dX2_keep_23) (by exact rfl) (pc' := 24) (S' := [zI x2]) (by exact rfl) (zcn (by exact rfl))) ?_
      refine Eq.trans (zY_if_ne (by exact rfl) (by exact dX2_keep_24) (t := 35) (by exact rfl) (a2 := nrm x2) (by exact rfl) (zcn (by exact rfl)) (zcn (by exact rfl))) (zif ?_ ?_)
      · refine Eq.trans (zY_step (by exact rfl) (by exact dX2_keep_35) (by exact rfl) (pc' := 36) (S' := [zI x3]) (by exact rfl) (zcn (by exact rfl))) ?_
        refine Eq.trans (zY_if_lt (by exact rfl) (by exact dX2_keep_36) (t := 57) (by exact rfl) (a2 := nrm x3) (by exact rfl) (L1 := [none, none, none, none, none, none]) (by exact rfl) (zcn (by exact rfl))) (zif ?_ ?_)
        · refine Eq.trans (zY_step (by exact rfl) (by exact dX2_keep_57) (by exact rfl) (pc' := 58) (S' := [zI ((-1))]) (by exact rfl) (zcn (by exact rfl))) ?_
          exact zq_ret (by exact dX2_keep_58) (by exact rfl) (rv := some (zI ((-1)))) (by exact rfl)
        · refine Eq.trans (zY_step (by exact rfl) (by exact dX2_keep_39) (by exact rfl) (pc' := 40) (S' := [zI x3]) (by exact rfl) (zcn (by exact rfl))) ?_
          refine Eq.trans (zY_step (by exact rfl) (by exact dX2_keep_40) (by exact rfl) (pc' := 42) (S' := [zI 8, zI x3]) (by exact rfl) (zcn (by exact rfl))) ?_
          refine Eq.trans (zY_ic_ge (by exact rfl) (by exact dX2_keep_42) (t := 57) (by exact rfl) (a2 := nrm x3) (b2 := 8) (by exact rfl) (by decide) (L1 := [none, none, none, none, none, none]) (by exact rfl) (zcn (by exact rfl))) (zif ?_ ?_)
          · refine Eq.trans (zY_step (by exact rfl) (by exact dX2_keep_57) (by exact rfl) (pc' := 58) (S' := [zI ((-1))]) (by exact rfl) (zcn (by exact rfl))) ?_
            exact zq_ret (by exact dX2_keep_58) (by exact rfl) (rv := some (zI ((-1)))) (by exact rfl)
          · refine Eq.trans (zY_step (by exact rfl) (by exact dX2_keep_45) (by exact rfl) (pc' := 47) (S' := [zI x4]) (by exact rfl) (zcn (by exact rfl))) ?_
            refine Eq.trans (zY_if_lt (by exact rfl) (by exact dX2_keep_47) (t := 57) (by exact rfl) (a2 := nrm x4) (by exact rfl) (L1 := [none, none, none, none, none, none]) (by exact rfl) (zcn (by exact rfl))) (zif ?_ ?_)
            · refine Eq.trans (zY_step (by exact rfl) (by exact dX2_keep_57) (by exact rfl) (pc' := 58) (S' := [zI ((-1))]) (by exact rfl) (zcn (by exact rfl))) ?_
              exact zq_ret (by exact dX2_keep_58) (by exact rfl) (rv := some (zI ((-1)))) (by exact rfl)
            · refine Eq.trans (zY_step (by exact rfl) (by exact dX2_keep_50) (by exact rfl) (pc' := 52) (S' := [zI x4]) (by exact rfl) (zcn (by exact rfl))) ?_
              refine Eq.trans (zY_step (by exact rfl) (by exact dX2_keep_52) (by exact rfl) (pc' := 54) (S' := [zI 10, zI x4]) (by exact rfl) (zcn (by exact rfl))) ?_
              refine Eq.trans (zY_ic_lt (by exact rfl) (by exact dX2_keep_54) (t := 59) (by exact rfl) (a2 := nrm x4) (b2 := 10) (by exact rfl) (by decide) (L2 := [none, none, none, none, none, none]) (zcn (by exact rfl)) (by exact rfl)) (zif ?_ ?_)
              · refine Eq.trans (zY_step (by exact rfl) (by exact dX2_keep_59) (by exact rfl) (pc' := 61) (S' := [zR (some q5)]) (by exact rfl) (zcn (by exact rfl))) ?_
                refine Eq.trans (zY_step (by exact rfl) (by exact dX2_keep_61) (by exact rfl) (pc' := 62) (S' := [zI 1, zR (some q5)]) (by exact rfl) (zcn (by exact rfl))) ?_
                refine Eq.trans (zY_putI (by exact rfl) (by exact dX2_keep_62) (by exact rfl) (by exact zSh_k hq5) (by exact zSh_r0 hq5) (by exact fun h => absurd h (by decide)) (zcn (by exact rfl))) ?_
                refine Eq.trans (zY_step (by exact rfl) (by exact dX2_keep_65) (by exact rfl) (pc' := 67) (S' := [zR (some q5)]) (by exact rfl) (zcn (by exact rfl))) ?_
                refine Eq.trans (zY_step (by exact rfl) (by exact dX2_keep_67) (by exact rfl) (pc' := 68) (S' := [zI x3, zR (some q5)]) (by exact rfl) (zcn (by exact rfl))) ?_
                refine Eq.trans (zY_putI (by exact rfl) (by exact dX2_keep_68) (by exact rfl) (by exact zSh_k hq5) (by exact zSh_r1 hq5) (by exact fun h => absurd h (by decide)) (zcn (by exact rfl))) ?_
                refine Eq.trans (zY_step (by exact rfl) (by exact dX2_keep_71) (by exact rfl) (pc' := 73) (S' := [zR (some q5)]) (by exact rfl) (zcn (by exact rfl))) ?_
                refine Eq.trans (zY_step (by exact rfl) (by exact dX2_keep_73) (by exact rfl) (pc' := 75) (S' := [zI x4, zR (some q5)]) (by exact rfl) (zcn (by exact rfl))) ?_
                refine Eq.trans (zY_putI (by exact rfl) (by exact dX2_keep_75) (by exact rfl) (by exact zSh_k hq5) (by exact zSh_r2 hq5) (by exact fun h => absurd h (by decide)) (zcn (by exact rfl))) ?_
                refine Eq.trans (zY_step (by exact rfl) (by exact dX2_keep_78) (by exact rfl) (pc' := 79) (S' := [zI 0]) (by exact rfl) (zcn (by exact rfl))) ?_
                exact zq_ret (by exact dX2_keep_79) (by exact rfl) (rv := some (zI 0)) (by exact rfl)
              · refine Eq.trans (zY_step (by exact rfl) (by exact dX2_keep_57) (by exact rfl) (pc' := 58) (S' := [zI ((-1))]) (by exact rfl) (zcn (by exact rfl))) ?_
                exact zq_ret (by exact dX2_keep_58) (by exact rfl) (rv := some (zI ((-1)))) (by exact rfl)
      · refine Eq.trans (zY_step (by exact rfl) (by exact dX2_keep_27) (by exact rfl) (pc' := 29) (S' := [zR (some q5)]) (by exact rfl) (zcn (by exact rfl))) ?_
        refine Eq.trans (zY_step (by exact rfl) (by exact dX2_keep_29) (by exact rfl) (pc' := 30) (S' := [zI 0, zR (some q5)]) (by exact rfl) (zcn (by exact rfl))) ?_
        refine Eq.trans (zY_putI (by exact rfl) (by exact dX2_keep_30) (by exact rfl) (by exact zSh_k hq5) (by exact zSh_r0 hq5) (by exact fun h => absurd h (by decide)) (zcn (by exact rfl))) ?_
        refine Eq.trans (zY_step (by exact rfl) (by exact dX2_keep_33) (by exact rfl) (pc' := 34) (S' := [zI 0]) (by exact rfl) (zcn (by exact rfl))) ?_
        exact zq_ret (by exact dX2_keep_34) (by exact rfl) (rv := some (zI 0)) (by exact rfl)
    · refine Eq.trans (zY_step (by exact rfl) (by exact dX2_keep_21) (by exact rfl) (pc' := 22) (S' := [zI ((-1))]) (by exact rfl) (zcn (by exact rfl))) ?_
      exact zq_ret (by exact dX2_keep_22) (by exact rfl) (rv := some (zI ((-1)))) (by exact rfl)
theorem b_X2_keep_5_2 (d : Nat) (x1 x2 x3 x4 : Int) (σ : zS) : zq d mX2_keep 5 [some (zR (some 0)), some (zI x1), some (zI x2), some (zI x3), some (zI x4), none] [zR none] σ = some (some (zI ((-1))), σ) := by
  refine Eq.trans (zY_step (by exact rfl) (by exact dX2_keep_5) (by exact rfl) (pc' := 7) (L' := [some (zR (some 0)), some (zI x1), some (zI x2), some (zI x3), some (zI x4), some (zR none)]) (S' := []) (by exact rfl) (zcn (by exact rfl))) ?_
  refine Eq.trans (zY_step (by exact rfl) (by exact dX2_keep_7) (by exact rfl) (pc' := 9) (S' := [zR none]) (by exact rfl) (zcn (by exact rfl))) ?_
  refine Eq.trans (zY_step (by exact rfl) (by exact dX2_keep_9) (by exact rfl) (pc' := 21) (S' := []) (L2 := [none, none, none, none, none, none]) (by exact rfl) (by exact rfl)) ?_
  refine Eq.trans (zY_step (by exact rfl) (by exact dX2_keep_21) (by exact rfl) (pc' := 22) (S' := [zI ((-1))]) (by exact rfl) (zcn (by exact rfl))) ?_
  exact zq_ret (by exact dX2_keep_22) (by exact rfl) (rv := some (zI ((-1)))) (by exact rfl)
theorem e_X2_row (d : Nat) (x1 x2 x3 : Int) (σ : zS) : zc (d + 1) mX2_row [zR (some 0), zI x1, zI x2, zI x3] σ = (zc d mX2_shelfAt [zR (some 0), zI x1] σ).bind fun r => zq (d + 1) mX2_row 5 [some (zR (some 0)), some (zI x1), some (zI x2), some (zI x3), none] (r.1.toList ++ []) r.2 := by
  refine Eq.trans (zc_zq (L := [some (zR (some 0)), some (zI x1), some (zI x2), some (zI x3), none]) (by exact rfl)) ?_
  refine Eq.trans (zY_step (by exact rfl) (by exact dX2_row_0) (by exact rfl) (pc' := 1) (S' := [zR (some 0)]) (by exact rfl) (zcn (by exact rfl))) ?_
  refine Eq.trans (zY_step (by exact rfl) (by exact dX2_row_1) (by exact rfl) (pc' := 2) (S' := [zI x1, zR (some 0)]) (by exact rfl) (zcn (by exact rfl))) ?_
  exact zY_V (by exact rfl) (by exact dX2_row_2) (by exact rfl) (as := [zI x1]) (S' := []) (by exact rfl) (by exact rfl) (by exact rfl) (by exact Nat.le_of_ble_eq_true rfl) (by exact Nat.le_of_ble_eq_true rfl) (by exact Nat.le_of_ble_eq_true rfl) (zcn (by exact rfl))
theorem b_X2_row_5 (d : Nat) (x1 x2 x3 : Int) {q5 : Nat} (hq5 : zSh q5) (σ : zS) : zq (d + 1) mX2_row 5 [some (zR (some 0)), some (zI x1), some (zI x2), some (zI x3), none] [zR (some q5)] σ = (if nrm x2 < 0 then some (some (zI ((-1))), σ) else (if 2 < nrm x2 then some (some (zI ((-1))), σ) else (if nrm x3 ≤ 100 then (if 0 ≤ nrm x3 then (zc d mJ7_fill_53178 [zR (some (q5 + 1)), zI 0] (zup (zup (zup σ q5 0 2) q5 3 x2) q5 4 x3)).bind fun r => zq (d + 1) mX2_row 63 [some (zR (some 0)), some (zI x1), some (zI x2), some (zI x3), some (zR (some q5))] (r.1.toList ++ []) r.2 else some (some (zI ((-14))), σ)) else some (some (zI ((-1))), σ)))) := by
  refine Eq.trans (zY_step (by exact rfl) (by exact dX2_row_5) (by exact rfl) (pc' := 7) (L' := [some (zR (some 0)), some (zI x1), some (zI x2), some (zI x3), some (zR (some q5))]) (S' := []) (by exact rfl) (zcn (by exact rfl))) ?_
  refine Eq.trans (zY_step (by exact rfl) (by exact dX2_row_7) (by exact rfl) (pc' := 9) (S' := [zR (some q5)]) (by exact rfl) (zcn (by exact rfl))) ?_
  refine Eq.trans (zY_step (by exact rfl) (by exact dX2_row_9) (by exact rfl) (pc' := 12) (S' := []) (by exact rfl) (zcn (by exact rfl))) ?_
  refine Eq.trans (zY_step (by exact rfl) (by exact dX2_row_12) (by exact rfl) (pc' := 13) (S' := [zI x2]) (by exact rfl) (zcn (by exact rfl))) ?_
  refine Eq.trans (zY_if_lt (by exact rfl) (by exact dX2_row_13) (t := 27) (by exact rfl) (a2 := nrm x2) (by exact rfl) (L1 := [none, none, none, none, none]) (by exact rfl) (zcn (by exact rfl))) (zif ?_ ?_)
  · refine Eq.trans (zY_step (by exact rfl) (by exact dX2_row_27) (by exact rfl) (pc' := 28) (S' := [zI ((-1))]) (by exact rfl) (zcn (by exact rfl))) ?_
    exact zq_ret (by exact dX2_row_28) (by exact rfl) (rv := some (zI ((-1)))) (by exact rfl)
  · refine Eq.trans (zY_step (by exact rfl) (by exact dX2_row_16) (by exact rfl) (pc' := 17) (S' := [zI x2]) (by exact rfl) (zcn (by exact rfl))) ?_
    refine Eq.trans (zY_step (by exact rfl) (by exact dX2_row_17) (by exact rfl) (pc' := 18) (S' := [zI 2, zI x2]) (by exact rfl) (zcn (by exact rfl))) ?_
    refine Eq.trans (zY_ic_gt (by exact rfl) (by exact dX2_row_18) (t := 27) (by exact rfl) (a2 := nrm x2) (b2 := 2) (by exact rfl) (by decide) (L1 := [none, none, none, none, none]) (by exact rfl) (zcn (by exact rfl))) (zif ?_ ?_)
    · refine Eq.trans (zY_step (by exact rfl) (by exact dX2_row_27) (by exact rfl) (pc' := 28) (S' := [zI ((-1))]) (by exact rfl) (zcn (by exact rfl))) ?_
      exact zq_ret (by exact dX2_row_28) (by exact rfl) (rv := some (zI ((-1)))) (by exact rfl)
    · refine Eq.trans (zY_step (by exact rfl) (by exact dX2_row_21) (by exact rfl) (pc' := 22) (S' := [zI x3]) (by exact rfl) (zcn (by exact rfl))) ?_
      refine Eq.trans (zY_step (by exact rfl) (by exact dX2_row_22) (by exact rfl) (pc' := 24) (S' := [zI 100, zI x3]) (by exact rfl) (zcn (by exact rfl))) ?_
      refine Eq.trans (zY_ic_le (by exact rfl) (by exact dX2_row_24) (t := 29) (by exact rfl) (a2 := nrm x3) (b2 := 100) (by exact rfl) (by decide) (L2 := [none, none, none, none, none]) (zcn (by exact rfl)) (by exact rfl)) (zif ?_ ?_)
      · refine Eq.trans (zY_step (by exact rfl) (by exact dX2_row_29) (by exact rfl) (pc' := 30) (S' := [zI x3]) (by exact rfl) (zcn (by exact rfl))) ?_
        refine Eq.trans (zY_if_ge (by exact rfl) (by exact dX2_row_30) (t := 36) (by exact rfl) (a2 := nrm x3) (by exact rfl) (zcn (by exact rfl)) (zcn (by exact rfl))) (zif ?_ ?_)
        · refine Eq.trans (zY_step (by exact rfl) (by exact dX2_row_36) (by exact rfl) (pc' := 38) (S' := [zR (some q5)]) (by exact rfl) (zcn (by exact rfl))) ?_
          refine Eq.trans (zY_step (by exact rfl) (by exact dX2_row_38) (by exact rfl) (pc' := 39) (S' := [zI 2, zR (some q5)]) (by exact rfl) (zcn (by exact rfl))) ?_
          refine Eq.trans (zY_putI (by exact rfl) (by exact dX2_row_39) (by exact rfl) (by exact zSh_k hq5) (by exact zSh_r0 hq5) (by exact fun h => absurd h (by decide)) (zcn (by exact rfl))) ?_
          refine Eq.trans (zY_step (by exact rfl) (by exact dX2_row_42) (by exact rfl) (pc' := 44) (S' := [zR (some q5)]) (by exact rfl) (zcn (by exact rfl))) ?_
          refine Eq.trans (zY_step (by exact rfl) (by exact dX2_row_44) (by exact rfl) (pc' := 45) (S' := [zI x2, zR (some q5)]) (by exact rfl) (zcn (by exact rfl))) ?_
          refine Eq.trans (zY_putI (by exact rfl) (by exact dX2_row_45) (by exact rfl) (by exact zSh_k hq5) (by exact zSh_r3 hq5) (by exact fun h => absurd h (by decide)) (zcn (by exact rfl))) ?_
          refine Eq.trans (zY_step (by exact rfl) (by exact dX2_row_48) (by exact rfl) (pc' := 50) (S' := [zR (some q5)]) (by exact rfl) (zcn (by exact rfl))) ?_
          refine Eq.trans (zY_step (by exact rfl) (by exact dX2_row_50) (by exact rfl) (pc' := 51) (S' := [zI x3, zR (some q5)]) (by exact rfl) (zcn (by exact rfl))) ?_
          refine Eq.trans (zY_putI (by exact rfl) (by exact dX2_row_51) (by exact rfl) (by exact zSh_k hq5) (by exact zSh_r4 hq5) (by exact fun h => absurd h (by decide)) (zcn (by exact rfl))) ?_
          refine Eq.trans (zY_step (by exact rfl) (by exact dX2_row_54) (by exact rfl) (pc' := 56) (S' := [zR (some q5)]) (by exact rfl) (zcn (by exact rfl))) ?_
          refine Eq.trans (zY_getR (by exact rfl) (by exact dX2_row_56) (by exact rfl) (by exact zSh_k hq5) (by exact zSh_r5 hq5) (zcn (by exact rfl))) ?_
          refine Eq.trans (zY_step (by exact rfl) (by exact dX2_row_59) (by exact rfl) (pc' := 60) (S' := [zI 0, zR (some (q5 + 1))]) (by exact rfl) (zcn (by exact rfl))) ?_
          exact zY_S (by exact rfl) (by exact dX2_row_60) (by exact rfl) (by exact Or.inl rfl) (as := [zR (some (q5 + 1)), zI 0]) (S' := []) (by exact rfl) (by exact rfl) (by exact Nat.le_of_ble_eq_true rfl) (by exact Nat.le_of_ble_eq_true rfl) (zcn (by exact rfl))
        · refine Eq.trans (zY_step (by exact rfl) (by exact dX2_row_33) (by exact rfl) (pc' := 35) (S' := [zI ((-14))]) (by exact rfl) (zcn (by exact rfl))) ?_
          exact zq_ret (by exact dX2_row_35) (by exact rfl) (rv := some (zI ((-14)))) (by exact rfl)
      · refine Eq.trans (zY_step (by exact rfl) (by exact dX2_row_27) (by exact rfl) (pc' := 28) (S' := [zI ((-1))]) (by exact rfl) (zcn (by exact rfl))) ?_
        exact zq_ret (by exact dX2_row_28) (by exact rfl) (rv := some (zI ((-1)))) (by exact rfl)
theorem b_X2_row_5_2 (d : Nat) (x1 x2 x3 : Int) (σ : zS) : zq d mX2_row 5 [some (zR (some 0)), some (zI x1), some (zI x2), some (zI x3), none] [zR none] σ = some (some (zI ((-1))), σ) := by
  refine Eq.trans (zY_step (by exact rfl) (by exact dX2_row_5) (by exact rfl) (pc' := 7) (L' := [some (zR (some 0)), some (zI x1), some (zI x2), some (zI x3), some (zR none)]) (S' := []) (by exact rfl) (zcn (by exact rfl))) ?_
  refine Eq.trans (zY_step (by exact rfl) (by exact dX2_row_7) (by exact rfl) (pc' := 9) (S' := [zR none]) (by exact rfl) (zcn (by exact rfl))) ?_
  refine Eq.trans (zY_step (by exact rfl) (by exact dX2_row_9) (by exact rfl) (pc' := 27) (S' := []) (L2 := [none, none, none, none, none]) (by exact rfl) (by exact rfl)) ?_
  refine Eq.trans (zY_step (by exact rfl) (by exact dX2_row_27) (by exact rfl) (pc' := 28) (S' := [zI ((-1))]) (by exact rfl) (zcn (by exact rfl))) ?_
  exact zq_ret (by exact dX2_row_28) (by exact rfl) (rv := some (zI ((-1)))) (by exact rfl)
theorem b_X2_row_63 (d : Nat) (x1 x2 x3 : Int) {q5 : Nat} (hq5 : zSh q5) (σ : zS) : zq d mX2_row 63 [some (zR (some 0)), some (zI x1), some (zI x2), some (zI x3), some (zR (some q5))] [] σ = some (some (zI 0), σ) := by
  refine Eq.trans (zY_step (by exact rfl) (by exact dX2_row_63) (by exact rfl) (pc' := 64) (S' := [zI 0]) (by exact rfl) (zcn (by exact rfl))) ?_
  exact zq_ret (by exact dX2_row_64) (by exact rfl) (rv := some (zI 0)) (by exact rfl)
theorem e_X2_put (d : Nat) (x1 x2 x3 : Int) (σ : zS) : zc (d + 1) mX2_put [zR (some 0), zI x1, zI x2, zI x3] σ = (zc d mX2_shelfAt [zR (some 0), zI x1] σ).bind fun r => zq (d + 1) mX2_put 5 [some (zR (some 0)), some (zI x1), some (zI x2), some (zI x3), none, none] (r.1.toList ++ []) r.2 := by
  refine Eq.trans (zc_zq (L := [some (zR (some 0)), some (zI x1), some (zI x2), some (zI x3), none, none]) (by exact rfl)) ?_
  refine Eq.trans (zY_step (by exact rfl) (by exact dX2_put_0) (by exact rfl) (pc' := 1) (S' := [zR (some 0)]) (by exact rfl) (zcn (by exact rfl))) ?_
  refine Eq.trans (zY_step (by exact rfl) (by exact dX2_put_1) (by exact rfl) (pc' := 2) (S' := [zI x1, zR (some 0)]) (by exact rfl) (zcn (by exact rfl))) ?_
  exact zY_V (by exact rfl) (by exact dX2_put_2) (by exact rfl) (as := [zI x1]) (S' := []) (by exact rfl) (by exact rfl) (by exact rfl) (by exact Nat.le_of_ble_eq_true rfl) (by exact Nat.le_of_ble_eq_true rfl) (by exact Nat.le_of_ble_eq_true rfl) (zcn (by exact rfl))
theorem b_X2_put_5 (d : Nat) (x1 x2 x3 : Int) {q5 : Nat} (hq5 : zSh q5) (σ : zS) : zq (d + 1) mX2_put 5 [some (zR (some 0)), some (zI x1), some (zI x2), some (zI x3), none, none] [zR (some q5)] σ = (zc d mX1_refusalUnless [zR (some q5), zI 2] σ).bind fun r => zq (d + 1) mX2_put 20 [some (zR (some 0)), some (zI x1), some (zI x2), some (zI x3), some (zR (some q5)), none] (r.1.toList ++ []) r.2 := by
  refine Eq.trans (zY_step (by exact rfl) (by exact dX2_put_5) (by exact rfl) (pc' := 7) (L' := [some (zR (some 0)), some (zI x1), some (zI x2), some (zI x3), some (zR (some q5)), none]) (S' := []) (by exact rfl) (zcn (by exact rfl))) ?_
  refine Eq.trans (zY_step (by exact rfl) (by exact dX2_put_7) (by exact rfl) (pc' := 9) (S' := [zR (some q5)]) (by exact rfl) (zcn (by exact rfl))) ?_
  refine Eq.trans (zY_step (by exact rfl) (by exact dX2_put_9) (by exact rfl) (pc' := 14) (S' := []) (by exact rfl) (zcn (by exact rfl))) ?_
  refine Eq.trans (zY_step (by exact rfl) (by exact dX2_put_14) (by exact rfl) (pc' := 16) (S' := [zR (some q5)]) (by exact rfl) (zcn (by exact rfl))) ?_
  refine Eq.trans (zY_step (by exact rfl) (by exact dX2_put_16) (by exact rfl) (pc' := 17) (S' := [zI 2, zR (some q5)]) (by exact rfl) (zcn (by exact rfl))) ?_
  exact zY_V (by exact rfl) (by exact dX2_put_17) (by exact rfl) (as := [zI 2]) (S' := []) (by exact rfl) (by exact rfl) (by exact zSh_k hq5) (by exact Nat.le_of_ble_eq_true rfl) (by exact Nat.le_of_ble_eq_true rfl) (by exact Nat.le_of_ble_eq_true rfl) (zcn (by exact rfl))
theorem b_X2_put_5_2 (d : Nat) (x1 x2 x3 : Int) (σ : zS) : zq d mX2_put 5 [some (zR (some 0)), some (zI x1), some (zI x2), some (zI x3), none, none] [zR none] σ = some (some (zI ((-1))), σ) := by
  refine Eq.trans (zY_step (by exact rfl) (by exact dX2_put_5) (by exact rfl) (pc' := 7) (L' := [some (zR (some 0)), some (zI x1), some (zI x2), some (zI x3), some (zR none), none]) (S' := []) (by exact rfl) (zcn (by exact rfl))) ?_
  refine Eq.trans (zY_step (by exact rfl) (by exact dX2_put_7) (by exact rfl) (pc' := 9) (S' := [zR none]) (by exact rfl) (zcn (by exact rfl))) ?_
  refine Eq.trans (zY_step (by exact rfl) (by exact dX2_put_9) (by exact rfl) (pc' := 12) (S' := []) (by exact rfl) (zcn (by exact rfl))) ?_
  refine Eq.trans (zY_step (by exact rfl) (by exact dX2_put_12) (by exact rfl) (pc' := 13) (S' := [zI ((-1))]) (by exact rfl) (zcn (by exact rfl))) ?_
  exact zq_ret (by exact dX2_put_13) (by exact rfl) (rv := some (zI ((-1)))) (by exact rfl)
theorem b_X2_put_20 (d : Nat) (y0 x1 x2 x3 : Int) {q5 : Nat} (hq5 : zSh q5) (σ : zS) : zq (d + 1) mX2_put 20 [some (zR (some 0)), some (zI x1), some (zI x2), some (zI x3), some (zR (some q5)), none] [zI y0] σ = (if nrm y0 = 0 then (zc d mX1_isPlace [zR (some q5), zI x2] σ).bind fun r => zq (d + 1) mX2_put 36 [some (zR (some 0)), some (zI x1), some (zI x2), some (zI x3), some (zR (some q5)), some (zI y0)] (r.1.toList ++ []) r.2 else some (some (zI y0), σ)) := by
  refine Eq.trans (zY_step (by exact rfl) (by exact dX2_put_20) (by exact rfl) (pc' := 22) (L' := [some (zR (some 0)), some (zI x1), some (zI x2), some (zI x3), some (zR (some q5)), some (zI y0)]) (S' := []) (by exact rfl) (zcn (by exact rfl))) ?_
  refine Eq.trans (zY_step (by exact rfl) (by exact dX2_put_22) (by exact rfl) (pc' := 24) (S' := [zI y0]) (by exact rfl) (zcn (by exact rfl))) ?_
  refine Eq.trans (zY_if_eq (by exact rfl) (by exact dX2_put_24) (t := 30) (by exact rfl) (a2 := nrm y0) (by exact rfl) (zcn (by exact rfl)) (zcn (by exact rfl))) (zif ?_ ?_)
  · refine Eq.trans (zY_step (by exact rfl) (by exact dX2_put_30) (by exact rfl) (pc' := 32) (S' := [zR (some q5)]) (by exact rfl) (zcn (by exact rfl))) ?_
    refine Eq.trans (zY_step (by exact rfl) (by exact dX2_put_32) (by exact rfl) (pc' := 33) (S' := [zI x2, zR (some q5)]) (by exact rfl) (zcn (by exact rfl))) ?_
    exact zY_V (by exact rfl) (by exact dX2_put_33) (by exact rfl) (as := [zI x2]) (S' := []) (by exact rfl) (by exact rfl) (by exact zSh_k hq5) (by exact Nat.le_of_ble_eq_true rfl) (by exact Nat.le_of_ble_eq_true rfl) (by exact Nat.le_of_ble_eq_true rfl) (zcn (by exact rfl))
  · refine Eq.trans (zY_step (by exact rfl) (by exact dX2_put_27) (by exact rfl) (pc' := 29) (S' := [zI y0]) (by exact rfl) (zcn (by exact rfl))) ?_
    exact zq_ret (by exact dX2_put_29) (by exact rfl) (rv := some (zI y0)) (by exact rfl)
theorem b_X2_put_36 (d : Nat) (y0 x1 x2 x3 x5 : Int) {q5 : Nat} (hq5 : zSh q5) (σ : zS) : zq (d + 1) mX2_put 36 [some (zR (some 0)), some (zI x1), some (zI x2), some (zI x3), some (zR (some q5)), some (zI x5)] [zI y0] σ = (if ¬ nrm y0 = 0 then (zc d mX2_lowestBits [zI (σ q5 3), zI x3] σ).bind fun r => zq (d + 1) mX2_put 57 [some (zR (some 0)), some (zI x1), some (zI x2), some (zI x3), some (zR (some q5)), some (zI x5)] (r.1.toList ++ [zI x2, zR (some (q5 + 1))]) r.2 else some (some (zI ((-13))), σ)) := by
  refine Eq.trans (zY_if_ne (by exact rfl) (by exact dX2_put_36) (t := 42) (by exact rfl) (a2 := nrm y0) (by exact rfl) (zcn (by exact rfl)) (zcn (by exact rfl))) (zif ?_ ?_)
  · refine Eq.trans (zY_step (by exact rfl) (by exact dX2_put_42) (by exact rfl) (pc' := 44) (S' := [zR (some q5)]) (by exact rfl) (zcn (by exact rfl))) ?_
    refine Eq.trans (zY_getR (by exact rfl) (by exact dX2_put_44) (by exact rfl) (by exact zSh_k hq5) (by exact zSh_r5 hq5) (zcn (by exact rfl))) ?_
    refine Eq.trans (zY_step (by exact rfl) (by exact dX2_put_47) (by exact rfl) (pc' := 48) (S' := [zI x2, zR (some (q5 + 1))]) (by exact rfl) (zcn (by exact rfl))) ?_
    refine Eq.trans (zY_step (by exact rfl) (by exact dX2_put_48) (by exact rfl) (pc' := 50) (S' := [zR (some q5), zI x2, zR (some (q5 + 1))]) (by exact rfl) (zcn (by exact rfl))) ?_
    refine Eq.trans (zY_getI (by exact rfl) (by exact dX2_put_50) (by exact rfl) (by exact zSh_k hq5) (by exact zSh_r3 hq5) (zcn (by exact rfl))) ?_
    refine Eq.trans (zY_step (by exact rfl) (by exact dX2_put_53) (by exact rfl) (pc' := 54) (S' := [zI x3, zI (σ q5 3), zI x2, zR (some (q5 + 1))]) (by exact rfl) (zcn (by exact rfl))) ?_
    exact zY_S (by exact rfl) (by exact dX2_put_54) (by exact rfl) (by exact Or.inl rfl) (as := [zI (σ q5 3), zI x3]) (S' := [zI x2, zR (some (q5 + 1))]) (by exact rfl) (by exact rfl) (by exact Nat.le_of_ble_eq_true rfl) (by exact Nat.le_of_ble_eq_true rfl) (zcn (by exact rfl))
  · refine Eq.trans (zY_step (by exact rfl) (by exact dX2_put_39) (by exact rfl) (pc' := 41) (S' := [zI ((-13))]) (by exact rfl) (zcn (by exact rfl))) ?_
    exact zq_ret (by exact dX2_put_41) (by exact rfl) (rv := some (zI ((-13)))) (by exact rfl)
theorem b_X2_put_57 (d : Nat) (y0 y1 x1 x2 x3 x5 : Int) {q5 : Nat} (hq5 : zSh q5) (σ : zS) : zq d mX2_put 57 [some (zR (some 0)), some (zI x1), some (zI x2), some (zI x3), some (zR (some q5)), some (zI x5)] [zI y0, zI y1, zR (some (q5 + 1))] σ = (if zix y1 100 then some (some (zI 0), zup σ (q5 + 1) (nrm y1).toNat y0) else none) := by
  refine Eq.trans (zY_iast (by exact rfl) (by exact dX2_put_57) (by exact zSh_a1 hq5) (by exact zSh_n1 hq5) (zcn (by exact rfl))) (zif ?_ rfl)
  · refine Eq.trans (zY_step (by exact rfl) (by exact dX2_put_58) (by exact rfl) (pc' := 59) (S' := [zI 0]) (by exact rfl) (zcn (by exact rfl))) ?_
    exact zq_ret (by exact dX2_put_59) (by exact rfl) (rv := some (zI 0)) (by exact rfl)
theorem e_X2_copy (d : Nat) (x1 x2 x3 x4 x5 : Int) (σ : zS) : zc (d + 1) mX2_copy [zR (some 0), zI x1, zI x2, zI x3, zI x4, zI x5] σ = (zc d mX2_shelfAt [zR (some 0), zI x1] σ).bind fun r => zq (d + 1) mX2_copy 5 [some (zR (some 0)), some (zI x1), some (zI x2), some (zI x3), some (zI x4), some (zI x5), none, none] (r.1.toList ++ []) r.2 := by
  refine Eq.trans (zc_zq (L := [some (zR (some 0)), some (zI x1), some (zI x2), some (zI x3), some (zI x4), some (zI x5), none, none]) (by exact rfl)) ?_
  refine Eq.trans (zY_step (by exact rfl) (by exact dX2_copy_0) (by exact rfl) (pc' := 1) (S' := [zR (some 0)]) (by exact rfl) (zcn (by exact rfl))) ?_
  refine Eq.trans (zY_step (by exact rfl) (by exact dX2_copy_1) (by exact rfl) (pc' := 2) (S' := [zI x1, zR (some 0)]) (by exact rfl) (zcn (by exact rfl))) ?_
  exact zY_V (by exact rfl) (by exact dX2_copy_2) (by exact rfl) (as := [zI x1]) (S' := []) (by exact rfl) (by exact rfl) (by exact rfl) (by exact Nat.le_of_ble_eq_true rfl) (by exact Nat.le_of_ble_eq_true rfl) (by exact Nat.le_of_ble_eq_true rfl) (zcn (by exact rfl))
theorem b_X2_copy_5 (d : Nat) (x1 x2 x3 x4 x5 : Int) {q5 : Nat} (hq5 : zSh q5) (σ : zS) : zq (d + 1) mX2_copy 5 [some (zR (some 0)), some (zI x1), some (zI x2), some (zI x3), some (zI x4), some (zI x5), none, none] [zR (some q5)] σ = (zc d mX2_shelfAt [zR (some 0), zI x3] σ).bind fun r => zq (d + 1) mX2_copy 12 [some (zR (some 0)), some (zI x1), some (zI x2), some (zI x3), some (zI x4), some (zI x5), some (zR (some q5)), none] (r.1.toList ++ []) r.2 := by
  refine Eq.trans (zY_step (by exact rfl) (by exact dX2_copy_5) (by exact rfl) (pc' := 7) (L' := [some (zR (some 0)), some (zI x1), some (zI x2), some (zI x3), some (zI x4), some (zI x5), some (zR (some q5)), none]) (S' := []) (by exact rfl) (zcn (by exact rfl))) ?_
  refine Eq.trans (zY_step (by exact rfl) (by exact dX2_copy_7) (by exact rfl) (pc' := 8) (S' := [zR (some 0)]) (by exact rfl) (zcn (by exact rfl))) ?_
  refine Eq.trans (zY_step (by exact rfl) (by exact dX2_copy_8) (by exact rfl) (pc' := 9) (S' := [zI x3, zR (some 0)]) (by exact rfl) (zcn (by exact rfl))) ?_
  exact zY_V (by exact rfl) (by exact dX2_copy_9) (by exact rfl) (as := [zI x3]) (S' := []) (by exact rfl) (by exact rfl) (by exact rfl) (by exact Nat.le_of_ble_eq_true rfl) (by exact Nat.le_of_ble_eq_true rfl) (by exact Nat.le_of_ble_eq_true rfl) (zcn (by exact rfl))
theorem b_X2_copy_5_2 (d : Nat) (x1 x2 x3 x4 x5 : Int) (σ : zS) : zq (d + 1) mX2_copy 5 [some (zR (some 0)), some (zI x1), some (zI x2), some (zI x3), some (zI x4), some (zI x5), none, none] [zR none] σ = (zc d mX2_shelfAt [zR (some 0), zI x3] σ).bind fun r => zq (d + 1) mX2_copy 12 [some (zR (some 0)), some (zI x1), some (zI x2), some (zI x3), some (zI x4), some (zI x5), some (zR none), none] (r.1.toList ++ []) r.2 := by
  refine Eq.trans (zY_step (by exact rfl) (by exact dX2_copy_5) (by exact rfl) (pc' := 7) (L' := [some (zR (some 0)), some (zI x1), some (zI x2), some (zI x3), some (zI x4), some (zI x5), some (zR none), none]) (S' := []) (by exact rfl) (zcn (by exact rfl))) ?_
  refine Eq.trans (zY_step (by exact rfl) (by exact dX2_copy_7) (by exact rfl) (pc' := 8) (S' := [zR (some 0)]) (by exact rfl) (zcn (by exact rfl))) ?_
  refine Eq.trans (zY_step (by exact rfl) (by exact dX2_copy_8) (by exact rfl) (pc' := 9) (S' := [zI x3, zR (some 0)]) (by exact rfl) (zcn (by exact rfl))) ?_
  exact zY_V (by exact rfl) (by exact dX2_copy_9) (by exact rfl) (as := [zI x3]) (S' := []) (by exact rfl) (by exact rfl) (by exact rfl) (by exact Nat.le_of_ble_eq_true rfl) (by exact Nat.le_of_ble_eq_true rfl) (by exact Nat.le_of_ble_eq_true rfl) (zcn (by exact rfl))
theorem b_X2_copy_12 (d : Nat) (x1 x2 x3 x4 x5 : Int) {q5 : Nat} (hq5 : zSh q5) {q12 : Nat} (hq12 : zSh q12) (σ : zS) : zq (d + 1) mX2_copy 12 [some (zR (some 0)), some (zI x1), some (zI x2), some (zI x3), some (zI x4), some (zI x5), some (zR (some q5)), none] [zR (some q12)] σ = (if nrm (σ q5 0) = 0 then some (some (zI ((-11))), σ) else (if ¬ nrm (σ q12 0) = 0 then (if ¬ nrm (σ q5 0) = 2 then some (some (zI ((-12))), σ) else (if ¬ nrm (σ q12 0) = 2 then some (some (zI ((-12))), σ) else (if nrm (σ q5 3) = nrm (σ q12 3) then (zc d mX1_hasPart [zR (some q5), zI x2, zI x5] σ).bind fun r => zq (d + 1) mX2_copy 87 [some (zR (some 0)), some (zI x1), some (zI x2), some (zI x3), some (zI x4), some (zI x5), some (zR (some q5)), some (zR (some q12))] (r.1.toList ++ []) r.2 else some (some (zI ((-12))), σ)))) else some (some (zI ((-11))), σ))) := by
  refine Eq.trans (zY_step (by exact rfl) (by exact dX2_copy_12) (by exact rfl) (pc' := 14) (L' := [some (zR (some 0)), some (zI x1), some (zI x2), some (zI x3), some (zI x4), some (zI x5), some (zR (some q5)), some (zR (some q12))]) (S' := []) (by exact rfl) (zcn (by exact rfl))) ?_
  refine Eq.trans (zY_step (by exact rfl) (by exact dX2_copy_14) (by exact rfl) (pc' := 16) (S' := [zR (some q5)]) (by exact rfl) (zcn (by exact rfl))) ?_
  refine Eq.trans (zY_step (by exact rfl) (by exact dX2_copy_16) (by exact rfl) (pc' := 19) (S' := []) (by exact rfl) (zcn (by exact rfl))) ?_
  refine Eq.trans (zY_step (by exact rfl) (by exact dX2_copy_19) (by exact rfl) (pc' := 21) (S' := [zR (some q12)]) (by exact rfl) (zcn (by exact rfl))) ?_
  refine Eq.trans (zY_step (by exact rfl) (by exact dX2_copy_21) (by exact rfl) (pc' := 26) (S' := []) (by exact rfl) (zcn (by exact rfl))) ?_
  refine Eq.trans (zY_step (by exact rfl) (by exact dX2_copy_26) (by exact rfl) (pc' := 28) (S' := [zR (some q5)]) (by exact rfl) (zcn (by exact rfl))) ?_
  refine Eq.trans (zY_getI (by exact rfl) (by exact dX2_copy_28) (by exact rfl) (by exact zSh_k hq5) (by exact zSh_r0 hq5) (zcn (by exact rfl))) ?_
  refine Eq.trans (zY_if_eq (by exact rfl) (by exact dX2_copy_31) (t := 42) (by exact rfl) (a2 := nrm (σ q5 0)) (by exact rfl) (L1 := [none, none, none, none, none, none, none, none]) (by exact rfl) (zcn (by exact rfl))) (zif ?_ ?_)
  · refine Eq.trans (zY_step (by exact rfl) (by exact dX2_copy_42) (by exact rfl) (pc' := 44) (S' := [zI ((-11))]) (by exact rfl) (zcn (by exact rfl))) ?_
    exact zq_ret (by exact dX2_copy_44) (by exact rfl) (rv := some (zI ((-11)))) (by exact rfl)
  · refine Eq.trans (zY_step (by exact rfl) (by exact dX2_copy_34) (by exact rfl) (pc' := 36) (S' := [zR (some q12)]) (by exact rfl) (zcn (by exact rfl))) ?_
    refine Eq.trans (zY_getI (by exact rfl) (by exact dX2_copy_36) (by exact rfl) (by exact zSh_k hq12) (by exact zSh_r0 hq12) (zcn (by exact rfl))) ?_
    refine Eq.trans (zY_if_ne (by exact rfl) (by exact dX2_copy_39) (t := 45) (by exact rfl) (a2 := nrm (σ q12 0)) (by exact rfl) (L2 := [none, none, none, none, none, none, none, none]) (zcn (by exact rfl)) (by exact rfl)) (zif ?_ ?_)
    · refine Eq.trans (zY_step (by exact rfl) (by exact dX2_copy_45) (by exact rfl) (pc' := 47) (S' := [zR (some q5)]) (by exact rfl) (zcn (by exact rfl))) ?_
      refine Eq.trans (zY_getI (by exact rfl) (by exact dX2_copy_47) (by exact rfl) (by exact zSh_k hq5) (by exact zSh_r0 hq5) (zcn (by exact rfl))) ?_
      refine Eq.trans (zY_step (by exact rfl) (by exact dX2_copy_50) (by exact rfl) (pc' := 51) (S' := [zI 2, zI (σ q5 0)]) (by exact rfl) (zcn (by exact rfl))) ?_
      refine Eq.trans (zY_ic_ne (by exact rfl) (by exact dX2_copy_51) (t := 76) (by exact rfl) (a2 := nrm (σ q5 0)) (b2 := 2) (by exact rfl) (by decide) (L1 := [none, none, none, none, none, none, none, none]) (by exact rfl) (zcn (by exact rfl))) (zif ?_ ?_)
      · refine Eq.trans (zY_step (by exact rfl) (by exact dX2_copy_76) (by exact rfl) (pc' := 78) (S' := [zI ((-12))]) (by exact rfl) (zcn (by exact rfl))) ?_
        exact zq_ret (by exact dX2_copy_78) (by exact rfl) (rv := some (zI ((-12)))) (by exact rfl)
      · refine Eq.trans (zY_step (by exact rfl) (by exact dX2_copy_54) (by exact rfl) (pc' := 56) (S' := [zR (some q12)]) (by exact rfl) (zcn (by exact rfl))) ?_
        refine Eq.trans (zY_getI (by exact rfl) (by exact dX2_copy_56) (by exact rfl) (by exact zSh_k hq12) (by exact zSh_r0 hq12) (zcn (by exact rfl))) ?_
        refine Eq.trans (zY_step (by exact rfl) (by exact dX2_copy_59) (by exact rfl) (pc' := 60) (S' := [zI 2, zI (σ q12 0)]) (by exact rfl) (zcn (by exact rfl))) ?_
        refine Eq.trans (zY_ic_ne (by exact rfl) (by exact dX2_copy_60) (t := 76) (by exact rfl) (a2 := nrm (σ q12 0)) (b2 := 2) (by exact rfl) (by decide) (L1 := [none, none, none, none, none, none, none, none]) (by exact rfl) (zcn (by exact rfl))) (zif ?_ ?_)
        · refine Eq.trans (zY_step (by exact rfl) (by exact dX2_copy_76) (by exact rfl) (pc' := 78) (S' := [zI ((-12))]) (by exact rfl) (zcn (by exact rfl))) ?_
          exact zq_ret (by exact dX2_copy_78) (by exact rfl) (rv := some (zI ((-12)))) (by exact rfl)
        · refine Eq.trans (zY_step (by exact rfl) (by exact dX2_copy_63) (by exact rfl) (pc' := 65) (S' := [zR (some q5)]) (by exact rfl) (zcn (by exact rfl))) ?_
          refine Eq.trans (zY_getI (by exact rfl) (by exact dX2_copy_65) (by exact rfl) (by exact zSh_k hq5) (by exact zSh_r3 hq5) (zcn (by exact rfl))) ?_
          refine Eq.trans (zY_step (by exact rfl) (by exact dX2_copy_68) (by exact rfl) (pc' := 70) (S' := [zR (some q12), zI (σ q5 3)]) (by exact rfl) (zcn (by exact rfl))) ?_
          refine Eq.trans (zY_getI (by exact rfl) (by exact dX2_copy_70) (by exact rfl) (by exact zSh_k hq12) (by exact zSh_r3 hq12) (zcn (by exact rfl))) ?_
          refine Eq.trans (zY_ic_eq (by exact rfl) (by exact dX2_copy_73) (t := 79) (by exact rfl) (a2 := nrm (σ q5 3)) (b2 := nrm (σ q12 3)) (by exact rfl) (by exact rfl) (L2 := [none, none, none, none, none, none, none, none]) (zcn (by exact rfl)) (by exact rfl)) (zif ?_ ?_)
          · refine Eq.trans (zY_step (by exact rfl) (by exact dX2_copy_79) (by exact rfl) (pc' := 81) (S' := [zR (some q5)]) (by exact rfl) (zcn (by exact rfl))) ?_
            refine Eq.trans (zY_step (by exact rfl) (by exact dX2_copy_81) (by exact rfl) (pc' := 82) (S' := [zI x2, zR (some q5)]) (by exact rfl) (zcn (by exact rfl))) ?_
            refine Eq.trans (zY_step (by exact rfl) (by exact dX2_copy_82) (by exact rfl) (pc' := 84) (S' := [zI x5, zI x2, zR (some q5)]) (by exact rfl) (zcn (by exact rfl))) ?_
            exact zY_V (by exact rfl) (by exact dX2_copy_84) (by exact rfl) (as := [zI x2, zI x5]) (S' := []) (by exact rfl) (by exact rfl) (by exact zSh_k hq5) (by exact Nat.le_of_ble_eq_true rfl) (by exact Nat.le_of_ble_eq_true rfl) (by exact Nat.le_of_ble_eq_true rfl) (zcn (by exact rfl))
          · refine Eq.trans (zY_step (by exact rfl) (by exact dX2_copy_76) (by exact rfl) (pc' := 78) (S' := [zI ((-12))]) (by exact rfl) (zcn (by exact rfl))) ?_
            exact zq_ret (by exact dX2_copy_78) (by exact rfl) (rv := some (zI ((-12)))) (by exact rfl)
    · refine Eq.trans (zY_step (by exact rfl) (by exact dX2_copy_42) (by exact rfl) (pc' := 44) (S' := [zI ((-11))]) (by exact rfl) (zcn (by exact rfl))) ?_
      exact zq_ret (by exact dX2_copy_44) (by exact rfl) (rv := some (zI ((-11)))) (by exact rfl)
theorem b_X2_copy_12_2 (d : Nat) (x1 x2 x3 x4 x5 : Int) {q5 : Nat} (hq5 : zSh q5) (σ : zS) : zq d mX2_copy 12 [some (zR (some 0)), some (zI x1), some (zI x2), some (zI x3), some (zI x4), some (zI x5), some (zR (some q5)), none] [zR none] σ = some (some (zI ((-1))), σ) := by
  refine Eq.trans (zY_step (by exact rfl) (by exact dX2_copy_12) (by exact rfl) (pc' := 14) (L' := [some (zR (some 0)), some (zI x1), some (zI x2), some (zI x3), some (zI x4), some (zI x5), some (zR (some q5)), some (zR none)]) (S' := []) (by exact rfl) (zcn (by exact rfl))) ?_
  refine Eq.trans (zY_step (by exact rfl) (by exact dX2_copy_14) (by exact rfl) (pc' := 16) (S' := [zR (some q5)]) (by exact rfl) (zcn (by exact rfl))) ?_
  refine Eq.trans (zY_step (by exact rfl) (by exact dX2_copy_16) (by exact rfl) (pc' := 19) (S' := []) (by exact rfl) (zcn (by exact rfl))) ?_
  refine Eq.trans (zY_step (by exact rfl) (by exact dX2_copy_19) (by exact rfl) (pc' := 21) (S' := [zR none]) (by exact rfl) (zcn (by exact rfl))) ?_
  refine Eq.trans (zY_step (by exact rfl) (by exact dX2_copy_21) (by exact rfl) (pc' := 24) (S' := []) (L2 := [none, none, none, none, none, none, none, none]) (by exact rfl) (by exact rfl)) ?_
  refine Eq.trans (zY_step (by exact rfl) (by exact dX2_copy_24) (by exact rfl) (pc' := 25) (S' := [zI ((-1))]) (by exact rfl) (zcn (by exact rfl))) ?_
  exact zq_ret (by exact dX2_copy_25) (by exact rfl) (rv := some (zI ((-1)))) (by exact rfl)
theorem b_X2_copy_12_3 (d : Nat) (x1 x2 x3 x4 x5 : Int) {q12 : Nat} (hq12 : zSh q12) (σ : zS) : zq d mX2_copy 12 [some (zR (some 0)), some (zI x1), some (zI x2), some (zI x3), some (zI x4), some (zI x5), some (zR none), none] [zR (some q12)] σ = some (some (zI ((-1))), σ) := by
  refine Eq.trans (zY_step (by exact rfl) (by exact dX2_copy_12) (by exact rfl) (pc' := 14) (L' := [some (zR (some 0)), some (zI x1), some (zI x2), some (zI x3), some (zI x4), some (zI x5), some (zR none), some (zR (some q12))]) (S' := []) (by exact rfl) (zcn (by exact rfl))) ?_
  refine Eq.trans (zY_step (by exact rfl) (by exact dX2_copy_14) (by exact rfl) (pc' := 16) (S' := [zR none]) (by exact rfl) (zcn (by exact rfl))) ?_
  refine Eq.trans (zY_step (by exact rfl) (by exact dX2_copy_16) (by exact rfl) (pc' := 24) (S' := []) (L2 := [none, none, none, none, none, none, none, none]) (by exact rfl) (by exact rfl)) ?_
  refine Eq.trans (zY_step (by exact rfl) (by exact dX2_copy_24) (by exact rfl) (pc' := 25) (S' := [zI ((-1))]) (by exact rfl) (zcn (by exact rfl))) ?_
  exact zq_ret (by exact dX2_copy_25) (by exact rfl) (rv := some (zI ((-1)))) (by exact rfl)
theorem b_X2_copy_12_4 (d : Nat) (x1 x2 x3 x4 x5 : Int) (σ : zS) : zq d mX2_copy 12 [some (zR (some 0)), some (zI x1), some (zI x2), some (zI x3), some (zI x4), some (zI x5), some (zR none), none] [zR none] σ = some (some (zI ((-1))), σ) := by
  refine Eq.trans (zY_step (by exact rfl) (by exact dX2_copy_12) (by exact rfl) (pc' := 14) (L' := [some (zR (some 0)), some (zI x1), some (zI x2), some (zI x3), some (zI x4), some (zI x5), some (zR none), some (zR none)]) (S' := []) (by exact rfl) (zcn (by exact rfl))) ?_
  refine Eq.trans (zY_step (by exact rfl) (by exact dX2_copy_14) (by exact rfl) (pc' := 16) (S' := [zR none]) (by exact rfl) (zcn (by exact rfl))) ?_
  refine Eq.trans (zY_step (by exact rfl) (by exact dX2_copy_16) (by exact rfl) (pc' := 24) (S' := []) (L2 := [none, none, none, none, none, none, none, none]) (by exact rfl) (by exact rfl)) ?_
  refine Eq.trans (zY_step (by exact rfl) (by exact dX2_copy_24) (by exact rfl) (pc' := 25) (S' := [zI ((-1))]) (by exact rfl) (zcn (by exact rfl))) ?_
  exact zq_ret (by exact dX2_copy_25) (by exact rfl) (rv := some (zI ((-1)))) (by exact rfl)
theorem b_X2_copy_87 (d : Nat) (y0 x1 x2 x3 x4 x5 : Int) {q5 : Nat} (hq5 : zSh q5) {q12 : Nat} (hq12 : zSh q12) (σ : zS) : zq (d + 1) mX2_copy 87 [some (zR (some 0)), some (zI x1), some (zI x2), some (zI x3), some (zI x4), some (zI x5), some (zR (some q5)), some (zR (some q12))] [zI y0] σ = (if nrm y0 = 0 then some (some (zI ((-13))), σ) else (zc d mX1_hasPart [zR (some q12), zI x4, zI x5] σ).bind fun r => zq (d + 1) mX2_copy 99 [some (zR (some 0)), some (zI x1), some (zI x2), some (zI x3), some (zI x4), some (zI x5), some (zR (some q5)), some (zR (some q12))] (r.1.toList ++ []) r.2) := by
  refine Eq.trans (zY_if_eq (by exact rfl) (by exact dX2_copy_87) (t := 102) (by exact rfl) (a2 := nrm y0) (by exact rfl) (L1 := [none, none, none, none, none, none, none, none]) (by exact rfl) (zcn (by exact rfl))) (zif ?_ ?_)
  · refine Eq.trans (zY_step (by exact rfl) (by exact dX2_copy_102) (by exact rfl) (pc' := 104) (S' := [zI ((-13))]) (by exact rfl) (zcn (by exact rfl))) ?_
    exact zq_ret (by exact dX2_copy_104) (by exact rfl) (rv := some (zI ((-13)))) (by exact rfl)
  · refine Eq.trans (zY_step (by exact rfl) (by exact dX2_copy_90) (by exact rfl) (pc' := 92) (S' := [zR (some q12)]) (by exact rfl) (zcn (by exact rfl))) ?_
    refine Eq.trans (zY_step (by exact rfl) (by exact dX2_copy_92) (by exact rfl) (pc' := 94) (S' := [zI x4, zR (some q12)]) (by exact rfl) (zcn (by exact rfl))) ?_
    refine Eq.trans (zY_step (by exact rfl) (by exact dX2_copy_94) (by exact rfl) (pc' := 96) (S' := [zI x5, zI x4, zR (some q12)]) (by exact rfl) (zcn (by exact rfl))) ?_
    exact zY_V (by exact rfl) (by exact dX2_copy_96) (by exact rfl) (as := [zI x4, zI x5]) (S' := []) (by exact rfl) (by exact rfl) (by exact zSh_k hq12) (by exact Nat.le_of_ble_eq_true rfl) (by exact Nat.le_of_ble_eq_true rfl) (by exact Nat.le_of_ble_eq_true rfl) (zcn (by exact rfl))
theorem b_X2_copy_99 (d : Nat) (y0 x1 x2 x3 x4 x5 : Int) {q5 : Nat} (hq5 : zSh q5) {q12 : Nat} (hq12 : zSh q12) (hz : 0 ≤ nrm x2 ∧ 0 ≤ nrm x4 ∧ 0 ≤ nrm x5 ∧ nrm x2 + nrm x5 ≤ 100 ∧ nrm x4 + nrm x5 ≤ 100) (σ : zS) : zq (d + 1) mX2_copy 99 [some (zR (some 0)), some (zI x1), some (zI x2), some (zI x3), some (zI x4), some (zI x5), some (zR (some q5)), some (zR (some q12))] [zI y0] σ = (if ¬ nrm y0 = 0 then some (some (zI x5), zcpy σ (q5 + 1) (nrm x2).toNat (q12 + 1) (nrm x4).toNat (nrm x5).toNat) else some (some (zI ((-13))), σ)) := by
  refine Eq.trans (zY_if_ne (by exact rfl) (by exact dX2_copy_99) (t := 105) (by exact rfl) (a2 := nrm y0) (by exact rfl) (L2 := [none, none, none, none, none, none, none, none]) (zcn (by exact rfl)) (by exact rfl)) (zif ?_ ?_)
  · refine Eq.trans (zY_step (by exact rfl) (by exact dX2_copy_105) (by exact rfl) (pc' := 107) (S' := [zR (some q5)]) (by exact rfl) (zcn (by exact rfl))) ?_
    refine Eq.trans (zY_getR (by exact rfl) (by exact dX2_copy_107) (by exact rfl) (by exact zSh_k hq5) (by exact zSh_r5 hq5) (zcn (by exact rfl))) ?_
    refine Eq.trans (zY_step (by exact rfl) (by exact dX2_copy_110) (by exact rfl) (pc' := 111) (S' := [zI x2, zR (some (q5 + 1))]) (by exact rfl) (zcn (by exact rfl))) ?_
    refine Eq.trans (zY_step (by exact rfl) (by exact dX2_copy_111) (by exact rfl) (pc' := 113) (S' := [zR (some q12), zI x2, zR (some (q5 + 1))]) (by exact rfl) (zcn (by exact rfl))) ?_
    refine Eq.trans (zY_getR (by exact rfl) (by exact dX2_copy_113) (by exact rfl) (by exact zSh_k hq12) (by exact zSh_r5 hq12) (zcn (by exact rfl))) ?_
    refine Eq.trans (zY_step (by exact rfl) (by exact dX2_copy_116) (by exact rfl) (pc' := 118) (S' := [zI x4, zR (some (q12 + 1)), zI x2, zR (some (q5 + 1))]) (by exact rfl) (zcn (by exact rfl))) ?_
    refine Eq.trans (zY_step (by exact rfl) (by exact dX2_copy_118) (by exact rfl) (pc' := 120) (S' := [zI x5, zI x4, zR (some (q12 + 1)), zI x2, zR (some (q5 + 1))]) (by exact rfl) (zcn (by exact rfl))) ?_
    refine Eq.trans (zY_cpy (by exact rfl) (by exact dX2_copy_120) (by exact rfl) (by exact zSh_a1 hq5) (by exact zSh_a1 hq12) (by exact zSh_n1 hq5) (by exact zSh_n1 hq12) (by exact Nat.le_of_ble_eq_true rfl) (zcn (by exact rfl)) (by exact hz)) ?_
    refine Eq.trans (zY_step (by exact rfl) (by exact dX2_copy_123) (by exact rfl) (pc' := 125) (S' := [zI x5]) (by exact rfl) (zcn (by exact rfl))) ?_
    exact zq_ret (by exact dX2_copy_125) (by exact rfl) (rv := some (zI x5)) (by exact rfl)
  · refine Eq.trans (zY_step (by exact rfl) (by exact dX2_copy_102) (by exact rfl) (pc' := 104) (S' := [zI ((-13))]) (by exact rfl) (zcn (by exact rfl))) ?_
    exact zq_ret (by exact dX2_copy_104) (by exact rfl) (rv := some (zI ((-13)))) (by exact rfl)
theorem e_X2_cost (d : Nat) (x1 : Int) (σ : zS) : zc (d + 1) mX2_cost [zR (some 0), zI x1] σ = (zc d mX2_shelfAt [zR (some 0), zI x1] σ).bind fun r => zq (d + 1) mX2_cost 5 [some (zR (some 0)), some (zI x1), none, none] (r.1.toList ++ []) r.2 := by
  refine Eq.trans (zc_zq (L := [some (zR (some 0)), some (zI x1), none, none]) (by exact rfl)) ?_
  refine Eq.trans (zY_step (by exact rfl) (by exact dX2_cost_0) (by exact rfl) (pc' := 1) (S' := [zR (some 0)]) (by exact rfl) (zcn (by exact rfl))) ?_
  refine Eq.trans (zY_step (by exact rfl) (by exact dX2_cost_1) (by exact rfl) (pc' := 2) (S' := [zI x1, zR (some 0)]) (by exact rfl) (zcn (by exact rfl))) ?_
  exact zY_V (by exact rfl) (by exact dX2_cost_2) (by exact rfl) (as := [zI x1]) (S' := []) (by exact rfl) (by exact rfl) (by exact rfl) (by exact Nat.le_of_ble_eq_true rfl) (by exact Nat.le_of_ble_eq_true rfl) (by exact Nat.le_of_ble_eq_true rfl) (zcn (by exact rfl))
theorem b_X2_cost_5 (d : Nat) (x1 : Int) {q5 : Nat} (hq5 : zSh q5) (σ : zS) : zq (d + 1) mX2_cost 5 [some (zR (some 0)), some (zI x1), none, none] [zR (some q5)] σ = (zc d mX1_refusalUnless [zR (some q5), zI 1] σ).bind fun r => zq (d + 1) mX2_cost 17 [some (zR (some 0)), some (zI x1), some (zR (some q5)), none] (r.1.toList ++ []) r.2 := by
  refine Eq.trans (zY_step (by exact rfl) (by exact dX2_cost_5) (by exact rfl) (pc' := 6) (L' := [some (zR (some 0)), some (zI x1), some (zR (some q5)), none]) (S' := []) (by exact rfl) (zcn (by exact rfl))) ?_
  refine Eq.trans (zY_step (by exact rfl) (by exact dX2_cost_6) (by exact rfl) (pc' := 7) (S' := [zR (some q5)]) (by exact rfl) (zcn (by exact rfl))) ?_
  refine Eq.trans (zY_step (by exact rfl) (by exact dX2_cost_7) (by exact rfl) (pc' := 12) (S' := []) (by exact rfl) (zcn (by exact rfl))) ?_
  refine Eq.trans (zY_step (by exact rfl) (by exact dX2_cost_12) (by exact rfl) (pc' := 13) (S' := [zR (some q5)]) (by exact rfl) (zcn (by exact rfl))) ?_
  refine Eq.trans (zY_step (by exact rfl) (by exact dX2_cost_13) (by exact rfl) (pc' := 14) (S' := [zI 1, zR (some q5)]) (by exact rfl) (zcn (by exact rfl))) ?_
  exact zY_V (by exact rfl) (by exact dX2_cost_14) (by exact rfl) (as := [zI 1]) (S' := []) (by exact rfl) (by exact rfl) (by exact zSh_k hq5) (by exact Nat.le_of_ble_eq_true rfl) (by exact Nat.le_of_ble_eq_true rfl) (by exact Nat.le_of_ble_eq_true rfl) (zcn (by exact rfl))
theorem b_X2_cost_5_2 (d : Nat) (x1 : Int) (σ : zS) : zq d mX2_cost 5 [some (zR (some 0)), some (zI x1), none, none] [zR none] σ = some (some (zI ((-1))), σ) := by
  refine Eq.trans (zY_step (by exact rfl) (by exact dX2_cost_5) (by exact rfl) (pc' := 6) (L' := [some (zR (some 0)), some (zI x1), some (zR none), none]) (S' := []) (by exact rfl) (zcn (by exact rfl))) ?_
  refine Eq.trans (zY_step (by exact rfl) (by exact dX2_cost_6) (by exact rfl) (pc' := 7) (S' := [zR none]) (by exact rfl) (zcn (by exact rfl))) ?_
  refine Eq.trans (zY_step (by exact rfl) (by exact dX2_cost_7) (by exact rfl) (pc' := 10) (S' := []) (by exact rfl) (zcn (by exact rfl))) ?_
  refine Eq.trans (zY_step (by exact rfl) (by exact dX2_cost_10) (by exact rfl) (pc' := 11) (S' := [zI ((-1))]) (by exact rfl) (zcn (by exact rfl))) ?_
  exact zq_ret (by exact dX2_cost_11) (by exact rfl) (rv := some (zI ((-1)))) (by exact rfl)
theorem b_X2_cost_17 (d : Nat) (y0 x1 : Int) {q5 : Nat} (hq5 : zSh q5) (σ : zS) : zq (d + 1) mX2_cost 17 [some (zR (some 0)), some (zI x1), some (zR (some q5)), none] [zI y0] σ = (if nrm y0 = 0 then (zc d mX2_costOf [zI (σ q5 1), zI (σ q5 2)] σ).bind fun r => zq (d + 1) mX2_cost 37 [none, none, none, none] (r.1.toList ++ []) r.2 else some (some (zI y0), σ)) := by
  refine Eq.trans (zY_step (by exact rfl) (by exact dX2_cost_17) (by exact rfl) (pc' := 18) (L' := [some (zR (some 0)), some (zI x1), some (zR (some q5)), some (zI y0)]) (S' := []) (by exact rfl) (zcn (by exact rfl))) ?_
  refine Eq.trans (zY_step (by exact rfl) (by exact dX2_cost_18) (by exact rfl) (pc' := 19) (S' := [zI y0]) (by exact rfl) (zcn (by exact rfl))) ?_
  refine Eq.trans (zY_if_eq (by exact rfl) (by exact dX2_cost_19) (t := 26) (by exact rfl) (a2 := nrm y0) (by exact rfl) (zcn (by exact rfl)) (zcn (by exact rfl))) (zif ?_ ?_)
  · refine Eq.trans (zY_step (by exact rfl) (by exact dX2_cost_26) (by exact rfl) (pc' := 27) (S' := [zR (some q5)]) (by exact rfl) (zcn (by exact rfl))) ?_
    refine Eq.trans (zY_getI (by exact rfl) (by exact dX2_cost_27) (by exact rfl) (by exact zSh_k hq5) (by exact zSh_r1 hq5) (zcn (by exact rfl))) ?_
    refine Eq.trans (zY_step (by exact rfl) (by exact dX2_cost_30) (by exact rfl) (pc' := 31) (S' := [zR (some q5), zI (σ q5 1)]) (by exact rfl) (zcn (by exact rfl))) ?_
    refine Eq.trans (zY_getI (by exact rfl) (by exact dX2_cost_31) (by exact rfl) (by exact zSh_k hq5) (by exact zSh_r2 hq5) (zcn (by exact rfl))) ?_
    exact zY_S (by exact rfl) (by exact dX2_cost_34) (by exact rfl) (by exact Or.inl rfl) (as := [zI (σ q5 1), zI (σ q5 2)]) (S' := []) (by exact rfl) (by exact rfl) (by exact Nat.le_of_ble_eq_true rfl) (by exact Nat.le_of_ble_eq_true rfl) (L2 := [none, none, none, none]) (by exact rfl)
  · refine Eq.trans (zY_step (by exact rfl) (by exact dX2_cost_22) (by exact rfl) (pc' := 23) (S' := [zI y0]) (by exact rfl) (zcn (by exact rfl))) ?_
    refine Eq.trans (zY_step (by exact rfl) (by exact dX2_cost_23) (by exact rfl) (pc' := 37) (S' := [zI y0]) (L2 := [none, none, none, none]) (by exact rfl) (by exact rfl)) ?_
    exact zq_ret (by exact dX2_cost_37) (by exact rfl) (rv := some (zI y0)) (by exact rfl)
theorem b_X2_cost_37 (d : Nat) (y0 : Int) (σ : zS) : zq d mX2_cost 37 [none, none, none, none] [zI y0] σ = some (some (zI y0), σ) := by
  exact zq_ret (by exact dX2_cost_37) (by exact rfl) (rv := some (zI y0)) (by exact rfl)
