theorem e_X2_shelfAt (d : Nat) (x1 : Int) (σ : zS) : zc d mX2_shelfAt [zR (some 0), zI x1] σ = (if nrm x1 < 0 then some (some (zR none), σ) else (if ((8 : Nat) : Int) ≤ nrm x1 then some (some (zR none), σ) else (if zix x1 8 then some (some (zR (zrf 16 (nrm x1).toNat)), σ) else none))) := by
  refine Eq.trans (zc_zq (L := [some (zR (some 0)), some (zI x1)]) (by exact rfl)) ?_
  refine Eq.trans (zY_step (by exact rfl) (by exact dX2_shelfAt_0) (by exact rfl) (pc' := 1) (S' := [zI x1]) (by exact rfl) (zcn (by exact rfl))) ?_
  refine Eq.trans (zY_if_lt (by exact rfl) (by exact dX2_shelfAt_1) (t := 22) (by exact rfl) (a2 := nrm x1) (by exact rfl) (L1 := [none, none]) (by exact rfl) (zcn (by exact rfl))) (zif ?_ ?_)
  · refine Eq.trans (zY_step (by exact rfl) (by exact dX2_shelfAt_22) (by exact rfl) (pc' := 23) (S' := [zR none]) (L2 := [none, none]) (by exact rfl) (by exact rfl)) ?_
    exact zq_ret (by exact dX2_shelfAt_23) (by exact rfl) (rv := some (zR none)) (by exact rfl)
  · refine Eq.trans (zY_step (by exact rfl) (by exact dX2_shelfAt_4) (by exact rfl) (pc' := 5) (S' := [zI x1]) (by exact rfl) (zcn (by exact rfl))) ?_
    refine Eq.trans (zY_step (by exact rfl) (by exact dX2_shelfAt_5) (by exact rfl) (pc' := 6) (S' := [zR (some 0), zI x1]) (by exact rfl) (zcn (by exact rfl))) ?_
    refine Eq.trans (zY_getR (by exact rfl) (by exact dX2_shelfAt_6) (by exact rfl) (by exact rfl) (t := 16) (by exact rfl) (zcn (by exact rfl))) ?_
    refine Eq.trans (zY_alen (by exact rfl) (by exact dX2_shelfAt_9) (by exact Or.inr (Or.inr rfl)) (n := 8) (by exact rfl) (zcn (by exact rfl))) ?_
    refine Eq.trans (zY_ic_ge (by exact rfl) (by exact dX2_shelfAt_10) (t := 22) (by exact rfl) (a2 := nrm x1) (b2 := ((8 : Nat) : Int)) (by exact rfl) (by decide) (L1 := [none, none]) (by exact rfl) (zcn (by exact rfl))) (zif ?_ ?_)
    · refine Eq.trans (zY_step (by exact rfl) (by exact dX2_shelfAt_22) (by exact rfl) (pc' := 23) (S' := [zR none]) (L2 := [none, none]) (by exact rfl) (by exact rfl)) ?_
      exact zq_ret (by exact dX2_shelfAt_23) (by exact rfl) (rv := some (zR none)) (by exact rfl)
    · refine Eq.trans (zY_step (by exact rfl) (by exact dX2_shelfAt_13) (by exact rfl) (pc' := 14) (S' := [zR (some 0)]) (by exact rfl) (zcn (by exact rfl))) ?_
      refine Eq.trans (zY_getR (by exact rfl) (by exact dX2_shelfAt_14) (by exact rfl) (by exact rfl) (t := 16) (by exact rfl) (zcn (by exact rfl))) ?_
      refine Eq.trans (zY_step (by exact rfl) (by exact dX2_shelfAt_17) (by exact rfl) (pc' := 18) (S' := [zI x1, zR (some 16)]) (by exact rfl) (zcn (by exact rfl))) ?_
      refine Eq.trans (zY_aald (by exact rfl) (by exact dX2_shelfAt_18) (by exact rfl) (by exact rfl) (zcn (by exact rfl))) (zif ?_ rfl)
      · refine Eq.trans (zY_step (by exact rfl) (by exact dX2_shelfAt_19) (by exact rfl) (pc' := 23) (S' := [zR (zrf 16 (nrm x1).toNat)]) (L2 := [none, none]) (by exact rfl) (by exact rfl)) ?_
        exact zq_ret (by exact dX2_shelfAt_23) (by exact rfl) (rv := some (zR (zrf 16 (nrm x1).toNat))) (by exact rfl)
theorem e_X2_isMindRounds (d : Nat) (x0 : Int) (σ : zS) : zc d mX2_isMindRounds [zI x0] σ = (if nrm x0 < 0 then some (some (zI 0), σ) else (if 60 < nrm x0 then some (some (zI 0), σ) else some (some (zI 1), σ))) := by
  refine Eq.trans (zc_zq (L := [some (zI x0)]) (by exact rfl)) ?_
  refine Eq.trans (zY_step (by exact rfl) (by exact dX2_isMindRounds_0) (by exact rfl) (pc' := 1) (S' := [zI x0]) (by exact rfl) (zcn (by exact rfl))) ?_
  refine Eq.trans (zY_if_lt (by exact rfl) (by exact dX2_isMindRounds_1) (t := 14) (by exact rfl) (a2 := nrm x0) (by exact rfl) (L1 := [none]) (by exact rfl) (zcn (by exact rfl))) (zif ?_ ?_)
  · refine Eq.trans (zY_step (by exact rfl) (by exact dX2_isMindRounds_14) (by exact rfl) (pc' := 15) (S' := [zI 0]) (L2 := [none]) (by exact rfl) (by exact rfl)) ?_
    exact zq_ret (by exact dX2_isMindRounds_15) (by exact rfl) (rv := some (zI 0)) (by exact rfl)
  · refine Eq.trans (zY_step (by exact rfl) (by exact dX2_isMindRounds_4) (by exact rfl) (pc' := 5) (S' := [zI x0]) (by exact rfl) (zcn (by exact rfl))) ?_
    refine Eq.trans (zY_step (by exact rfl) (by exact dX2_isMindRounds_5) (by exact rfl) (pc' := 7) (S' := [zI 60, zI x0]) (by exact rfl) (zcn (by exact rfl))) ?_
    refine Eq.trans (zY_ic_gt (by exact rfl) (by exact dX2_isMindRounds_7) (t := 14) (by exact rfl) (a2 := nrm x0) (b2 := 60) (by exact rfl) (by decide) (L1 := [none]) (by exact rfl) (zcn (by exact rfl))) (zif ?_ ?_)
    · refine Eq.trans (zY_step (by exact rfl) (by exact dX2_isMindRounds_14) (by exact rfl) (pc' := 15) (S' := [zI 0]) (L2 := [none]) (by exact rfl) (by exact rfl)) ?_
      exact zq_ret (by exact dX2_isMindRounds_15) (by exact rfl) (rv := some (zI 0)) (by exact rfl)
    · refine Eq.trans (zY_step (by exact rfl) (by exact dX2_isMindRounds_10) (by exact rfl) (pc' := 11) (S' := [zI 1]) (by exact rfl) (zcn (by exact rfl))) ?_
      refine Eq.trans (zY_step (by exact rfl) (by exact dX2_isMindRounds_11) (by exact rfl) (pc' := 15) (S' := [zI 1]) (L2 := [none]) (by exact rfl) (by exact rfl)) ?_
      exact zq_ret (by exact dX2_isMindRounds_15) (by exact rfl) (rv := some (zI 1)) (by exact rfl)
theorem e_X2_hasOneBehind (d : Nat) (x1 : Int) (σ : zS) : zc (d + 1) mX2_hasOneBehind [zR (some 0), zI x1] σ = (zc d mX0_isRow [zR (some 1), zI x1] σ).bind fun r => zq (d + 1) mX2_hasOneBehind 8 [some (zR (some 0)), some (zI x1)] (r.1.toList ++ []) r.2 := by
  refine Eq.trans (zc_zq (L := [some (zR (some 0)), some (zI x1)]) (by exact rfl)) ?_
  refine Eq.trans (zY_step (by exact rfl) (by exact dX2_hasOneBehind_0) (by exact rfl) (pc' := 1) (S' := [zR (some 0)]) (by exact rfl) (zcn (by exact rfl))) ?_
  refine Eq.trans (zY_getR (by exact rfl) (by exact dX2_hasOneBehind_1) (by exact rfl) (by exact rfl) (t := 1) (by exact rfl) (zcn (by exact rfl))) ?_
  refine Eq.trans (zY_step (by exact rfl) (by exact dX2_hasOneBehind_4) (by exact rfl) (pc' := 5) (S' := [zI x1, zR (some 1)]) (by exact rfl) (zcn (by exact rfl))) ?_
  exact zY_V (by exact rfl) (by exact dX2_hasOneBehind_5) (by exact rfl) (as := [zI x1]) (S' := []) (by exact rfl) (by exact rfl) (by exact zCo_k zCo1) (by exact Nat.le_of_ble_eq_true rfl) (by exact Nat.le_of_ble_eq_true rfl) (by exact Nat.le_of_ble_eq_true rfl) (zcn (by exact rfl))
theorem b_X2_hasOneBehind_8 (d : Nat) (y0 x1 : Int) (σ : zS) : zq (d + 1) mX2_hasOneBehind 8 [some (zR (some 0)), some (zI x1)] [zI y0] σ = (if nrm y0 = 0 then some (some (zI 0), σ) else (zc d mX0_isRow [zR (some 1), zI (x1 + 1)] σ).bind fun r => zq (d + 1) mX2_hasOneBehind 21 [some (zR (some 0)), some (zI x1)] (r.1.toList ++ []) r.2) := by
  refine Eq.trans (zY_if_eq (by exact rfl) (by exact dX2_hasOneBehind_8) (t := 28) (by exact rfl) (a2 := nrm y0) (by exact rfl) (L1 := [none, none]) (by exact rfl) (zcn (by exact rfl))) (zif ?_ ?_)
  · refine Eq.trans (zY_step (by exact rfl) (by exact dX2_hasOneBehind_28) (by exact rfl) (pc' := 29) (S' := [zI 0]) (L2 := [none, none]) (by exact rfl) (by exact rfl)) ?_
    exact zq_ret (by exact dX2_hasOneBehind_29) (by exact rfl) (rv := some (zI 0)) (by exact rfl)
  · refine Eq.trans (zY_step (by exact rfl) (by exact dX2_hasOneBehind_11) (by exact rfl) (pc' := 12) (S' := [zR (some 0)]) (by exact rfl) (zcn (by exact rfl))) ?_
    refine Eq.trans (zY_getR (by exact rfl) (by exact dX2_hasOneBehind_12) (by exact rfl) (by exact rfl) (t := 1) (by exact rfl) (zcn (by exact rfl))) ?_
    refine Eq.trans (zY_step (by exact rfl) (by exact dX2_hasOneBehind_15) (by exact rfl) (pc' := 16) (S' := [zI x1, zR (some 1)]) (by exact rfl) (zcn (by exact rfl))) ?_
    refine Eq.trans (zY_step (by exact rfl) (by exact dX2_hasOneBehind_16) (by exact rfl) (pc' := 17) (S' := [zI 1, zI x1, zR (some 1)]) (by exact rfl) (zcn (by exact rfl))) ?_
    refine Eq.trans (zY_step (by exact rfl) (by exact dX2_hasOneBehind_17) (by exact rfl) (pc' := 18) (S' := [zI (x1 + 1), zR (some 1)]) (by exact rfl) (zcn (by exact rfl))) ?_
    exact zY_V (by exact rfl) (by exact dX2_hasOneBehind_18) (by exact rfl) (as := [zI (x1 + 1)]) (S' := []) (by exact rfl) (by exact rfl) (by exact zCo_k zCo1) (by exact Nat.le_of_ble_eq_true rfl) (by exact Nat.le_of_ble_eq_true rfl) (by exact Nat.le_of_ble_eq_true rfl) (zcn (by exact rfl))
theorem b_X2_hasOneBehind_21 (d : Nat) (y0 x1 : Int) (σ : zS) : zq d mX2_hasOneBehind 21 [some (zR (some 0)), some (zI x1)] [zI y0] σ = (if nrm y0 = 0 then some (some (zI 0), σ) else some (some (zI 1), σ)) := by
  refine Eq.trans (zY_if_eq (by exact rfl) (by exact dX2_hasOneBehind_21) (t := 28) (by exact rfl) (a2 := nrm y0) (by exact rfl) (L1 := [none, none]) (by exact rfl) (zcn (by exact rfl))) (zif ?_ ?_)
  · refine Eq.trans (zY_step (by exact rfl) (by exact dX2_hasOneBehind_28) (by exact rfl) (pc' := 29) (S' := [zI 0]) (L2 := [none, none]) (by exact rfl) (by exact rfl)) ?_
    exact zq_ret (by exact dX2_hasOneBehind_29) (by exact rfl) (rv := some (zI 0)) (by exact rfl)
  · refine Eq.trans (zY_step (by exact rfl) (by exact dX2_hasOneBehind_24) (by exact rfl) (pc' := 25) (S' := [zI 1]) (by exact rfl) (zcn (by exact rfl))) ?_
    refine Eq.trans (zY_step (by exact rfl) (by exact dX2_hasOneBehind_25) (by exact rfl) (pc' := 29) (S' := [zI 1]) (L2 := [none, none]) (by exact rfl) (by exact rfl)) ?_
    exact zq_ret (by exact dX2_hasOneBehind_29) (by exact rfl) (rv := some (zI 1)) (by exact rfl)
theorem e_X2_thinkOn (d : Nat) (x1 : Int) (σ : zS) : zc (d + 1) mX2_thinkOn [zR (some 0), zI x1] σ = (zc d mX0_copyFrom [zR (some 6), zR (some 1)] σ).bind fun r => zq (d + 1) mX2_thinkOn 11 [some (zR (some 0)), some (zI x1)] (r.1.toList ++ []) r.2 := by
  refine Eq.trans (zc_zq (L := [some (zR (some 0)), some (zI x1)]) (by exact rfl)) ?_
  refine Eq.trans (zY_step (by exact rfl) (by exact dX2_thinkOn_0) (by exact rfl) (pc' := 1) (S' := [zR (some 0)]) (by exact rfl) (zcn (by exact rfl))) ?_
  refine Eq.trans (zY_getR (by exact rfl) (by exact dX2_thinkOn_1) (by exact rfl) (by exact rfl) (t := 6) (by exact rfl) (zcn (by exact rfl))) ?_
  refine Eq.trans (zY_step (by exact rfl) (by exact dX2_thinkOn_4) (by exact rfl) (pc' := 5) (S' := [zR (some 0), zR (some 6)]) (by exact rfl) (zcn (by exact rfl))) ?_
  refine Eq.trans (zY_getR (by exact rfl) (by exact dX2_thinkOn_5) (by exact rfl) (by exact rfl) (t := 1) (by exact rfl) (zcn (by exact rfl))) ?_
  exact zY_V (by exact rfl) (by exact dX2_thinkOn_8) (by exact rfl) (as := [zR (some 1)]) (S' := []) (by exact rfl) (by exact rfl) (by exact zCo_k zCo6) (by exact Nat.le_of_ble_eq_true rfl) (by exact Nat.le_of_ble_eq_true rfl) (by exact Nat.le_of_ble_eq_true rfl) (zcn (by exact rfl))
theorem b_X2_thinkOn_11 (d : Nat) (x1 : Int) (σ : zS) : zq (d + 1) mX2_thinkOn 11 [some (zR (some 0)), some (zI x1)] [] σ = (zc d mX0_goOn [zR (some 6), zI x1] σ).bind fun r => zq (d + 1) mX2_thinkOn 19 [some (zR (some 0)), some (zI x1)] (r.1.toList ++ []) r.2 := by
  refine Eq.trans (zY_step (by exact rfl) (by exact dX2_thinkOn_11) (by exact rfl) (pc' := 12) (S' := [zR (some 0)]) (by exact rfl) (zcn (by exact rfl))) ?_
  refine Eq.trans (zY_getR (by exact rfl) (by exact dX2_thinkOn_12) (by exact rfl) (by exact rfl) (t := 6) (by exact rfl) (zcn (by exact rfl))) ?_
  refine Eq.trans (zY_step (by exact rfl) (by exact dX2_thinkOn_15) (by exact rfl) (pc' := 16) (S' := [zI x1, zR (some 6)]) (by exact rfl) (zcn (by exact rfl))) ?_
  exact zY_V (by exact rfl) (by exact dX2_thinkOn_16) (by exact rfl) (as := [zI x1]) (S' := []) (by exact rfl) (by exact rfl) (by exact zCo_k zCo6) (by exact Nat.le_of_ble_eq_true rfl) (by exact Nat.le_of_ble_eq_true rfl) (by exact Nat.le_of_ble_eq_true rfl) (zcn (by exact rfl))
theorem b_X2_thinkOn_19 (d : Nat) (y0 x1 : Int) (σ : zS) : zq d mX2_thinkOn 19 [some (zR (some 0)), some (zI x1)] [zI y0] σ = some (none, σ) := by
  refine Eq.trans (zY_step (by exact rfl) (by exact dX2_thinkOn_19) (by exact rfl) (pc' := 20) (S' := []) (by exact rfl) (zcn (by exact rfl))) ?_
  exact zq_ret (by exact dX2_thinkOn_20) (by exact rfl) (rv := none) (by exact rfl)
theorem e_X2_thinkOnBlocked (d : Nat) (x1 x2 : Int) (σ : zS) : zc (d + 1) mX2_thinkOnBlocked [zR (some 0), zI x1, zI x2] σ = (zc d mX0_copyFrom [zR (some 6), zR (some 1)] σ).bind fun r => zq (d + 1) mX2_thinkOnBlocked 11 [some (zR (some 0)), some (zI x1), some (zI x2)] (r.1.toList ++ []) r.2 := by
  refine Eq.trans (zc_zq (L := [some (zR (some 0)), some (zI x1), some (zI x2)]) (by exact rfl)) ?_
  refine Eq.trans (zY_step (by exact rfl) (by exact dX2_thinkOnBlocked_0) (by exact rfl) (pc' := 1) (S' := [zR (some 0)]) (by exact rfl) (zcn (by exact rfl))) ?_
  refine Eq.trans (zY_getR (by exact rfl) (by exact dX2_thinkOnBlocked_1) (by exact rfl) (by exact rfl) (t := 6) (by exact rfl) (zcn (by exact rfl))) ?_
  refine Eq.trans (zY_step (by exact rfl) (by exact dX2_thinkOnBlocked_4) (by exact rfl) (pc' := 5) (S' := [zR (some 0), zR (some 6)]) (by exact rfl) (zcn (by exact rfl))) ?_
  refine Eq.trans (zY_getR (by exact rfl) (by exact dX2_thinkOnBlocked_5) (by exact rfl) (by exact rfl) (t := 1) (by exact rfl) (zcn (by exact rfl))) ?_
  exact zY_V (by exact rfl) (by exact dX2_thinkOnBlocked_8) (by exact rfl) (as := [zR (some 1)]) (S' := []) (by exact rfl) (by exact rfl) (by exact zCo_k zCo6) (by exact Nat.le_of_ble_eq_true rfl) (by exact Nat.le_of_ble_eq_true rfl) (by exact Nat.le_of_ble_eq_true rfl) (zcn (by exact rfl))
theorem b_X2_thinkOnBlocked_11 (d : Nat) (x1 x2 : Int) (σ : zS) : zq (d + 1) mX2_thinkOnBlocked 11 [some (zR (some 0)), some (zI x1), some (zI x2)] [] σ = (zc d mX0_block [zR (some 6), zI x1] σ).bind fun r => zq (d + 1) mX2_thinkOnBlocked 19 [some (zR (some 0)), some (zI x1), some (zI x2)] (r.1.toList ++ []) r.2 := by
  refine Eq.trans (zY_step (by exact rfl) (by exact dX2_thinkOnBlocked_11) (by exact rfl) (pc' := 12) (S' := [zR (some 0)]) (by exact rfl) (zcn (by exact rfl))) ?_
  refine Eq.trans (zY_getR (by exact rfl) (by exact dX2_thinkOnBlocked_12) (by exact rfl) (by exact rfl) (t := 6) (by exact rfl) (zcn (by exact rfl))) ?_
  refine Eq.trans (zY_step (by exact rfl) (by exact dX2_thinkOnBlocked_15) (by exact rfl) (pc' := 16) (S' := [zI x1, zR (some 6)]) (by exact rfl) (zcn (by exact rfl))) ?_
  exact zY_V (by exact rfl) (by exact dX2_thinkOnBlocked_16) (by exact rfl) (as := [zI x1]) (S' := []) (by exact rfl) (by exact rfl) (by exact zCo_k zCo6) (by exact Nat.le_of_ble_eq_true rfl) (by exact Nat.le_of_ble_eq_true rfl) (by exact Nat.le_of_ble_eq_true rfl) (zcn (by exact rfl))
theorem b_X2_thinkOnBlocked_19 (d : Nat) (x1 x2 : Int) (σ : zS) : zq (d + 1) mX2_thinkOnBlocked 19 [some (zR (some 0)), some (zI x1), some (zI x2)] [] σ = (zc d mX0_goOn [zR (some 6), zI x2] σ).bind fun r => zq (d + 1) mX2_thinkOnBlocked 27 [some (zR (some 0)), some (zI x1), some (zI x2)] (r.1.toList ++ []) r.2 := by
  refine Eq.trans (zY_step (by exact rfl) (by exact dX2_thinkOnBlocked_19) (by exact rfl) (pc' := 20) (S' := [zR (some 0)]) (by exact rfl) (zcn (by exact rfl))) ?_
  refine Eq.trans (zY_getR (by exact rfl) (by exact dX2_thinkOnBlocked_20) (by exact rfl) (by exact rfl) (t := 6) (by exact rfl) (zcn (by exact rfl))) ?_
  refine Eq.trans (zY_step (by exact rfl) (by exact dX2_thinkOnBlocked_23) (by exact rfl) (pc' := 24) (S' := [zI x2, zR (some 6)]) (by exact rfl) (zcn (by exact rfl))) ?_
  exact zY_V (by exact rfl) (by exact dX2_thinkOnBlocked_24) (by exact rfl) (as := [zI x2]) (S' := []) (by exact rfl) (by exact rfl) (by exact zCo_k zCo6) (by exact Nat.le_of_ble_eq_true rfl) (by exact Nat.le_of_ble_eq_true rfl) (by exact Nat.le_of_ble_eq_true rfl) (zcn (by exact rfl))
theorem b_X2_thinkOnBlocked_27 (d : Nat) (y0 x1 x2 : Int) (σ : zS) : zq d mX2_thinkOnBlocked 27 [some (zR (some 0)), some (zI x1), some (zI x2)] [zI y0] σ = some (none, σ) := by
  refine Eq.trans (zY_step (by exact rfl) (by exact dX2_thinkOnBlocked_27) (by exact rfl) (pc' := 28) (S' := []) (by exact rfl) (zcn (by exact rfl))) ?_
  exact zq_ret (by exact dX2_thinkOnBlocked_28) (by exact rfl) (rv := none) (by exact rfl)
theorem e_X2_firstWrongByte (d : Nat) {q0 : Nat} (hq0 : zSh q0) (σ : zS) : zc d mX2_firstWrongByte [zR (some q0)] σ = (if ¬ nrm (σ q0 4) = 0 then zq d mX2_firstWrongByte 11 [some (zR (some q0)), some (zI 0), none, none] [] σ else some (some (zI 0), σ)) := by
  refine Eq.trans (zc_zq (L := [some (zR (some q0)), none, none, none]) (by exact rfl)) ?_
  refine Eq.trans (zY_step (by exact rfl) (by exact dX2_firstWrongByte_0) (by exact rfl) (pc' := 1) (S' := [zR (some q0)]) (by exact rfl) (zcn (by exact rfl))) ?_
  refine Eq.trans (zY_getI (by exact rfl) (by exact dX2_firstWrongByte_1) (by exact rfl) (by exact zSh_k hq0) (by exact zSh_r4 hq0) (zcn (by exact rfl))) ?_
  refine Eq.trans (zY_if_ne (by exact rfl) (by exact dX2_firstWrongByte_4) (t := 9) (by exact rfl) (a2 := nrm (σ q0 4)) (by exact rfl) (zcn (by exact rfl)) (zcn (by exact rfl))) (zif ?_ ?_)
  · refine Eq.trans (zY_step (by exact rfl) (by exact dX2_firstWrongByte_9) (by exact rfl) (pc' := 10) (S' := [zI 0]) (by exact rfl) (zcn (by exact rfl))) ?_
    exact zY_step (by exact rfl) (by exact dX2_firstWrongByte_10) (by exact rfl) (pc' := 11) (L' := [some (zR (some q0)), some (zI 0), none, none]) (S' := []) (L2 := [some (zR (some q0)), some (zI 0), none, none]) (by exact rfl) (by exact rfl)
  · refine Eq.trans (zY_step (by exact rfl) (by exact dX2_firstWrongByte_7) (by exact rfl) (pc' := 8) (S' := [zI 0]) (by exact rfl) (zcn (by exact rfl))) ?_
    exact zq_ret (by exact dX2_firstWrongByte_8) (by exact rfl) (rv := some (zI 0)) (by exact rfl)
theorem b_X2_firstWrongByte_11 (d : Nat) (x1 : Int) {q0 : Nat} (hq0 : zSh q0) (σ : zS) : zq (d + 1) mX2_firstWrongByte 11 [some (zR (some q0)), some (zI x1), none, none] [] σ = (if nrm (σ q0 4) ≤ nrm x1 then some (some (zI ((-1))), σ) else (zc d mX1_byteAt [zR (some q0), zI x1] σ).bind fun r => zq (d + 1) mX2_firstWrongByte 24 [some (zR (some q0)), some (zI x1), none, none] (r.1.toList ++ []) r.2) := by
  refine Eq.trans (zY_step (by exact rfl) (by exact dX2_firstWrongByte_11) (by exact rfl) (pc' := 12) (S' := [zI x1]) (by exact rfl) (zcn (by exact rfl))) ?_
  refine Eq.trans (zY_step (by exact rfl) (by exact dX2_firstWrongByte_12) (by exact rfl) (pc' := 13) (S' := [zR (some q0), zI x1]) (by exact rfl) (zcn (by exact rfl))) ?_
  refine Eq.trans (zY_getI (by exact rfl) (by exact dX2_firstWrongByte_13) (by exact rfl) (by exact zSh_k hq0) (by exact zSh_r4 hq0) (zcn (by exact rfl))) ?_
  refine Eq.trans (zY_ic_ge (by exact rfl) (by exact dX2_firstWrongByte_16) (t := 94) (by exact rfl) (a2 := nrm x1) (b2 := nrm (σ q0 4)) (by exact rfl) (by exact rfl) (zcn (by exact rfl)) (zcn (by exact rfl))) (zif ?_ ?_)
  · refine Eq.trans (zY_step (by exact rfl) (by exact dX2_firstWrongByte_94) (by exact rfl) (pc' := 95) (S' := [zI ((-1))]) (by exact rfl) (zcn (by exact rfl))) ?_
    exact zq_ret (by exact dX2_firstWrongByte_95) (by exact rfl) (rv := some (zI ((-1)))) (by exact rfl)
  · refine Eq.trans (zY_step (by exact rfl) (by exact dX2_firstWrongByte_19) (by exact rfl) (pc' := 20) (S' := [zR (some q0)]) (by exact rfl) (zcn (by exact rfl))) ?_
    refine Eq.trans (zY_step (by exact rfl) (by exact dX2_firstWrongByte_20) (by exact rfl) (pc' := 21) (S' := [zI x1, zR (some q0)]) (by exact rfl) (zcn (by exact rfl))) ?_
    exact zY_V (by exact rfl) (by exact dX2_firstWrongByte_21) (by exact rfl) (as := [zI x1]) (S' := []) (by exact rfl) (by exact rfl) (by exact zSh_k hq0) (by exact Nat.le_of_ble_eq_true rfl) (by exact Nat.le_of_ble_eq_true rfl) (by exact Nat.le_of_ble_eq_true rfl) (zcn (by exact rfl))
theorem b_X2_firstWrongByte_24 (d : Nat) (y0 x1 : Int) {q0 : Nat} (hq0 : zSh q0) (σ : zS) : zq (d + 1) mX2_firstWrongByte 24 [some (zR (some q0)), some (zI x1), none, none] [zI y0] σ = (zc d mX2_digitsBehind [zI y0] σ).bind fun r => zq (d + 1) mX2_firstWrongByte 27 [some (zR (some q0)), some (zI x1), none, none] (r.1.toList ++ []) r.2 := by
  exact zY_S (by exact rfl) (by exact dX2_firstWrongByte_24) (by exact rfl) (by exact Or.inl rfl) (as := [zI y0]) (S' := []) (by exact rfl) (by exact rfl) (by exact Nat.le_of_ble_eq_true rfl) (by exact Nat.le_of_ble_eq_true rfl) (zcn (by exact rfl))
theorem b_X2_firstWrongByte_27 (d : Nat) (y0 x1 : Int) {q0 : Nat} (hq0 : zSh q0) (σ : zS) : zq d mX2_firstWrongByte 27 [some (zR (some q0)), some (zI x1), none, none] [zI y0] σ = (if 0 ≤ nrm y0 then zq d mX2_firstWrongByte 43 [some (zR (some q0)), some (zI (x1 + 1)), none, some (zI ((x1 + 1) + y0))] [] σ else some (some (zI x1), σ)) := by
  refine Eq.trans (zY_step (by exact rfl) (by exact dX2_firstWrongByte_27) (by exact rfl) (pc' := 28) (L' := [some (zR (some q0)), some (zI x1), some (zI y0), none]) (S' := []) (by exact rfl) (zcn (by exact rfl))) ?_
  refine Eq.trans (zY_step (by exact rfl) (by exact dX2_firstWrongByte_28) (by exact rfl) (pc' := 29) (S' := [zI y0]) (by exact rfl) (zcn (by exact rfl))) ?_
  refine Eq.trans (zY_if_ge (by exact rfl) (by exact dX2_firstWrongByte_29) (t := 34) (by exact rfl) (a2 := nrm y0) (by exact rfl) (zcn (by exact rfl)) (zcn (by exact rfl))) (zif ?_ ?_)
  · refine Eq.trans (zY_step (by exact rfl) (by exact dX2_firstWrongByte_34) (by exact rfl) (pc' := 35) (S' := [zI x1]) (by exact rfl) (zcn (by exact rfl))) ?_
    refine Eq.trans (zY_step (by exact rfl) (by exact dX2_firstWrongByte_35) (by exact rfl) (pc' := 36) (S' := [zI 1, zI x1]) (by exact rfl) (zcn (by exact rfl))) ?_
    refine Eq.trans (zY_step (by exact rfl) (by exact dX2_firstWrongByte_36) (by exact rfl) (pc' := 37) (S' := [zI (x1 + 1)]) (by exact rfl) (zcn (by exact rfl))) ?_
    refine Eq.trans (zY_step (by exact rfl) (by exact dX2_firstWrongByte_37) (by exact rfl) (pc' := 38) (S' := [zI y0, zI (x1 + 1)]) (by exact rfl) (zcn (by exact rfl))) ?_
    refine Eq.trans (zY_step (by exact rfl) (by exact dX2_firstWrongByte_38) (by exact rfl) (pc' := 39) (S' := [zI ((x1 + 1) + y0)]) (by exact rfl) (zcn (by exact rfl))) ?_
    refine Eq.trans (zY_step (by exact rfl) (by exact dX2_firstWrongByte_39) (by exact rfl) (pc' := 40) (L' := [some (zR (some q0)), some (zI x1), some (zI y0), some (zI ((x1 + 1) + y0))]) (S' := []) (by exact rfl) (zcn (by exact rfl))) ?_
    exact zY_step (by exact rfl) (by exact dX2_firstWrongByte_40) (by exact rfl) (pc' := 43) (L' := [some (zR (some q0)), some (zI (x1 + 1)), some (zI y0), some (zI ((x1 + 1) + y0))]) (S' := []) (L2 := [some (zR (some q0)), some (zI (x1 + 1)), none, some (zI ((x1 + 1) + y0))]) (by exact rfl) (by exact rfl)
  · refine Eq.trans (zY_step (by exact rfl) (by exact dX2_firstWrongByte_32) (by exact rfl) (pc' := 33) (S' := [zI x1]) (by exact rfl) (zcn (by exact rfl))) ?_
    exact zq_ret (by exact dX2_firstWrongByte_33) (by exact rfl) (rv := some (zI x1)) (by exact rfl)
theorem b_X2_firstWrongByte_43 (d : Nat) (x1 x3 : Int) {q0 : Nat} (hq0 : zSh q0) (σ : zS) : zq (d + 1) mX2_firstWrongByte 43 [some (zR (some q0)), some (zI x1), none, some (zI x3)] [] σ = (if nrm x3 ≤ nrm x1 then (zc d mX1_byteAt [zR (some q0), zI x1] σ).bind fun r => zq (d + 1) mX2_firstWrongByte 81 [some (zR (some q0)), some (zI x1), none, some (zI x3)] (r.1.toList ++ []) r.2 else (zc d mX1_byteAt [zR (some q0), zI x1] σ).bind fun r => zq (d + 1) mX2_firstWrongByte 53 [some (zR (some q0)), some (zI x1), none, some (zI x3)] (r.1.toList ++ []) r.2) := by
  refine Eq.trans (zY_step (by exact rfl) (by exact dX2_firstWrongByte_43) (by exact rfl) (pc' := 44) (S' := [zI x1]) (by exact rfl) (zcn (by exact rfl))) ?_
  refine Eq.trans (zY_step (by exact rfl) (by exact dX2_firstWrongByte_44) (by exact rfl) (pc' := 45) (S' := [zI x3, zI x1]) (by exact rfl) (zcn (by exact rfl))) ?_
  refine Eq.trans (zY_ic_ge (by exact rfl) (by exact dX2_firstWrongByte_45) (t := 76) (by exact rfl) (a2 := nrm x1) (b2 := nrm x3) (by exact rfl) (by exact rfl) (zcn (by exact rfl)) (zcn (by exact rfl))) (zif ?_ ?_)
  · refine Eq.trans (zY_step (by exact rfl) (by exact dX2_firstWrongByte_76) (by exact rfl) (pc' := 77) (S' := [zR (some q0)]) (by exact rfl) (zcn (by exact rfl))) ?_
    refine Eq.trans (zY_step (by exact rfl) (by exact dX2_firstWrongByte_77) (by exact rfl) (pc' := 78) (S' := [zI x1, zR (some q0)]) (by exact rfl) (zcn (by exact rfl))) ?_
    exact zY_V (by exact rfl) (by exact dX2_firstWrongByte_78) (by exact rfl) (as := [zI x1]) (S' := []) (by exact rfl) (by exact rfl) (by exact zSh_k hq0) (by exact Nat.le_of_ble_eq_true rfl) (by exact Nat.le_of_ble_eq_true rfl) (by exact Nat.le_of_ble_eq_true rfl) (zcn (by exact rfl))
  · refine Eq.trans (zY_step (by exact rfl) (by exact dX2_firstWrongByte_48) (by exact rfl) (pc' := 49) (S' := [zR (some q0)]) (by exact rfl) (zcn (by exact rfl))) ?_
    refine Eq.trans (zY_step (by exact rfl) (by exact dX2_firstWrongByte_49) (by exact rfl) (pc' := 50) (S' := [zI x1, zR (some q0)]) (by exact rfl) (zcn (by exact rfl))) ?_
    exact zY_V (by exact rfl) (by exact dX2_firstWrongByte_50) (by exact rfl) (as := [zI x1]) (S' := []) (by exact rfl) (by exact rfl) (by exact zSh_k hq0) (by exact Nat.le_of_ble_eq_true rfl) (by exact Nat.le_of_ble_eq_true rfl) (by exact Nat.le_of_ble_eq_true rfl) (zcn (by exact rfl))
theorem b_X2_firstWrongByte_81 (d : Nat) (y0 x1 x3 : Int) {q0 : Nat} (hq0 : zSh q0) (σ : zS) : zq d mX2_firstWrongByte 81 [some (zR (some q0)), some (zI x1), none, some (zI x3)] [zI y0] σ = (if nrm y0 = 59 then zq d mX2_firstWrongByte 11 [some (zR (some q0)), some (zI (x1 + 1)), none, none] [] σ else some (some (zI x1), σ)) := by
  refine Eq.trans (zY_step (by exact rfl) (by exact dX2_firstWrongByte_81) (by exact rfl) (pc' := 83) (S' := [zI 59, zI y0]) (by exact rfl) (zcn (by exact rfl))) ?_
  refine Eq.trans (zY_ic_eq (by exact rfl) (by exact dX2_firstWrongByte_83) (t := 88) (by exact rfl) (a2 := nrm y0) (b2 := 59) (by exact rfl) (by decide) (zcn (by exact rfl)) (zcn (by exact rfl))) (zif ?_ ?_)
  · refine Eq.trans (zY_step (by exact rfl) (by exact dX2_firstWrongByte_88) (by exact rfl) (pc' := 91) (L' := [some (zR (some q0)), some (zI (x1 + 1)), none, some (zI x3)]) (S' := []) (by exact rfl) (zcn (by exact rfl))) ?_
    exact zY_step (by exact rfl) (by exact dX2_firstWrongByte_91) (by exact rfl) (pc' := 11) (S' := []) (L2 := [some (zR (some q0)), some (zI (x1 + 1)), none, none]) (by exact rfl) (by exact rfl)
  · refine Eq.trans (zY_step (by exact rfl) (by exact dX2_firstWrongByte_86) (by exact rfl) (pc' := 87) (S' := [zI x1]) (by exact rfl) (zcn (by exact rfl))) ?_
    exact zq_ret (by exact dX2_firstWrongByte_87) (by exact rfl) (rv := some (zI x1)) (by exact rfl)
theorem b_X2_firstWrongByte_53 (d : Nat) (y0 x1 x3 : Int) {q0 : Nat} (hq0 : zSh q0) (σ : zS) : zq (d + 1) mX2_firstWrongByte 53 [some (zR (some q0)), some (zI x1), none, some (zI x3)] [zI y0] σ = (if nrm y0 < 48 then some (some (zI x1), σ) else (zc d mX1_byteAt [zR (some q0), zI x1] σ).bind fun r => zq (d + 1) mX2_firstWrongByte 63 [some (zR (some q0)), some (zI x1), none, some (zI x3)] (r.1.toList ++ []) r.2) := by
  refine Eq.trans (zY_step (by exact rfl) (by exact dX2_firstWrongByte_53) (by exact rfl) (pc' := 55) (S' := [zI 48, zI y0]) (by exact rfl) (zcn (by exact rfl))) ?_
  refine Eq.trans (zY_ic_lt (by exact rfl) (by exact dX2_firstWrongByte_55) (t := 68) (by exact rfl) (a2 := nrm y0) (b2 := 48) (by exact rfl) (by decide) (L1 := [none, some (zI x1), none, none]) (by exact rfl) (zcn (by exact rfl))) (zif ?_ ?_)
  · refine Eq.trans (zY_step (by exact rfl) (by exact dX2_firstWrongByte_68) (by exact rfl) (pc' := 69) (S' := [zI x1]) (by exact rfl) (zcn (by exact rfl))) ?_
    exact zq_ret (by exact dX2_firstWrongByte_69) (by exact rfl) (rv := some (zI x1)) (by exact rfl)
  · refine Eq.trans (zY_step (by exact rfl) (by exact dX2_firstWrongByte_58) (by exact rfl) (pc' := 59) (S' := [zR (some q0)]) (by exact rfl) (zcn (by exact rfl))) ?_
    refine Eq.trans (zY_step (by exact rfl) (by exact dX2_firstWrongByte_59) (by exact rfl) (pc' := 60) (S' := [zI x1, zR (some q0)]) (by exact rfl) (zcn (by exact rfl))) ?_
    exact zY_V (by exact rfl) (by exact dX2_firstWrongByte_60) (by exact rfl) (as := [zI x1]) (S' := []) (by exact rfl) (by exact rfl) (by exact zSh_k hq0) (by exact Nat.le_of_ble_eq_true rfl) (by exact Nat.le_of_ble_eq_true rfl) (by exact Nat.le_of_ble_eq_true rfl) (zcn (by exact rfl))
theorem b_X2_firstWrongByte_63 (d : Nat) (y0 x1 x3 : Int) {q0 : Nat} (hq0 : zSh q0) (σ : zS) : zq d mX2_firstWrongByte 63 [some (zR (some q0)), some (zI x1), none, some (zI x3)] [zI y0] σ = (if nrm y0 ≤ 57 then zq d mX2_firstWrongByte 43 [some (zR (some q0)), some (zI (x1 + 1)), none, some (zI x3)] [] σ else some (some (zI x1), σ)) := by
  refine Eq.trans (zY_step (by exact rfl) (by exact dX2_firstWrongByte_63) (by exact rfl) (pc' := 65) (S' := [zI 57, zI y0]) (by exact rfl) (zcn (by exact rfl))) ?_
  refine Eq.trans (zY_ic_le (by exact rfl) (by exact dX2_firstWrongByte_65) (t := 70) (by exact rfl) (a2 := nrm y0) (b2 := 57) (by exact rfl) (by decide) (L2 := [none, some (zI x1), none, none]) (zcn (by exact rfl)) (by exact rfl)) (zif ?_ ?_)
  · refine Eq.trans (zY_step (by exact rfl) (by exact dX2_firstWrongByte_70) (by exact rfl) (pc' := 73) (L' := [some (zR (some q0)), some (zI (x1 + 1)), none, some (zI x3)]) (S' := []) (by exact rfl) (zcn (by exact rfl))) ?_
    exact zY_step (by exact rfl) (by exact dX2_firstWrongByte_73) (by exact rfl) (pc' := 43) (S' := []) (L2 := [some (zR (some q0)), some (zI (x1 + 1)), none, some (zI x3)]) (by exact rfl) (by exact rfl)
  · refine Eq.trans (zY_step (by exact rfl) (by exact dX2_firstWrongByte_68) (by exact rfl) (pc' := 69) (S' := [zI x1]) (by exact rfl) (zcn (by exact rfl))) ?_
    exact zq_ret (by exact dX2_firstWrongByte_69) (by exact rfl) (rv := some (zI x1)) (by exact rfl)
theorem e_X2_digitsBehind (d : Nat) (x0 : Int) (σ : zS) : zc d mX2_digitsBehind [zI x0] σ = (if 98 = nrm x0 then some (some (zI 1), σ) else (if 104 = nrm x0 then some (some (zI 2), σ) else (if 112 = nrm x0 then some (some (zI 2), σ) else (if 114 = nrm x0 then some (some (zI 2), σ) else (if 116 = nrm x0 then some (some (zI 3), σ) else (if 120 = nrm x0 then some (some (zI 2), σ) else some (some (zI ((-1))), σ))))))) := by
  refine Eq.trans (zc_zq (L := [some (zI x0)]) (by exact rfl)) ?_
  refine Eq.trans (zY_step (by exact rfl) (by exact dX2_digitsBehind_0) (by exact rfl) (pc' := 1) (S' := [zI x0]) (by exact rfl) (zcn (by exact rfl))) ?_
  refine Eq.trans (zY_lsw (by exact rfl) (by exact dX2_digitsBehind_1) (by exact rfl) (dt := 66) (by exact rfl) (ts := [(98, 60), (104, 62), (112, 62), (114, 62), (116, 64), (120, 62)]) (by exact rfl)) ?_
  refine zif ?_ (zif ?_ (zif ?_ (zif ?_ (zif ?_ (zif ?_ (?_))))))
  · refine Eq.trans (zY_at (L2 := [some (zI x0)]) (zcn (by exact rfl))) ?_
    refine Eq.trans (zY_step (by exact rfl) (by exact dX2_digitsBehind_60) (by exact rfl) (pc' := 61) (S' := [zI 1]) (by exact rfl) (zcn (by exact rfl))) ?_
    exact zq_ret (by exact dX2_digitsBehind_61) (by exact rfl) (rv := some (zI 1)) (by exact rfl)
  · refine Eq.trans (zY_at (L2 := [none]) (by exact rfl)) ?_
    refine Eq.trans (zY_step (by exact rfl) (by exact dX2_digitsBehind_62) (by exact rfl) (pc' := 63) (S' := [zI 2]) (by exact rfl) (zcn (by exact rfl))) ?_
    exact zq_ret (by exact dX2_digitsBehind_63) (by exact rfl) (rv := some (zI 2)) (by exact rfl)
  · refine Eq.trans (zY_at (L2 := [none]) (by exact rfl)) ?_
    refine Eq.trans (zY_step (by exact rfl) (by exact dX2_digitsBehind_62) (by exact rfl) (pc' := 63) (S' := [zI 2]) (by exact rfl) (zcn (by exact rfl))) ?_
    exact zq_ret (by exact dX2_digitsBehind_63) (by exact rfl) (rv := some (zI 2)) (by exact rfl)
  · refine Eq.trans (zY_at (L2 := [none]) (by exact rfl)) ?_
    refine Eq.trans (zY_step (by exact rfl) (by exact dX2_digitsBehind_62) (by exact rfl) (pc' := 63) (S' := [zI 2]) (by exact rfl) (zcn (by exact rfl))) ?_
    exact zq_ret (by exact dX2_digitsBehind_63) (by exact rfl) (rv := some (zI 2)) (by exact rfl)
  · refine Eq.trans (zY_at (L2 := [some (zI x0)]) (zcn (by exact rfl))) ?_
    refine Eq.trans (zY_step (by exact rfl) (by exact dX2_digitsBehind_64) (by exact rfl) (pc' := 65) (S' := [zI 3]) (by exact rfl) (zcn (by exact rfl))) ?_
    exact zq_ret (by exact dX2_digitsBehind_65) (by exact rfl) (rv := some (zI 3)) (by exact rfl)
  · refine Eq.trans (zY_at (L2 := [none]) (by exact rfl)) ?_
    refine Eq.trans (zY_step (by exact rfl) (by exact dX2_digitsBehind_62) (by exact rfl) (pc' := 63) (S' := [zI 2]) (by exact rfl) (zcn (by exact rfl))) ?_
    exact zq_ret (by exact dX2_digitsBehind_63) (by exact rfl) (rv := some (zI 2)) (by exact rfl)
  · refine Eq.trans (zY_at (L2 := [some (zI x0)]) (zcn (by exact rfl))) ?_
    refine Eq.trans (zY_step (by exact rfl) (by exact dX2_digitsBehind_66) (by exact rfl) (pc' := 67) (S' := [zI ((-1))]) (by exact rfl) (zcn (by exact rfl))) ?_
    exact zq_ret (by exact dX2_digitsBehind_67) (by exact rfl) (rv := some (zI ((-1)))) (by exact rfl)
theorem e_X2_doStatements (d : Nat) {c0 : Nat} (hc0 : zCo c0) {q1 : Nat} (hq1 : zSh q1) (σ : zS) : zc d mX2_doStatements [zR (some c0), zR (some q1)] σ = zq d mX2_doStatements 7 [some (zR (some c0)), some (zR (some q1)), some (zI 0), some (zI 0), some (zI 0)] [] σ := by
  refine Eq.trans (zc_zq (L := [some (zR (some c0)), some (zR (some q1)), none, none, none]) (by exact rfl)) ?_
  refine Eq.trans (zY_step (by exact rfl) (by exact dX2_doStatements_0) (by exact rfl) (pc' := 1) (S' := [zI 0]) (by exact rfl) (zcn (by exact rfl))) ?_
  refine Eq.trans (zY_step (by exact rfl) (by exact dX2_doStatements_1) (by exact rfl) (pc' := 2) (L' := [some (zR (some c0)), some (zR (some q1)), some (zI 0), none, none]) (S' := []) (by exact rfl) (zcn (by exact rfl))) ?_
  refine Eq.trans (zY_step (by exact rfl) (by exact dX2_doStatements_2) (by exact rfl) (pc' := 3) (S' := [zI 0]) (by exact rfl) (zcn (by exact rfl))) ?_
  refine Eq.trans (zY_step (by exact rfl) (by exact dX2_doStatements_3) (by exact rfl) (pc' := 4) (L' := [some (zR (some c0)), some (zR (some q1)), some (zI 0), some (zI 0), none]) (S' := []) (by exact rfl) (zcn (by exact rfl))) ?_
  refine Eq.trans (zY_step (by exact rfl) (by exact dX2_doStatements_4) (by exact rfl) (pc' := 5) (S' := [zI 0]) (by exact rfl) (zcn (by exact rfl))) ?_
  exact zY_step (by exact rfl) (by exact dX2_doStatements_5) (by exact rfl) (pc' := 7) (L' := [some (zR (some c0)), some (zR (some q1)), some (zI 0), some (zI 0), some (zI 0)]) (S' := []) (by exact rfl) (zcn (by exact rfl))
theorem b_X2_doStatements_7 (d : Nat) (x2 x3 x4 : Int) {c0 : Nat} (hc0 : zCo c0) {q1 : Nat} (hq1 : zSh q1) (σ : zS) : zq (d + 1) mX2_doStatements 7 [some (zR (some c0)), some (zR (some q1)), some (zI x2), some (zI x3), some (zI x4)] [] σ = (if nrm (σ q1 4) ≤ nrm x4 then some (some (zI x2), σ) else (zc d mX1_byteAt [zR (some q1), zI x4] σ).bind fun r => zq (d + 1) mX2_doStatements 22 [some (zR (some c0)), some (zR (some q1)), some (zI x2), some (zI x3), some (zI x4)] (r.1.toList ++ []) r.2) := by
  refine Eq.trans (zY_step (by exact rfl) (by exact dX2_doStatements_7) (by exact rfl) (pc' := 9) (S' := [zI x4]) (by exact rfl) (zcn (by exact rfl))) ?_
  refine Eq.trans (zY_step (by exact rfl) (by exact dX2_doStatements_9) (by exact rfl) (pc' := 10) (S' := [zR (some q1), zI x4]) (by exact rfl) (zcn (by exact rfl))) ?_
  refine Eq.trans (zY_getI (by exact rfl) (by exact dX2_doStatements_10) (by exact rfl) (by exact zSh_k hq1) (by exact zSh_r4 hq1) (zcn (by exact rfl))) ?_
  refine Eq.trans (zY_ic_ge (by exact rfl) (by exact dX2_doStatements_13) (t := 56) (by exact rfl) (a2 := nrm x4) (b2 := nrm (σ q1 4)) (by exact rfl) (by exact rfl) (zcn (by exact rfl)) (zcn (by exact rfl))) (zif ?_ ?_)
  · refine Eq.trans (zY_step (by exact rfl) (by exact dX2_doStatements_56) (by exact rfl) (pc' := 57) (S' := [zI x2]) (by exact rfl) (zcn (by exact rfl))) ?_
    exact zq_ret (by exact dX2_doStatements_57) (by exact rfl) (rv := some (zI x2)) (by exact rfl)
  · refine Eq.trans (zY_step (by exact rfl) (by exact dX2_doStatements_16) (by exact rfl) (pc' := 17) (S' := [zR (some q1)]) (by exact rfl) (zcn (by exact rfl))) ?_
    refine Eq.trans (zY_step (by exact rfl) (by exact dX2_doStatements_17) (by exact rfl) (pc' := 19) (S' := [zI x4, zR (some q1)]) (by exact rfl) (zcn (by exact rfl))) ?_
    exact zY_V (by exact rfl) (by exact dX2_doStatements_19) (by exact rfl) (as := [zI x4]) (S' := []) (by exact rfl) (by exact rfl) (by exact zSh_k hq1) (by exact Nat.le_of_ble_eq_true rfl) (by exact Nat.le_of_ble_eq_true rfl) (by exact Nat.le_of_ble_eq_true rfl) (zcn (by exact rfl))
theorem b_X2_doStatements_22 (d : Nat) (y0 x2 x3 x4 : Int) {c0 : Nat} (hc0 : zCo c0) {q1 : Nat} (hq1 : zSh q1) (σ : zS) : zq (d + 1) mX2_doStatements 22 [some (zR (some c0)), some (zR (some q1)), some (zI x2), some (zI x3), some (zI x4)] [zI y0] σ = (if ¬ nrm y0 = 59 then zq (d + 1) mX2_doStatements 50 [some (zR (some c0)), some (zR (some q1)), some (zI x2), some (zI x3), some (zI x4)] [] σ else (zc d mX2_doStatement [zR (some c0), zR (some q1), zI x3] σ).bind fun r => zq (d + 1) mX2_doStatements 33 [some (zR (some c0)), some (zR (some q1)), some (zI x2), some (zI x3), some (zI x4)] (r.1.toList ++ []) r.2) := by
  refine Eq.trans (zY_step (by exact rfl) (by exact dX2_doStatements_22) (by exact rfl) (pc' := 24) (S' := [zI 59, zI y0]) (by exact rfl) (zcn (by exact rfl))) ?_
  refine Eq.trans (zY_ic_ne (by exact rfl) (by exact dX2_doStatements_24) (t := 50) (by exact rfl) (a2 := nrm y0) (b2 := 59) (by exact rfl) (by decide) (zcn (by exact rfl)) (zcn (by exact rfl))) (zif ?_ ?_)
  · exact rfl
  · refine Eq.trans (zY_step (by exact rfl) (by exact dX2_doStatements_27) (by exact rfl) (pc' := 28) (S' := [zR (some c0)]) (by exact rfl) (zcn (by exact rfl))) ?_
    refine Eq.trans (zY_step (by exact rfl) (by exact dX2_doStatements_28) (by exact rfl) (pc' := 29) (S' := [zR (some q1), zR (some c0)]) (by exact rfl) (zcn (by exact rfl))) ?_
    refine Eq.trans (zY_step (by exact rfl) (by exact dX2_doStatements_29) (by exact rfl) (pc' := 30) (S' := [zI x3, zR (some q1), zR (some c0)]) (by exact rfl) (zcn (by exact rfl))) ?_
    exact zY_S (by exact rfl) (by exact dX2_doStatements_30) (by exact rfl) (by exact Or.inl rfl) (as := [zR (some c0), zR (some q1), zI x3]) (S' := []) (by exact rfl) (by exact rfl) (by exact Nat.le_of_ble_eq_true rfl) (by exact Nat.le_of_ble_eq_true rfl) (zcn (by exact rfl))
theorem b_X2_doStatements_50 (d : Nat) (x2 x3 x4 : Int) {c0 : Nat} (hc0 : zCo c0) {q1 : Nat} (hq1 : zSh q1) (σ : zS) : zq d mX2_doStatements 50 [some (zR (some c0)), some (zR (some q1)), some (zI x2), some (zI x3), some (zI x4)] [] σ = zq d mX2_doStatements 7 [some (zR (some c0)), some (zR (some q1)), some (zI x2), some (zI x3), some (zI (x4 + 1))] [] σ := by
  refine Eq.trans (zY_step (by exact rfl) (by exact dX2_doStatements_50) (by exact rfl) (pc' := 53) (L' := [some (zR (some c0)), some (zR (some q1)), some (zI x2), some (zI x3), some (zI (x4 + 1))]) (S' := []) (by exact rfl) (zcn (by exact rfl))) ?_
  exact zY_step (by exact rfl) (by exact dX2_doStatements_53) (by exact rfl) (pc' := 7) (S' := []) (by exact rfl) (zcn (by exact rfl))
theorem b_X2_doStatements_33 (d : Nat) (y0 x2 x3 x4 : Int) {c0 : Nat} (hc0 : zCo c0) {q1 : Nat} (hq1 : zSh q1) (σ : zS) : zq d mX2_doStatements 33 [some (zR (some c0)), some (zR (some q1)), some (zI x2), some (zI x3), some (zI x4)] [zI y0] σ = (if ¬ nrm y0 = 0 then zq d mX2_doStatements 50 [some (zR (some c0)), some (zR (some q1)), some (zI (x2 + 1)), some (zI (x4 + 1)), some (zI x4)] [] σ else some (some (zI (((-2000)) - x3)), σ)) := by
  refine Eq.trans (zY_if_ne (by exact rfl) (by exact dX2_doStatements_33) (t := 42) (by exact rfl) (a2 := nrm y0) (by exact rfl) (zcn (by exact rfl)) (zcn (by exact rfl))) (zif ?_ ?_)
  · refine Eq.trans (zY_step (by exact rfl) (by exact dX2_doStatements_42) (by exact rfl) (pc' := 44) (S' := [zI x4]) (by exact rfl) (zcn (by exact rfl))) ?_
    refine Eq.trans (zY_step (by exact rfl) (by exact dX2_doStatements_44) (by exact rfl) (pc' := 45) (S' := [zI 1, zI x4]) (by exact rfl) (zcn (by exact rfl))) ?_
    refine Eq.trans (zY_step (by exact rfl) (by exact dX2_doStatements_45) (by exact rfl) (pc' := 46) (S' := [zI (x4 + 1)]) (by exact rfl) (zcn (by exact rfl))) ?_
    refine Eq.trans (zY_step (by exact rfl) (by exact dX2_doStatements_46) (by exact rfl) (pc' := 47) (L' := [some (zR (some c0)), some (zR (some q1)), some (zI x2), some (zI (x4 + 1)), some (zI x4)]) (S' := []) (by exact rfl) (zcn (by exact rfl))) ?_
    exact zY_step (by exact rfl) (by exact dX2_doStatements_47) (by exact rfl) (pc' := 50) (L' := [some (zR (some c0)), some (zR (some q1)), some (zI (x2 + 1)), some (zI (x4 + 1)), some (zI x4)]) (S' := []) (by exact rfl) (zcn (by exact rfl))
  · refine Eq.trans (zY_step (by exact rfl) (by exact dX2_doStatements_36) (by exact rfl) (pc' := 39) (S' := [zI ((-2000))]) (by exact rfl) (zcn (by exact rfl))) ?_
    refine Eq.trans (zY_step (by exact rfl) (by exact dX2_doStatements_39) (by exact rfl) (pc' := 40) (S' := [zI x3, zI ((-2000))]) (by exact rfl) (zcn (by exact rfl))) ?_
    refine Eq.trans (zY_step (by exact rfl) (by exact dX2_doStatements_40) (by exact rfl) (pc' := 41) (S' := [zI (((-2000)) - x3)]) (by exact rfl) (zcn (by exact rfl))) ?_
    exact zq_ret (by exact dX2_doStatements_41) (by exact rfl) (rv := some (zI (((-2000)) - x3))) (by exact rfl)
theorem e_X2_doStatement (d : Nat) (x2 : Int) {c0 : Nat} (hc0 : zCo c0) {q1 : Nat} (hq1 : zSh q1) (σ : zS) : zc (d + 1) mX2_doStatement [zR (some c0), zR (some q1), zI x2] σ = (zc d mX1_digitAt [zR (some q1), zI (x2 + 1)] σ).bind fun r => zq (d + 1) mX2_doStatement 7 [some (zR (some c0)), some (zR (some q1)), some (zI x2), none, none] (r.1.toList ++ []) r.2 := by
  refine Eq.trans (zc_zq (L := [some (zR (some c0)), some (zR (some q1)), some (zI x2), none, none]) (by exact rfl)) ?_
  refine Eq.trans (zY_step (by exact rfl) (by exact dX2_doStatement_0) (by exact rfl) (pc' := 1) (S' := [zR (some q1)]) (by exact rfl) (zcn (by exact rfl))) ?_
  refine Eq.trans (zY_step (by exact rfl) (by exact dX2_doStatement_1) (by exact rfl) (pc' := 2) (S' := [zI x2, zR (some q1)]) (by exact rfl) (zcn (by exact rfl))) ?_
  refine Eq.trans (zY_step (by exact rfl) (by exact dX2_doStatement_2) (by exact rfl) (pc' := 3) (S' := [zI 1, zI x2, zR (some q1)]) (by exact rfl) (zcn (by exact rfl))) ?_
  refine Eq.trans (zY_step (by exact rfl) (by exact dX2_doStatement_3) (by exact rfl) (pc' := 4) (S' := [zI (x2 + 1), zR (some q1)]) (by exact rfl) (zcn (by exact rfl))) ?_
  exact zY_V (by exact rfl) (by exact dX2_doStatement_4) (by exact rfl) (as := [zI (x2 + 1)]) (S' := []) (by exact rfl) (by exact rfl) (by exact zSh_k hq1) (by exact Nat.le_of_ble_eq_true rfl) (by exact Nat.le_of_ble_eq_true rfl) (by exact Nat.le_of_ble_eq_true rfl) (zcn (by exact rfl))
theorem b_X2_doStatement_7 (d : Nat) (y0 x2 : Int) {c0 : Nat} (hc0 : zCo c0) {q1 : Nat} (hq1 : zSh q1) (σ : zS) : zq (d + 1) mX2_doStatement 7 [some (zR (some c0)), some (zR (some q1)), some (zI x2), none, none] [zI y0] σ = (zc d mX1_digitAt [zR (some q1), zI (x2 + 2)] σ).bind fun r => zq (d + 1) mX2_doStatement 15 [some (zR (some c0)), some (zR (some q1)), some (zI x2), some (zI y0), none] (r.1.toList ++ []) r.2 := by
  refine Eq.trans (zY_step (by exact rfl) (by exact dX2_doStatement_7) (by exact rfl) (pc' := 8) (L' := [some (zR (some c0)), some (zR (some q1)), some (zI x2), some (zI y0), none]) (S' := []) (by exact rfl) (zcn (by exact rfl))) ?_
  refine Eq.trans (zY_step (by exact rfl) (by exact dX2_doStatement_8) (by exact rfl) (pc' := 9) (S' := [zR (some q1)]) (by exact rfl) (zcn (by exact rfl))) ?_
  refine Eq.trans (zY_step (by exact rfl) (by exact dX2_doStatement_9) (by exact rfl) (pc' := 10) (S' := [zI x2, zR (some q1)]) (by exact rfl) (zcn (by exact rfl))) ?_
  refine Eq.trans (zY_step (by exact rfl) (by exact dX2_doStatement_10) (by exact rfl) (pc' := 11) (S' := [zI 2, zI x2, zR (some q1)]) (by exact rfl) (zcn (by exact rfl))) ?_
  refine Eq.trans (zY_step (by exact rfl) (by exact dX2_doStatement_11) (by exact rfl) (pc' := 12) (S' := [zI (x2 + 2), zR (some q1)]) (by exact rfl) (zcn (by exact rfl))) ?_
  exact zY_V (by exact rfl) (by exact dX2_doStatement_12) (by exact rfl) (as := [zI (x2 + 2)]) (S' := []) (by exact rfl) (by exact rfl) (by exact zSh_k hq1) (by exact Nat.le_of_ble_eq_true rfl) (by exact Nat.le_of_ble_eq_true rfl) (by exact Nat.le_of_ble_eq_true rfl) (zcn (by exact rfl))
theorem b_X2_doStatement_15 (d : Nat) (y0 x2 x3 : Int) {c0 : Nat} (hc0 : zCo c0) {q1 : Nat} (hq1 : zSh q1) (σ : zS) : zq (d + 1) mX2_doStatement 15 [some (zR (some c0)), some (zR (some q1)), some (zI x2), some (zI x3), none] [zI y0] σ = (zc d mX1_byteAt [zR (some q1), zI x2] σ).bind fun r => zq (d + 1) mX2_doStatement 22 [some (zR (some c0)), some (zR (some q1)), some (zI x2), some (zI x3), some (zI y0)] (r.1.toList ++ []) r.2 := by
  refine Eq.trans (zY_step (by exact rfl) (by exact dX2_doStatement_15) (by exact rfl) (pc' := 17) (L' := [some (zR (some c0)), some (zR (some q1)), some (zI x2), some (zI x3), some (zI y0)]) (S' := []) (by exact rfl) (zcn (by exact rfl))) ?_
  refine Eq.trans (zY_step (by exact rfl) (by exact dX2_doStatement_17) (by exact rfl) (pc' := 18) (S' := [zR (some q1)]) (by exact rfl) (zcn (by exact rfl))) ?_
  refine Eq.trans (zY_step (by exact rfl) (by exact dX2_doStatement_18) (by exact rfl) (pc' := 19) (S' := [zI x2, zR (some q1)]) (by exact rfl) (zcn (by exact rfl))) ?_
  exact zY_V (by exact rfl) (by exact dX2_doStatement_19) (by exact rfl) (as := [zI x2]) (S' := []) (by exact rfl) (by exact rfl) (by exact zSh_k hq1) (by exact Nat.le_of_ble_eq_true rfl) (by exact Nat.le_of_ble_eq_true rfl) (by exact Nat.le_of_ble_eq_true rfl) (zcn (by exact rfl))
theorem b_X2_doStatement_22 (d : Nat) (y0 x2 x3 x4 : Int) {c0 : Nat} (hc0 : zCo c0) {q1 : Nat} (hq1 : zSh q1) (σ : zS) : zq (d + 1) mX2_doStatement 22 [some (zR (some c0)), some (zR (some q1)), some (zI x2), some (zI x3), some (zI x4)] [zI y0] σ = (if 98 = nrm y0 then (zc d mX0_blockOrFree [zR (some c0), zI x3] σ).bind fun r => zq (d + 1) mX2_doStatement 112 [some (zR (some c0)), some (zR (some q1)), some (zI x2), some (zI x3), some (zI x4)] (r.1.toList ++ []) r.2 else (if 104 = nrm y0 then (zc d mX0_setClock [zR (some c0), zI ((10 * x3) + x4)] σ).bind fun r => zq (d + 1) mX2_doStatement 124 [some (zR (some c0)), some (zR (some q1)), some (zI x2), some (zI x3), some (zI x4)] (r.1.toList ++ []) r.2 else (if 112 = nrm y0 then (zc d mX0_sitDown [zR (some c0), zI x3, zI x4] σ).bind fun r => zq (d + 1) mX2_doStatement 87 [some (zR (some c0)), some (zR (some q1)), some (zI x2), some (zI x3), some (zI x4)] (r.1.toList ++ []) r.2 else (if 114 = nrm y0 then (zc d mX0_travel [zR (some c0), zI ((10 * x3) + x4)] σ).bind fun r => zq (d + 1) mX2_doStatement 136 [some (zR (some c0)), some (zR (some q1)), some (zI x2), some (zI x3), some (zI x4)] (r.1.toList ++ []) r.2 else (if 116 = nrm y0 then (zc d mX1_digitAt [zR (some q1), zI (x2 + 3)] σ).bind fun r => zq (d + 1) mX2_doStatement 102 [some (zR (some c0)), some (zR (some q1)), some (zI x2), some (zI x3), some (zI x4)] (r.1.toList ++ [zI (10 * x4), zI x3, zR (some c0)]) r.2 else (if 120 = nrm y0 then (zc d mX0_changePlaces [zR (some c0), zI x3, zI x4] σ).bind fun r => zq (d + 1) mX2_doStatement 144 [some (zR (some c0)), some (zR (some q1)), some (zI x2), some (zI x3), some (zI x4)] (r.1.toList ++ []) r.2 else some (some (zI 0), σ))))))) := by
  refine Eq.trans (zY_lsw (by exact rfl) (by exact dX2_doStatement_22) (by exact rfl) (dt := 145) (by exact rfl) (ts := [(98, 107), (104, 113), (112, 80), (114, 125), (116, 88), (120, 137)]) (by exact rfl)) ?_
  refine zif ?_ (zif ?_ (zif ?_ (zif ?_ (zif ?_ (zif ?_ (?_))))))
  · refine Eq.trans (zY_at (L2 := [some (zR (some c0)), some (zR (some q1)), some (zI x2), some (zI x3), some (zI x4)]) (zcn (by exact rfl))) ?_
    refine Eq.trans (zY_step (by exact rfl) (by exact dX2_doStatement_107) (by exact rfl) (pc' := 108) (S' := [zR (some c0)]) (by exact rfl) (zcn (by exact rfl))) ?_
    refine Eq.trans (zY_step (by exact rfl) (by exact dX2_doStatement_108) (by exact rfl) (pc' := 109) (S' := [zI x3, zR (some c0)]) (by exact rfl) (zcn (by exact rfl))) ?_
    exact zY_V (by exact rfl) (by exact dX2_doStatement_109) (by exact rfl) (as := [zI x3]) (S' := []) (by exact rfl) (by exact rfl) (by exact zCo_k hc0) (by exact Nat.le_of_ble_eq_true rfl) (by exact Nat.le_of_ble_eq_true rfl) (by exact Nat.le_of_ble_eq_true rfl) (zcn (by exact rfl))
  · refine Eq.trans (zY_at (L2 := [some (zR (some c0)), some (zR (some q1)), some (zI x2), some (zI x3), some (zI x4)]) (zcn (by exact rfl))) ?_
    refine Eq.trans (zY_step (by exact rfl) (by exact dX2_doStatement_113) (by exact rfl) (pc' := 114) (S' := [zR (some c0)]) (by exact rfl) (zcn (by exact rfl))) ?_
    refine Eq.trans (zY_step (by exact rfl) (by exact dX2_doStatement_114) (by exact rfl) (pc' := 116) (S' := [zI 10, zR (some c0)]) (by exact rfl) (zcn (by exact rfl))) ?_
    refine Eq.trans (zY_step (by exact rfl) (by exact dX2_doStatement_116) (by exact rfl) (pc' := 117) (S' := [zI x3, zI 10, zR (some c0)]) (by exact rfl) (zcn (by exact rfl))) ?_
    refine Eq.trans (zY_step (by exact rfl) (by exact dX2_doStatement_117) (by exact rfl) (pc' := 118) (S' := [zI (10 * x3), zR (some c0)]) (by exact rfl) (zcn (by exact rfl))) ?_
    refine Eq.trans (zY_step (by exact rfl) (by exact dX2_doStatement_118) (by exact rfl) (pc' := 120) (S' := [zI x4, zI (10 * x3), zR (some c0)]) (by exact rfl) (zcn (by exact rfl))) ?_
    refine Eq.trans (zY_step (by exact rfl) (by exact dX2_doStatement_120) (by exact rfl) (pc' := 121) (S' := [zI ((10 * x3) + x4), zR (some c0)]) (by exact rfl) (zcn (by exact rfl))) ?_
    exact zY_V (by exact rfl) (by exact dX2_doStatement_121) (by exact rfl) (as := [zI ((10 * x3) + x4)]) (S' := []) (by exact rfl) (by exact rfl) (by exact zCo_k hc0) (by exact Nat.le_of_ble_eq_true rfl) (by exact Nat.le_of_ble_eq_true rfl) (by exact Nat.le_of_ble_eq_true rfl) (zcn (by exact rfl))
  · refine Eq.trans (zY_at (L2 := [some (zR (some c0)), some (zR (some q1)), some (zI x2), some (zI x3), some (zI x4)]) (zcn (by exact rfl))) ?_
    refine Eq.trans (zY_step (by exact rfl) (by exact dX2_doStatement_80) (by exact rfl) (pc' := 81) (S' := [zR (some c0)]) (by exact rfl) (zcn (by exact rfl))) ?_
    refine Eq.trans (zY_step (by exact rfl) (by exact dX2_doStatement_81) (by exact rfl) (pc' := 82) (S' := [zI x3, zR (some c0)]) (by exact rfl) (zcn (by exact rfl))) ?_
    refine Eq.trans (zY_step (by exact rfl) (by exact dX2_doStatement_82) (by exact rfl) (pc' := 84) (S' := [zI x4, zI x3, zR (some c0)]) (by exact rfl) (zcn (by exact rfl))) ?_
    exact zY_V (by exact rfl) (by exact dX2_doStatement_84) (by exact rfl) (as := [zI x3, zI x4]) (S' := []) (by exact rfl) (by exact rfl) (by exact zCo_k hc0) (by exact Nat.le_of_ble_eq_true rfl) (by exact Nat.le_of_ble_eq_true rfl) (by exact Nat.le_of_ble_eq_true rfl) (zcn (by exact rfl))
  · refine Eq.trans (zY_at (L2 := [some (zR (some c0)), some (zR (some q1)), some (zI x2), some (zI x3), some (zI x4)]) (zcn (by exact rfl))) ?_
    refine Eq.trans (zY_step (by exact rfl) (by exact dX2_doStatement_125) (by exact rfl) (pc' := 126) (S' := [zR (some c0)]) (by exact rfl) (zcn (by exact rfl))) ?_
    refine Eq.trans (zY_step (by exact rfl) (by exact dX2_doStatement_126) (by exact rfl) (pc' := 128) (S' := [zI 10, zR (some c0)]) (by exact rfl) (zcn (by exact rfl))) ?_
    refine Eq.trans (zY_step (by exact rfl) (by exact dX2_doStatement_128) (by exact rfl) (pc' := 129) (S' := [zI x3, zI 10, zR (some c0)]) (by exact rfl) (zcn (by exact rfl))) ?_
    refine Eq.trans (zY_step (by exact rfl) (by exact dX2_doStatement_129) (by exact rfl) (pc' := 130) (S' := [zI (10 * x3), zR (some c0)]) (by exact rfl) (zcn (by exact rfl))) ?_
    refine Eq.trans (zY_step (by exact rfl) (by exact dX2_doStatement_130) (by exact rfl) (pc' := 132) (S' := [zI x4, zI (10 * x3), zR (some c0)]) (by exact rfl) (zcn (by exact rfl))) ?_
    refine Eq.trans (zY_step (by exact rfl) (by exact dX2_doStatement_132) (by exact rfl) (pc' := 133) (S' := [zI ((10 * x3) + x4), zR (some c0)]) (by exact rfl) (zcn (by exact rfl))) ?_
    exact zY_V (by exact rfl) (by exact dX2_doStatement_133) (by exact rfl) (as := [zI ((10 * x3) + x4)]) (S' := []) (by exact rfl) (by exact rfl) (by exact zCo_k hc0) (by exact Nat.le_of_ble_eq_true rfl) (by exact Nat.le_of_ble_eq_true rfl) (by exact Nat.le_of_ble_eq_true rfl) (zcn (by exact rfl))
  · refine Eq.trans (zY_at (L2 := [some (zR (some c0)), some (zR (some q1)), some (zI x2), some (zI x3), some (zI x4)]) (zcn (by exact rfl))) ?_
    refine Eq.trans (zY_step (by exact rfl) (by exact dX2_doStatement_88) (by exact rfl) (pc' := 89) (S' := [zR (some c0)]) (by exact rfl) (zcn (by exact rfl))) ?_
    refine Eq.trans (zY_step (by exact rfl) (by exact dX2_doStatement_89) (by exact rfl) (pc' := 90) (S' := [zI x3, zR (some c0)]) (by exact rfl) (zcn (by exact rfl))) ?_
    refine Eq.trans (zY_step (by exact rfl) (by exact dX2_doStatement_90) (by exact rfl) (pc' := 92) (S' := [zI 10, zI x3, zR (some c0)]) (by exact rfl) (zcn (by exact rfl))) ?_
    refine Eq.trans (zY_step (by exact rfl) (by exact dX2_doStatement_92) (by exact rfl) (pc' := 94) (S' := [zI x4, zI 10, zI x3, zR (some c0)]) (by exact rfl) (zcn (by exact rfl))) ?_
    refine Eq.trans (zY_step (by exact rfl) (by exact dX2_doStatement_94) (by exact rfl) (pc' := 95) (S' := [zI (10 * x4), zI x3, zR (some c0)]) (by exact rfl) (zcn (by exact rfl))) ?_
    refine Eq.trans (zY_step (by exact rfl) (by exact dX2_doStatement_95) (by exact rfl) (pc' := 96) (S' := [zR (some q1), zI (10 * x4), zI x3, zR (some c0)]) (by exact rfl) (zcn (by exact rfl))) ?_
    refine Eq.trans (zY_step (by exact rfl) (by exact dX2_doStatement_96) (by exact rfl) (pc' := 97) (S' := [zI x2, zR (some q1), zI (10 * x4), zI x3, zR (some c0)]) (by exact rfl) (zcn (by exact rfl))) ?_
    refine Eq.trans (zY_step (by exact rfl) (by exact dX2_doStatement_97) (by exact rfl) (pc' := 98) (S' := [zI 3, zI x2, zR (some q1), zI (10 * x4), zI x3, zR (some c0)]) (by exact rfl) (zcn (by exact rfl))) ?_
    refine Eq.trans (zY_step (by exact rfl) (by exact dX2_doStatement_98) (by exact rfl) (pc' := 99) (S' := [zI (x2 + 3), zR (some q1), zI (10 * x4), zI x3, zR (some c0)]) (by exact rfl) (zcn (by exact rfl))) ?_
    exact zY_V (by exact rfl) (by exact dX2_doStatement_99) (by exact rfl) (as := [zI (x2 + 3)]) (S' := [zI (10 * x4), zI x3, zR (some c0)]) (by exact rfl) (by exact rfl) (by exact zSh_k hq1) (by exact Nat.le_of_ble_eq_true rfl) (by exact Nat.le_of_ble_eq_true rfl) (by exact Nat.le_of_ble_eq_true rfl) (zcn (by exact rfl))
  · refine Eq.trans (zY_at (L2 := [some (zR (some c0)), some (zR (some q1)), some (zI x2), some (zI x3), some (zI x4)]) (zcn (by exact rfl))) ?_
    refine Eq.trans (zY_step (by exact rfl) (by exact dX2_doStatement_137) (by exact rfl) (pc' := 138) (S' := [zR (some c0)]) (by exact rfl) (zcn (by exact rfl))) ?_
    refine Eq.trans (zY_step (by exact rfl) (by exact dX2_doStatement_138) (by exact rfl) (pc' := 139) (S' := [zI x3, zR (some c0)]) (by exact rfl) (zcn (by exact rfl))) ?_
    refine Eq.trans (zY_step (by exact rfl) (by exact dX2_doStatement_139) (by exact rfl) (pc' := 141) (S' := [zI x4, zI x3, zR (some c0)]) (by exact rfl) (zcn (by exact rfl))) ?_
    exact zY_V (by exact rfl) (by exact dX2_doStatement_141) (by exact rfl) (as := [zI x3, zI x4]) (S' := []) (by exact rfl) (by exact rfl) (by exact zCo_k hc0) (by exact Nat.le_of_ble_eq_true rfl) (by exact Nat.le_of_ble_eq_true rfl) (by exact Nat.le_of_ble_eq_true rfl) (zcn (by exact rfl))
  · refine Eq.trans (zY_at (L2 := [some (zR (some c0)), some (zR (some q1)), some (zI x2), some (zI x3), some (zI x4)]) (zcn (by exact rfl))) ?_
    refine Eq.trans (zY_step (by exact rfl) (by exact dX2_doStatement_145) (by exact rfl) (pc' := 146) (S' := [zI 0]) (by exact rfl) (zcn (by exact rfl))) ?_
    exact zq_ret (by exact dX2_doStatement_146) (by exact rfl) (rv := some (zI 0)) (by exact rfl)
theorem b_X2_doStatement_112 (d : Nat) (y0 x2 x3 x4 : Int) {c0 : Nat} (hc0 : zCo c0) {q1 : Nat} (hq1 : zSh q1) (σ : zS) : zq d mX2_doStatement 112 [some (zR (some c0)), some (zR (some q1)), some (zI x2), some (zI x3), some (zI x4)] [zI y0] σ = (if nrm y0 = 0 ∨ nrm y0 = 1 then some (some (zI y0), σ) else none) := by
  exact zq_retb (by exact dX2_doStatement_112) (by exact rfl)
theorem b_X2_doStatement_124 (d : Nat) (y0 x2 x3 x4 : Int) {c0 : Nat} (hc0 : zCo c0) {q1 : Nat} (hq1 : zSh q1) (σ : zS) : zq d mX2_doStatement 124 [some (zR (some c0)), some (zR (some q1)), some (zI x2), some (zI x3), some (zI x4)] [zI y0] σ = (if nrm y0 = 0 ∨ nrm y0 = 1 then some (some (zI y0), σ) else none) := by
  exact zq_retb (by exact dX2_doStatement_124) (by exact rfl)
theorem b_X2_doStatement_87 (d : Nat) (y0 x2 x3 x4 : Int) {c0 : Nat} (hc0 : zCo c0) {q1 : Nat} (hq1 : zSh q1) (σ : zS) : zq d mX2_doStatement 87 [some (zR (some c0)), some (zR (some q1)), some (zI x2), some (zI x3), some (zI x4)] [zI y0] σ = (if nrm y0 = 0 ∨ nrm y0 = 1 then some (some (zI y0), σ) else none) := by
  exact zq_retb (by exact dX2_doStatement_87) (by exact rfl)
theorem b_X2_doStatement_136 (d : Nat) (y0 x2 x3 x4 : Int) {c0 : Nat} (hc0 : zCo c0) {q1 : Nat} (hq1 : zSh q1) (σ : zS) : zq d mX2_doStatement 136 [some (zR (some c0)), some (zR (some q1)), some (zI x2), some (zI x3), some (zI x4)] [zI y0] σ = (if nrm y0 = 0 ∨ nrm y0 = 1 then some (some (zI y0), σ) else none) := by
  exact zq_retb (by exact dX2_doStatement_136) (by exact rfl)
theorem b_X2_doStatement_102 (d : Nat) (y0 y1 y2 x2 x3 x4 : Int) {c0 : Nat} (hc0 : zCo c0) {q1 : Nat} (hq1 : zSh q1) (σ : zS) : zq (d + 1) mX2_doStatement 102 [some (zR (some c0)), some (zR (some q1)), some (zI x2), some (zI x3), some (zI x4)] [zI y0, zI y1, zI y2, zR (some c0)] σ = (zc d mX0_setTip [zR (some c0), zI y2, zI (y1 + y0)] σ).bind fun r => zq (d + 1) mX2_doStatement 106 [some (zR (some c0)), some (zR (some q1)), some (zI x2), some (zI x3), some (zI x4)] (r.1.toList ++ []) r.2 := by
  refine Eq.trans (zY_step (by exact rfl) (by exact dX2_doStatement_102) (by exact rfl) (pc' := 103) (S' := [zI (y1 + y0), zI y2, zR (some c0)]) (by exact rfl) (zcn (by exact rfl))) ?_
  exact zY_V (by exact rfl) (by exact dX2_doStatement_103) (by exact rfl) (as := [zI y2, zI (y1 + y0)]) (S' := []) (by exact rfl) (by exact rfl) (by exact zCo_k hc0) (by exact Nat.le_of_ble_eq_true rfl) (by exact Nat.le_of_ble_eq_true rfl) (by exact Nat.le_of_ble_eq_true rfl) (zcn (by exact rfl))
theorem b_X2_doStatement_144 (d : Nat) (y0 x2 x3 x4 : Int) {c0 : Nat} (hc0 : zCo c0) {q1 : Nat} (hq1 : zSh q1) (σ : zS) : zq d mX2_doStatement 144 [some (zR (some c0)), some (zR (some q1)), some (zI x2), some (zI x3), some (zI x4)] [zI y0] σ = (if nrm y0 = 0 ∨ nrm y0 = 1 then some (some (zI y0), σ) else none) := by
  exact zq_retb (by exact dX2_doStatement_144) (by exact rfl)
theorem b_X2_doStatement_106 (d : Nat) (y0 x2 x3 x4 : Int) {c0 : Nat} (hc0 : zCo c0) {q1 : Nat} (hq1 : zSh q1) (σ : zS) : zq d mX2_doStatement 106 [some (zR (some c0)), some (zR (some q1)), some (zI x2), some (zI x3), some (zI x4)] [zI y0] σ = (if nrm y0 = 0 ∨ nrm y0 = 1 then some (some (zI y0), σ) else none) := by
  exact zq_retb (by exact dX2_doStatement_106) (by exact rfl)
theorem e_X2_bestTip (d : Nat) (x1 : Int) (σ : zS) : zc (d + 1) mX2_bestTip [zR (some 0), zI x1] σ = (zc d mX0_isRow [zR (some 1), zI (x1 + 1)] σ).bind fun r => zq (d + 1) mX2_bestTip 10 [some (zR (some 0)), some (zI x1), none] (r.1.toList ++ []) r.2 := by
  refine Eq.trans (zc_zq (L := [some (zR (some 0)), some (zI x1), none]) (by exact rfl)) ?_
  refine Eq.trans (zY_step (by exact rfl) (by exact dX2_bestTip_0) (by exact rfl) (pc' := 1) (S' := [zR (some 0)]) (by exact rfl) (zcn (by exact rfl))) ?_
  refine Eq.trans (zY_getR (by exact rfl) (by exact dX2_bestTip_1) (by exact rfl) (by exact rfl) (t := 1) (by exact rfl) (zcn (by exact rfl))) ?_
  refine Eq.trans (zY_step (by exact rfl) (by exact dX2_bestTip_4) (by exact rfl) (pc' := 5) (S' := [zI x1, zR (some 1)]) (by exact rfl) (zcn (by exact rfl))) ?_
  refine Eq.trans (zY_step (by exact rfl) (by exact dX2_bestTip_5) (by exact rfl) (pc' := 6) (S' := [zI 1, zI x1, zR (some 1)]) (by exact rfl) (zcn (by exact rfl))) ?_
  refine Eq.trans (zY_step (by exact rfl) (by exact dX2_bestTip_6) (by exact rfl) (pc' := 7) (S' := [zI (x1 + 1), zR (some 1)]) (by exact rfl) (zcn (by exact rfl))) ?_
  exact zY_V (by exact rfl) (by exact dX2_bestTip_7) (by exact rfl) (as := [zI (x1 + 1)]) (S' := []) (by exact rfl) (by exact rfl) (by exact zCo_k zCo1) (by exact Nat.le_of_ble_eq_true rfl) (by exact Nat.le_of_ble_eq_true rfl) (by exact Nat.le_of_ble_eq_true rfl) (zcn (by exact rfl))
theorem b_X2_bestTip_10 (d : Nat) (y0 x1 : Int) (σ : zS) : zq (d + 1) mX2_bestTip 10 [some (zR (some 0)), some (zI x1), none] [zI y0] σ = (if nrm y0 = 0 then zq (d + 1) mX2_bestTip 38 [some (zR (some 0)), some (zI x1), none] [] σ else (zc d mX0_worthAt [zR (some 1), zI x1] σ).bind fun r => zq (d + 1) mX2_bestTip 21 [some (zR (some 0)), some (zI x1), none] (r.1.toList ++ []) r.2) := by
  refine Eq.trans (zY_if_eq (by exact rfl) (by exact dX2_bestTip_10) (t := 38) (by exact rfl) (a2 := nrm y0) (by exact rfl) (zcn (by exact rfl)) (zcn (by exact rfl))) (zif ?_ ?_)
  · exact rfl
  · refine Eq.trans (zY_step (by exact rfl) (by exact dX2_bestTip_13) (by exact rfl) (pc' := 14) (S' := [zR (some 0)]) (by exact rfl) (zcn (by exact rfl))) ?_
    refine Eq.trans (zY_getR (by exact rfl) (by exact dX2_bestTip_14) (by exact rfl) (by exact rfl) (t := 1) (by exact rfl) (zcn (by exact rfl))) ?_
    refine Eq.trans (zY_step (by exact rfl) (by exact dX2_bestTip_17) (by exact rfl) (pc' := 18) (S' := [zI x1, zR (some 1)]) (by exact rfl) (zcn (by exact rfl))) ?_
    exact zY_V (by exact rfl) (by exact dX2_bestTip_18) (by exact rfl) (as := [zI x1]) (S' := []) (by exact rfl) (by exact rfl) (by exact zCo_k zCo1) (by exact Nat.le_of_ble_eq_true rfl) (by exact Nat.le_of_ble_eq_true rfl) (by exact Nat.le_of_ble_eq_true rfl) (zcn (by exact rfl))
theorem b_X2_bestTip_38 (d : Nat) (x1 : Int) (σ : zS) : zq d mX2_bestTip 38 [some (zR (some 0)), some (zI x1), none] [] σ = zq d mX2_bestTip 39 [some (zR (some 0)), some (zI x1), none] [zI 0] σ := by
  exact zY_step (by exact rfl) (by exact dX2_bestTip_38) (by exact rfl) (pc' := 39) (S' := [zI 0]) (by exact rfl) (zcn (by exact rfl))
theorem b_X2_bestTip_21 (d : Nat) (y0 x1 : Int) (σ : zS) : zq (d + 1) mX2_bestTip 21 [some (zR (some 0)), some (zI x1), none] [zI y0] σ = (zc d mX0_worthAt [zR (some 1), zI (x1 + 1)] σ).bind fun r => zq (d + 1) mX2_bestTip 31 [some (zR (some 0)), some (zI x1), none] (r.1.toList ++ [zI y0]) r.2 := by
  refine Eq.trans (zY_step (by exact rfl) (by exact dX2_bestTip_21) (by exact rfl) (pc' := 22) (S' := [zR (some 0), zI y0]) (by exact rfl) (zcn (by exact rfl))) ?_
  refine Eq.trans (zY_getR (by exact rfl) (by exact dX2_bestTip_22) (by exact rfl) (by exact rfl) (t := 1) (by exact rfl) (zcn (by exact rfl))) ?_
  refine Eq.trans (zY_step (by exact rfl) (by exact dX2_bestTip_25) (by exact rfl) (pc' := 26) (S' := [zI x1, zR (some 1), zI y0]) (by exact rfl) (zcn (by exact rfl))) ?_
  refine Eq.trans (zY_step (by exact rfl) (by exact dX2_bestTip_26) (by exact rfl) (pc' := 27) (S' := [zI 1, zI x1, zR (some 1), zI y0]) (by exact rfl) (zcn (by exact rfl))) ?_
  refine Eq.trans (zY_step (by exact rfl) (by exact dX2_bestTip_27) (by exact rfl) (pc' := 28) (S' := [zI (x1 + 1), zR (some 1), zI y0]) (by exact rfl) (zcn (by exact rfl))) ?_
  exact zY_V (by exact rfl) (by exact dX2_bestTip_28) (by exact rfl) (as := [zI (x1 + 1)]) (S' := [zI y0]) (by exact rfl) (by exact rfl) (by exact zCo_k zCo1) (by exact Nat.le_of_ble_eq_true rfl) (by exact Nat.le_of_ble_eq_true rfl) (by exact Nat.le_of_ble_eq_true rfl) (zcn (by exact rfl))
theorem b_X2_bestTip_39 (d : Nat) (y0 x1 : Int) (σ : zS) : zq (d + 1) mX2_bestTip 39 [some (zR (some 0)), some (zI x1), none] [zI y0] σ = (if nrm y0 = 0 then some (some (zI 0), σ) else (zc d mX0_canAt [zR (some 1), zI x1] σ).bind fun r => zq (d + 1) mX2_bestTip 52 [some (zR (some 0)), some (zI x1), some (zI y0)] (r.1.toList ++ []) r.2) := by
  refine Eq.trans (zY_step (by exact rfl) (by exact dX2_bestTip_39) (by exact rfl) (pc' := 40) (L' := [some (zR (some 0)), some (zI x1), some (zI y0)]) (S' := []) (by exact rfl) (zcn (by exact rfl))) ?_
  refine Eq.trans (zY_step (by exact rfl) (by exact dX2_bestTip_40) (by exact rfl) (pc' := 41) (S' := [zI y0]) (by exact rfl) (zcn (by exact rfl))) ?_
  refine Eq.trans (zY_if_eq (by exact rfl) (by exact dX2_bestTip_41) (t := 55) (by exact rfl) (a2 := nrm y0) (by exact rfl) (zcn (by exact rfl)) (zcn (by exact rfl))) (zif ?_ ?_)
  · refine Eq.trans (zY_step (by exact rfl) (by exact dX2_bestTip_55) (by exact rfl) (pc' := 56) (S' := [zI 0]) (L2 := [none, none, none]) (by exact rfl) (by exact rfl)) ?_
    exact zq_ret (by exact dX2_bestTip_56) (by exact rfl) (rv := some (zI 0)) (by exact rfl)
  · refine Eq.trans (zY_step (by exact rfl) (by exact dX2_bestTip_44) (by exact rfl) (pc' := 45) (S' := [zR (some 0)]) (by exact rfl) (zcn (by exact rfl))) ?_
    refine Eq.trans (zY_getR (by exact rfl) (by exact dX2_bestTip_45) (by exact rfl) (by exact rfl) (t := 1) (by exact rfl) (zcn (by exact rfl))) ?_
    refine Eq.trans (zY_step (by exact rfl) (by exact dX2_bestTip_48) (by exact rfl) (pc' := 49) (S' := [zI x1, zR (some 1)]) (by exact rfl) (zcn (by exact rfl))) ?_
    exact zY_V (by exact rfl) (by exact dX2_bestTip_49) (by exact rfl) (as := [zI x1]) (S' := []) (by exact rfl) (by exact rfl) (by exact zCo_k zCo1) (by exact Nat.le_of_ble_eq_true rfl) (by exact Nat.le_of_ble_eq_true rfl) (by exact Nat.le_of_ble_eq_true rfl) (zcn (by exact rfl))
theorem b_X2_bestTip_31 (d : Nat) (y0 y1 x1 : Int) (σ : zS) : zq d mX2_bestTip 31 [some (zR (some 0)), some (zI x1), none] [zI y0, zI y1] σ = (if nrm y1 ≤ nrm y0 then zq d mX2_bestTip 38 [some (zR (some 0)), some (zI x1), none] [] σ else zq d mX2_bestTip 39 [some (zR (some 0)), some (zI x1), none] [zI 1] σ) := by
  refine Eq.trans (zY_ic_le (by exact rfl) (by exact dX2_bestTip_31) (t := 38) (by exact rfl) (a2 := nrm y1) (b2 := nrm y0) (by exact rfl) (by exact rfl) (zcn (by exact rfl)) (zcn (by exact rfl))) (zif ?_ ?_)
  · exact rfl
  · refine Eq.trans (zY_step (by exact rfl) (by exact dX2_bestTip_34) (by exact rfl) (pc' := 35) (S' := [zI 1]) (by exact rfl) (zcn (by exact rfl))) ?_
    exact zY_step (by exact rfl) (by exact dX2_bestTip_35) (by exact rfl) (pc' := 39) (S' := [zI 1]) (by exact rfl) (zcn (by exact rfl))
theorem b_X2_bestTip_52 (d : Nat) (y0 x1 x2 : Int) (σ : zS) : zq d mX2_bestTip 52 [some (zR (some 0)), some (zI x1), some (zI x2)] [zI y0] σ = some (some (zI y0), σ) := by
  refine Eq.trans (zY_step (by exact rfl) (by exact dX2_bestTip_52) (by exact rfl) (pc' := 56) (S' := [zI y0]) (L2 := [none, none, none]) (by exact rfl) (by exact rfl)) ?_
  exact zq_ret (by exact dX2_bestTip_56) (by exact rfl) (rv := some (zI y0)) (by exact rfl)
theorem e_X2_joyByLaw (d : Nat) (x1 : Int) (σ : zS) : zc (d + 1) mX2_joyByLaw [zR (some 0), zI x1] σ = (zc d mX0_copyFrom [zR (some 6), zR (some 1)] σ).bind fun r => zq (d + 1) mX2_joyByLaw 11 [some (zR (some 0)), some (zI x1), none] (r.1.toList ++ []) r.2 := by
  refine Eq.trans (zc_zq (L := [some (zR (some 0)), some (zI x1), none]) (by exact rfl)) ?_
  refine Eq.trans (zY_step (by exact rfl) (by exact dX2_joyByLaw_0) (by exact rfl) (pc' := 1) (S' := [zR (some 0)]) (by exact rfl) (zcn (by exact rfl))) ?_
  refine Eq.trans (zY_getR (by exact rfl) (by exact dX2_joyByLaw_1) (by exact rfl) (by exact rfl) (t := 6) (by exact rfl) (zcn (by exact rfl))) ?_
  refine Eq.trans (zY_step (by exact rfl) (by exact dX2_joyByLaw_4) (by exact rfl) (pc' := 5) (S' := [zR (some 0), zR (some 6)]) (by exact rfl) (zcn (by exact rfl))) ?_
  refine Eq.trans (zY_getR (by exact rfl) (by exact dX2_joyByLaw_5) (by exact rfl) (by exact rfl) (t := 1) (by exact rfl) (zcn (by exact rfl))) ?_
  exact zY_V (by exact rfl) (by exact dX2_joyByLaw_8) (by exact rfl) (as := [zR (some 1)]) (S' := []) (by exact rfl) (by exact rfl) (by exact zCo_k zCo6) (by exact Nat.le_of_ble_eq_true rfl) (by exact Nat.le_of_ble_eq_true rfl) (by exact Nat.le_of_ble_eq_true rfl) (zcn (by exact rfl))
theorem b_X2_joyByLaw_11 (d : Nat) (x1 : Int) (σ : zS) : zq (d + 1) mX2_joyByLaw 11 [some (zR (some 0)), some (zI x1), none] [] σ = (if ¬ nrm x1 = 0 then zq (d + 1) mX2_joyByLaw 30 [some (zR (some 0)), some (zI x1), some (zI 0)] [] σ else (zc d mX0_goOn [zR (some 6), zI 60] σ).bind fun r => zq (d + 1) mX2_joyByLaw 24 [some (zR (some 0)), some (zI x1), none] (r.1.toList ++ []) r.2) := by
  refine Eq.trans (zY_step (by exact rfl) (by exact dX2_joyByLaw_11) (by exact rfl) (pc' := 12) (S' := [zI x1]) (by exact rfl) (zcn (by exact rfl))) ?_
  refine Eq.trans (zY_if_ne (by exact rfl) (by exact dX2_joyByLaw_12) (t := 28) (by exact rfl) (a2 := nrm x1) (by exact rfl) (zcn (by exact rfl)) (zcn (by exact rfl))) (zif ?_ ?_)
  · refine Eq.trans (zY_step (by exact rfl) (by exact dX2_joyByLaw_28) (by exact rfl) (pc' := 29) (S' := [zI 0]) (by exact rfl) (zcn (by exact rfl))) ?_
    exact zY_step (by exact rfl) (by exact dX2_joyByLaw_29) (by exact rfl) (pc' := 30) (L' := [some (zR (some 0)), some (zI x1), some (zI 0)]) (S' := []) (by exact rfl) (zcn (by exact rfl))
  · refine Eq.trans (zY_step (by exact rfl) (by exact dX2_joyByLaw_15) (by exact rfl) (pc' := 16) (S' := [zR (some 0)]) (by exact rfl) (zcn (by exact rfl))) ?_
    refine Eq.trans (zY_getR (by exact rfl) (by exact dX2_joyByLaw_16) (by exact rfl) (by exact rfl) (t := 6) (by exact rfl) (zcn (by exact rfl))) ?_
    refine Eq.trans (zY_step (by exact rfl) (by exact dX2_joyByLaw_19) (by exact rfl) (pc' := 21) (S' := [zI 60, zR (some 6)]) (by exact rfl) (zcn (by exact rfl))) ?_
    exact zY_V (by exact rfl) (by exact dX2_joyByLaw_21) (by exact rfl) (as := [zI 60]) (S' := []) (by exact rfl) (by exact rfl) (by exact zCo_k zCo6) (by exact Nat.le_of_ble_eq_true rfl) (by exact Nat.le_of_ble_eq_true rfl) (by exact Nat.le_of_ble_eq_true rfl) (zcn (by exact rfl))
theorem b_X2_joyByLaw_30 (d : Nat) (x1 x2 : Int) (σ : zS) : zq (d + 1) mX2_joyByLaw 30 [some (zR (some 0)), some (zI x1), some (zI x2)] [] σ = (if nrm (σ 6 0) ≤ nrm x2 then zq (d + 1) mX2_joyByLaw 73 [some (zR (some 0)), none, none] [] σ else (if ¬ nrm x1 = 1 then (zc d mX0_canAt [zR (some 6), zI x2] σ).bind fun r => zq (d + 1) mX2_joyByLaw 66 [some (zR (some 0)), some (zI x1), some (zI x2)] (r.1.toList ++ [zI x2, zR (some 9)]) r.2 else zq (d + 1) mX2_joyByLaw 66 [some (zR (some 0)), some (zI x1), some (zI x2)] [zI 0, zI x2, zR (some 9)] σ)) := by
  refine Eq.trans (zY_step (by exact rfl) (by exact dX2_joyByLaw_30) (by exact rfl) (pc' := 31) (S' := [zI x2]) (by exact rfl) (zcn (by exact rfl))) ?_
  refine Eq.trans (zY_step (by exact rfl) (by exact dX2_joyByLaw_31) (by exact rfl) (pc' := 32) (S' := [zR (some 0), zI x2]) (by exact rfl) (zcn (by exact rfl))) ?_
  refine Eq.trans (zY_getR (by exact rfl) (by exact dX2_joyByLaw_32) (by exact rfl) (by exact rfl) (t := 6) (by exact rfl) (zcn (by exact rfl))) ?_
  refine Eq.trans (zY_getI (by exact rfl) (by exact dX2_joyByLaw_35) (by exact rfl) (by exact zCo_k zCo6) (by exact zCo_r0 zCo6) (zcn (by exact rfl))) ?_
  refine Eq.trans (zY_ic_ge (by exact rfl) (by exact dX2_joyByLaw_38) (t := 73) (by exact rfl) (a2 := nrm x2) (b2 := nrm (σ 6 0)) (by exact rfl) (by exact rfl) (L1 := [some (zR (some 0)), none, none]) (by exact rfl) (zcn (by exact rfl))) (zif ?_ ?_)
  · exact rfl
  · refine Eq.trans (zY_step (by exact rfl) (by exact dX2_joyByLaw_41) (by exact rfl) (pc' := 42) (S' := [zR (some 0)]) (by exact rfl) (zcn (by exact rfl))) ?_
    refine Eq.trans (zY_getR (by exact rfl) (by exact dX2_joyByLaw_42) (by exact rfl) (by exact rfl) (t := 6) (by exact rfl) (zcn (by exact rfl))) ?_
    refine Eq.trans (zY_getR (by exact rfl) (by exact dX2_joyByLaw_45) (by exact rfl) (by exact rfl) (t := 9) (by exact rfl) (zcn (by exact rfl))) ?_
    refine Eq.trans (zY_step (by exact rfl) (by exact dX2_joyByLaw_48) (by exact rfl) (pc' := 49) (S' := [zI x2, zR (some 9)]) (by exact rfl) (zcn (by exact rfl))) ?_
    refine Eq.trans (zY_step (by exact rfl) (by exact dX2_joyByLaw_49) (by exact rfl) (pc' := 50) (S' := [zI x1, zI x2, zR (some 9)]) (by exact rfl) (zcn (by exact rfl))) ?_
    refine Eq.trans (zY_step (by exact rfl) (by exact dX2_joyByLaw_50) (by exact rfl) (pc' := 51) (S' := [zI 1, zI x1, zI x2, zR (some 9)]) (by exact rfl) (zcn (by exact rfl))) ?_
    refine Eq.trans (zY_ic_ne (by exact rfl) (by exact dX2_joyByLaw_51) (t := 58) (by exact rfl) (a2 := nrm x1) (b2 := 1) (by exact rfl) (by decide) (zcn (by exact rfl)) (zcn (by exact rfl))) (zif ?_ ?_)
    · refine Eq.trans (zY_step (by exact rfl) (by exact dX2_joyByLaw_58) (by exact rfl) (pc' := 59) (S' := [zR (some 0), zI x2, zR (some 9)]) (by exact rfl) (zcn (by exact rfl))) ?_
      refine Eq.trans (zY_getR (by exact rfl) (by exact dX2_joyByLaw_59) (by exact rfl) (by exact rfl) (t := 6) (by exact rfl) (zcn (by exact rfl))) ?_
      refine Eq.trans (zY_step (by exact rfl) (by exact dX2_joyByLaw_62) (by exact rfl) (pc' := 63) (S' := [zI x2, zR (some 6), zI x2, zR (some 9)]) (by exact rfl) (zcn (by exact rfl))) ?_
      exact zY_V (by exact rfl) (by exact dX2_joyByLaw_63) (by exact rfl) (as := [zI x2]) (S' := [zI x2, zR (some 9)]) (by exact rfl) (by exact rfl) (by exact zCo_k zCo6) (by exact Nat.le_of_ble_eq_true rfl) (by exact Nat.le_of_ble_eq_true rfl) (by exact Nat.le_of_ble_eq_true rfl) (zcn (by exact rfl))
    · refine Eq.trans (zY_step (by exact rfl) (by exact dX2_joyByLaw_54) (by exact rfl) (pc' := 55) (S' := [zI 0, zI x2, zR (some 9)]) (by exact rfl) (zcn (by exact rfl))) ?_
      exact zY_step (by exact rfl) (by exact dX2_joyByLaw_55) (by exact rfl) (pc' := 66) (S' := [zI 0, zI x2, zR (some 9)]) (by exact rfl) (zcn (by exact rfl))
theorem b_X2_joyByLaw_24 (d : Nat) (y0 x1 : Int) (σ : zS) : zq d mX2_joyByLaw 24 [some (zR (some 0)), some (zI x1), none] [zI y0] σ = zq d mX2_joyByLaw 73 [some (zR (some 0)), none, none] [] σ := by
  refine Eq.trans (zY_step (by exact rfl) (by exact dX2_joyByLaw_24) (by exact rfl) (pc' := 25) (S' := []) (by exact rfl) (zcn (by exact rfl))) ?_
  exact zY_step (by exact rfl) (by exact dX2_joyByLaw_25) (by exact rfl) (pc' := 73) (S' := []) (L2 := [some (zR (some 0)), none, none]) (by exact rfl) (by exact rfl)
theorem b_X2_joyByLaw_73 (d : Nat) (σ : zS) : zq (d + 1) mX2_joyByLaw 73 [some (zR (some 0)), none, none] [] σ = (zc d mX0_allJoy [zR (some 6)] σ).bind fun r => zq (d + 1) mX2_joyByLaw 80 [some (zR (some 0)), none, none] (r.1.toList ++ []) r.2 := by
  refine Eq.trans (zY_step (by exact rfl) (by exact dX2_joyByLaw_73) (by exact rfl) (pc' := 74) (S' := [zR (some 0)]) (by exact rfl) (zcn (by exact rfl))) ?_
  refine Eq.trans (zY_getR (by exact rfl) (by exact dX2_joyByLaw_74) (by exact rfl) (by exact rfl) (t := 6) (by exact rfl) (zcn (by exact rfl))) ?_
  exact zY_V (by exact rfl) (by exact dX2_joyByLaw_77) (by exact rfl) (as := []) (S' := []) (by exact rfl) (by exact rfl) (by exact zCo_k zCo6) (by exact Nat.le_of_ble_eq_true rfl) (by exact Nat.le_of_ble_eq_true rfl) (by exact Nat.le_of_ble_eq_true rfl) (zcn (by exact rfl))
theorem b_X2_joyByLaw_66 (d : Nat) (y0 y1 x1 x2 : Int) (σ : zS) : zq d mX2_joyByLaw 66 [some (zR (some 0)), some (zI x1), some (zI x2)] [zI y0, zI y1, zR (some 9)] σ = (if zix y1 8 then zq d mX2_joyByLaw 30 [some (zR (some 0)), some (zI x1), some (zI (x2 + 1))] [] (zup σ 9 (nrm y1).toNat y0) else none) := by
  refine Eq.trans (zY_iast (by exact rfl) (by exact dX2_joyByLaw_66) (by exact rfl) (by exact rfl) (zcn (by exact rfl))) (zif ?_ rfl)
  · refine Eq.trans (zY_step (by exact rfl) (by exact dX2_joyByLaw_67) (by exact rfl) (pc' := 70) (L' := [some (zR (some 0)), some (zI x1), some (zI (x2 + 1))]) (S' := []) (by exact rfl) (zcn (by exact rfl))) ?_
    exact zY_step (by exact rfl) (by exact dX2_joyByLaw_70) (by exact rfl) (pc' := 30) (S' := []) (by exact rfl) (zcn (by exact rfl))
theorem b_X2_joyByLaw_80 (d : Nat) (y0 : Int) (σ : zS) : zq d mX2_joyByLaw 80 [some (zR (some 0)), none, none] [zI y0] σ = some (some (zI y0), σ) := by
  exact zq_ret (by exact dX2_joyByLaw_80) (by exact rfl) (rv := some (zI y0)) (by exact rfl)
theorem e_X2_lawWithMostJoy (d : Nat) (σ : zS) : zc (d + 1) mX2_lawWithMostJoy [zR (some 0)] σ = (zc d mX2_joyByLaw [zR (some 0), zI 0] σ).bind fun r => zq (d + 1) mX2_lawWithMostJoy 7 [some (zR (some 0)), some (zI 0), none, none, none] (r.1.toList ++ []) r.2 := by
  refine Eq.trans (zc_zq (L := [some (zR (some 0)), none, none, none, none]) (by exact rfl)) ?_
  refine Eq.trans (zY_step (by exact rfl) (by exact dX2_lawWithMostJoy_0) (by exact rfl) (pc' := 1) (S' := [zI 0]) (by exact rfl) (zcn (by exact rfl))) ?_
  refine Eq.trans (zY_step (by exact rfl) (by exact dX2_lawWithMostJoy_1) (by exact rfl) (pc' := 2) (L' := [some (zR (some 0)), some (zI 0), none, none, none]) (S' := []) (by exact rfl) (zcn (by exact rfl))) ?_
  refine Eq.trans (zY_step (by exact rfl) (by exact dX2_lawWithMostJoy_2) (by exact rfl) (pc' := 3) (S' := [zR (some 0)]) (by exact rfl) (zcn (by exact rfl))) ?_
  refine Eq.trans (zY_step (by exact rfl) (by exact dX2_lawWithMostJoy_3) (by exact rfl) (pc' := 4) (S' := [zI 0, zR (some 0)]) (by exact rfl) (zcn (by exact rfl))) ?_
  exact zY_V (by exact rfl) (by exact dX2_lawWithMostJoy_4) (by exact rfl) (as := [zI 0]) (S' := []) (by exact rfl) (by exact rfl) (by exact rfl) (by exact Nat.le_of_ble_eq_true rfl) (by exact Nat.le_of_ble_eq_true rfl) (by exact Nat.le_of_ble_eq_true rfl) (zcn (by exact rfl))
theorem b_X2_lawWithMostJoy_7 (d : Nat) (y0 x1 : Int) (σ : zS) : zq d mX2_lawWithMostJoy 7 [some (zR (some 0)), some (zI x1), none, none, none] [zI y0] σ = zq d mX2_lawWithMostJoy 10 [some (zR (some 0)), some (zI x1), some (zI y0), some (zI 1), none] [] σ := by
  refine Eq.trans (zY_step (by exact rfl) (by exact dX2_lawWithMostJoy_7) (by exact rfl) (pc' := 8) (L' := [some (zR (some 0)), some (zI x1), some (zI y0), none, none]) (S' := []) (by exact rfl) (zcn (by exact rfl))) ?_
  refine Eq.trans (zY_step (by exact rfl) (by exact dX2_lawWithMostJoy_8) (by exact rfl) (pc' := 9) (S' := [zI 1]) (by exact rfl) (zcn (by exact rfl))) ?_
  exact zY_step (by exact rfl) (by exact dX2_lawWithMostJoy_9) (by exact rfl) (pc' := 10) (L' := [some (zR (some 0)), some (zI x1), some (zI y0), some (zI 1), none]) (S' := []) (by exact rfl) (zcn (by exact rfl))
theorem b_X2_lawWithMostJoy_10 (d : Nat) (x1 x2 x3 : Int) (σ : zS) : zq (d + 1) mX2_lawWithMostJoy 10 [some (zR (some 0)), some (zI x1), some (zI x2), some (zI x3), none] [] σ = (if 3 ≤ nrm x3 then some (some (zI x1), σ) else (zc d mX2_joyByLaw [zR (some 0), zI x3] σ).bind fun r => zq (d + 1) mX2_lawWithMostJoy 20 [some (zR (some 0)), some (zI x1), some (zI x2), some (zI x3), none] (r.1.toList ++ []) r.2) := by
  refine Eq.trans (zY_step (by exact rfl) (by exact dX2_lawWithMostJoy_10) (by exact rfl) (pc' := 11) (S' := [zI x3]) (by exact rfl) (zcn (by exact rfl))) ?_
  refine Eq.trans (zY_step (by exact rfl) (by exact dX2_lawWithMostJoy_11) (by exact rfl) (pc' := 12) (S' := [zI 3, zI x3]) (by exact rfl) (zcn (by exact rfl))) ?_
  refine Eq.trans (zY_ic_ge (by exact rfl) (by exact dX2_lawWithMostJoy_12) (t := 39) (by exact rfl) (a2 := nrm x3) (b2 := 3) (by exact rfl) (by decide) (zcn (by exact rfl)) (zcn (by exact rfl))) (zif ?_ ?_)
  · refine Eq.trans (zY_step (by exact rfl) (by exact dX2_lawWithMostJoy_39) (by exact rfl) (pc' := 40) (S' := [zI x1]) (by exact rfl) (zcn (by exact rfl))) ?_
    exact zq_ret (by exact dX2_lawWithMostJoy_40) (by exact rfl) (rv := some (zI x1)) (by exact rfl)
  · refine Eq.trans (zY_step (by exact rfl) (by exact dX2_lawWithMostJoy_15) (by exact rfl) (pc' := 16) (S' := [zR (some 0)]) (by exact rfl) (zcn (by exact rfl))) ?_
    refine Eq.trans (zY_step (by exact rfl) (by exact dX2_lawWithMostJoy_16) (by exact rfl) (pc' := 17) (S' := [zI x3, zR (some 0)]) (by exact rfl) (zcn (by exact rfl))) ?_
    exact zY_V (by exact rfl) (by exact dX2_lawWithMostJoy_17) (by exact rfl) (as := [zI x3]) (S' := []) (by exact rfl) (by exact rfl) (by exact rfl) (by exact Nat.le_of_ble_eq_true rfl) (by exact Nat.le_of_ble_eq_true rfl) (by exact Nat.le_of_ble_eq_true rfl) (zcn (by exact rfl))
theorem b_X2_lawWithMostJoy_20 (d : Nat) (y0 x1 x2 x3 : Int) (σ : zS) : zq d mX2_lawWithMostJoy 20 [some (zR (some 0)), some (zI x1), some (zI x2), some (zI x3), none] [zI y0] σ = (if nrm y0 ≤ nrm x2 then zq d mX2_lawWithMostJoy 33 [some (zR (some 0)), some (zI x1), some (zI x2), some (zI x3), none] [] σ else zq d mX2_lawWithMostJoy 33 [some (zR (some 0)), some (zI x3), some (zI y0), some (zI x3), none] [] σ) := by
  refine Eq.trans (zY_step (by exact rfl) (by exact dX2_lawWithMostJoy_20) (by exact rfl) (pc' := 22) (L' := [some (zR (some 0)), some (zI x1), some (zI x2), some (zI x3), some (zI y0)]) (S' := []) (by exact rfl) (zcn (by exact rfl))) ?_
  refine Eq.trans (zY_step (by exact rfl) (by exact dX2_lawWithMostJoy_22) (by exact rfl) (pc' := 24) (S' := [zI y0]) (by exact rfl) (zcn (by exact rfl))) ?_
  refine Eq.trans (zY_step (by exact rfl) (by exact dX2_lawWithMostJoy_24) (by exact rfl) (pc' := 25) (S' := [zI x2, zI y0]) (by exact rfl) (zcn (by exact rfl))) ?_
  refine Eq.trans (zY_ic_le (by exact rfl) (by exact dX2_lawWithMostJoy_25) (t := 33) (by exact rfl) (a2 := nrm y0) (b2 := nrm x2) (by exact rfl) (by exact rfl) (L1 := [some (zR (some 0)), some (zI x1), some (zI x2), some (zI x3), none]) (by exact rfl) (zcn (by exact rfl))) (zif ?_ ?_)
  · exact rfl
  · refine Eq.trans (zY_step (by exact rfl) (by exact dX2_lawWithMostJoy_28) (by exact rfl) (pc' := 30) (S' := [zI y0]) (by exact rfl) (zcn (by exact rfl))) ?_
    refine Eq.trans (zY_step (by exact rfl) (by exact dX2_lawWithMostJoy_30) (by exact rfl) (pc' := 31) (L' := [some (zR (some 0)), some (zI x1), some (zI y0), some (zI x3), some (zI y0)]) (S' := []) (by exact rfl) (zcn (by exact rfl))) ?_
    refine Eq.trans (zY_step (by exact rfl) (by exact dX2_lawWithMostJoy_31) (by exact rfl) (pc' := 32) (S' := [zI x3]) (by exact rfl) (zcn (by exact rfl))) ?_
    exact zY_step (by exact rfl) (by exact dX2_lawWithMostJoy_32) (by exact rfl) (pc' := 33) (L' := [some (zR (some 0)), some (zI x3), some (zI y0), some (zI x3), some (zI y0)]) (S' := []) (L2 := [some (zR (some 0)), some (zI x3), some (zI y0), some (zI x3), none]) (by exact rfl) (by exact rfl)
theorem b_X2_lawWithMostJoy_33 (d : Nat) (x1 x2 x3 : Int) (σ : zS) : zq d mX2_lawWithMostJoy 33 [some (zR (some 0)), some (zI x1), some (zI x2), some (zI x3), none] [] σ = zq d mX2_lawWithMostJoy 10 [some (zR (some 0)), some (zI x1), some (zI x2), some (zI (x3 + 1)), none] [] σ := by
  refine Eq.trans (zY_step (by exact rfl) (by exact dX2_lawWithMostJoy_33) (by exact rfl) (pc' := 36) (L' := [some (zR (some 0)), some (zI x1), some (zI x2), some (zI (x3 + 1)), none]) (S' := []) (by exact rfl) (zcn (by exact rfl))) ?_
  exact zY_step (by exact rfl) (by exact dX2_lawWithMostJoy_36) (by exact rfl) (pc' := 10) (S' := []) (by exact rfl) (zcn (by exact rfl))
theorem e_X2_wonBehind (d : Nat) (x1 : Int) (σ : zS) : zc (d + 1) mX2_wonBehind [zR (some 0), zI x1] σ = (if zix x1 8 then (zc d mX0_worthAt [zR (some 1), zI (x1 + 1)] σ).bind fun r => zq (d + 1) mX2_wonBehind 19 [some (zR (some 0)), some (zI x1)] (r.1.toList ++ [zI (σ 4 (nrm x1).toNat)]) r.2 else none) := by
  refine Eq.trans (zc_zq (L := [some (zR (some 0)), some (zI x1)]) (by exact rfl)) ?_
  refine Eq.trans (zY_step (by exact rfl) (by exact dX2_wonBehind_0) (by exact rfl) (pc' := 1) (S' := [zR (some 0)]) (by exact rfl) (zcn (by exact rfl))) ?_
  refine Eq.trans (zY_getR (by exact rfl) (by exact dX2_wonBehind_1) (by exact rfl) (by exact rfl) (t := 1) (by exact rfl) (zcn (by exact rfl))) ?_
  refine Eq.trans (zY_getR (by exact rfl) (by exact dX2_wonBehind_4) (by exact rfl) (by exact rfl) (t := 4) (by exact rfl) (zcn (by exact rfl))) ?_
  refine Eq.trans (zY_step (by exact rfl) (by exact dX2_wonBehind_7) (by exact rfl) (pc' := 8) (S' := [zI x1, zR (some 4)]) (by exact rfl) (zcn (by exact rfl))) ?_
  refine Eq.trans (zY_iald (by exact rfl) (by exact dX2_wonBehind_8) (by exact rfl) (by exact rfl) (zcn (by exact rfl))) (zif ?_ rfl)
  · refine Eq.trans (zY_step (by exact rfl) (by exact dX2_wonBehind_9) (by exact rfl) (pc' := 10) (S' := [zR (some 0), zI (σ 4 (nrm x1).toNat)]) (by exact rfl) (zcn (by exact rfl))) ?_
    refine Eq.trans (zY_getR (by exact rfl) (by exact dX2_wonBehind_10) (by exact rfl) (by exact rfl) (t := 1) (by exact rfl) (zcn (by exact rfl))) ?_
    refine Eq.trans (zY_step (by exact rfl) (by exact dX2_wonBehind_13) (by exact rfl) (pc' := 14) (S' := [zI x1, zR (some 1), zI (σ 4 (nrm x1).toNat)]) (by exact rfl) (zcn (by exact rfl))) ?_
    refine Eq.trans (zY_step (by exact rfl) (by exact dX2_wonBehind_14) (by exact rfl) (pc' := 15) (S' := [zI 1, zI x1, zR (some 1), zI (σ 4 (nrm x1).toNat)]) (by exact rfl) (zcn (by exact rfl))) ?_
    refine Eq.trans (zY_step (by exact rfl) (by exact dX2_wonBehind_15) (by exact rfl) (pc' := 16) (S' := [zI (x1 + 1), zR (some 1), zI (σ 4 (nrm x1).toNat)]) (by exact rfl) (zcn (by exact rfl))) ?_
    exact zY_V (by exact rfl) (by exact dX2_wonBehind_16) (by exact rfl) (as := [zI (x1 + 1)]) (S' := [zI (σ 4 (nrm x1).toNat)]) (by exact rfl) (by exact rfl) (by exact zCo_k zCo1) (by exact Nat.le_of_ble_eq_true rfl) (by exact Nat.le_of_ble_eq_true rfl) (by exact Nat.le_of_ble_eq_true rfl) (zcn (by exact rfl))
theorem b_X2_wonBehind_19 (d : Nat) (y0 y1 x1 : Int) (σ : zS) : zq d mX2_wonBehind 19 [some (zR (some 0)), some (zI x1)] [zI y0, zI y1] σ = some (some (zI (y1 * y0)), σ) := by
  refine Eq.trans (zY_step (by exact rfl) (by exact dX2_wonBehind_19) (by exact rfl) (pc' := 20) (S' := [zI (y1 * y0)]) (by exact rfl) (zcn (by exact rfl))) ?_
  exact zq_ret (by exact dX2_wonBehind_20) (by exact rfl) (rv := some (zI (y1 * y0))) (by exact rfl)
theorem e_X2_lostAhead (d : Nat) (x1 : Int) (σ : zS) : zc (d + 1) mX2_lostAhead [zR (some 0), zI x1] σ = (if zix x1 8 then (zc d mX0_worthAt [zR (some 1), zI x1] σ).bind fun r => zq (d + 1) mX2_lostAhead 17 [some (zR (some 0)), some (zI x1)] (r.1.toList ++ [zI (σ 4 (nrm x1).toNat)]) r.2 else none) := by
  refine Eq.trans (zc_zq (L := [some (zR (some 0)), some (zI x1)]) (by exact rfl)) ?_
  refine Eq.trans (zY_step (by exact rfl) (by exact dX2_lostAhead_0) (by exact rfl) (pc' := 1) (S' := [zR (some 0)]) (by exact rfl) (zcn (by exact rfl))) ?_
  refine Eq.trans (zY_getR (by exact rfl) (by exact dX2_lostAhead_1) (by exact rfl) (by exact rfl) (t := 1) (by exact rfl) (zcn (by exact rfl))) ?_
  refine Eq.trans (zY_getR (by exact rfl) (by exact dX2_lostAhead_4) (by exact rfl) (by exact rfl) (t := 4) (by exact rfl) (zcn (by exact rfl))) ?_
  refine Eq.trans (zY_step (by exact rfl) (by exact dX2_lostAhead_7) (by exact rfl) (pc' := 8) (S' := [zI x1, zR (some 4)]) (by exact rfl) (zcn (by exact rfl))) ?_
  refine Eq.trans (zY_iald (by exact rfl) (by exact dX2_lostAhead_8) (by exact rfl) (by exact rfl) (zcn (by exact rfl))) (zif ?_ rfl)
  · refine Eq.trans (zY_step (by exact rfl) (by exact dX2_lostAhead_9) (by exact rfl) (pc' := 10) (S' := [zR (some 0), zI (σ 4 (nrm x1).toNat)]) (by exact rfl) (zcn (by exact rfl))) ?_
    refine Eq.trans (zY_getR (by exact rfl) (by exact dX2_lostAhead_10) (by exact rfl) (by exact rfl) (t := 1) (by exact rfl) (zcn (by exact rfl))) ?_
    refine Eq.trans (zY_step (by exact rfl) (by exact dX2_lostAhead_13) (by exact rfl) (pc' := 14) (S' := [zI x1, zR (some 1), zI (σ 4 (nrm x1).toNat)]) (by exact rfl) (zcn (by exact rfl))) ?_
    exact zY_V (by exact rfl) (by exact dX2_lostAhead_14) (by exact rfl) (as := [zI x1]) (S' := [zI (σ 4 (nrm x1).toNat)]) (by exact rfl) (by exact rfl) (by exact zCo_k zCo1) (by exact Nat.le_of_ble_eq_true rfl) (by exact Nat.le_of_ble_eq_true rfl) (by exact Nat.le_of_ble_eq_true rfl) (zcn (by exact rfl))
theorem b_X2_lostAhead_17 (d : Nat) (y0 y1 x1 : Int) (σ : zS) : zq d mX2_lostAhead 17 [some (zR (some 0)), some (zI x1)] [zI y0, zI y1] σ = some (some (zI (y1 * y0)), σ) := by
  refine Eq.trans (zY_step (by exact rfl) (by exact dX2_lostAhead_17) (by exact rfl) (pc' := 18) (S' := [zI (y1 * y0)]) (by exact rfl) (zcn (by exact rfl))) ?_
  exact zq_ret (by exact dX2_lostAhead_18) (by exact rfl) (rv := some (zI (y1 * y0))) (by exact rfl)
theorem e_X2_findBestSitting (d : Nat) (x1 : Int) (σ : zS) : zc d mX2_findBestSitting [zR (some 0), zI x1] σ = zq d mX2_findBestSitting 2 [some (zR (some 0)), some (zI x1), some (zI 0), none, none, none] [] σ := by
  refine Eq.trans (zc_zq (L := [some (zR (some 0)), some (zI x1), none, none, none, none]) (by exact rfl)) ?_
  refine Eq.trans (zY_step (by exact rfl) (by exact dX2_findBestSitting_0) (by exact rfl) (pc' := 1) (S' := [zI 0]) (by exact rfl) (zcn (by exact rfl))) ?_
  exact zY_step (by exact rfl) (by exact dX2_findBestSitting_1) (by exact rfl) (pc' := 2) (L' := [some (zR (some 0)), some (zI x1), some (zI 0), none, none, none]) (S' := []) (by exact rfl) (zcn (by exact rfl))
theorem b_X2_findBestSitting_2 (d : Nat) (x1 x2 : Int) (σ : zS) : zq d mX2_findBestSitting 2 [some (zR (some 0)), some (zI x1), some (zI x2), none, none, none] [] σ = (if ((6 : Nat) : Int) ≤ nrm x2 then zq d mX2_findBestSitting 31 [some (zR (some 0)), some (zI x1), some (zI 0), some (zI 1), some (zI 0), none] [] σ else (if zix x2 6 then zq d mX2_findBestSitting 2 [some (zR (some 0)), some (zI x1), some (zI (x2 + 1)), none, none, none] [] (zup σ 17 (nrm x2).toNat x2) else none)) := by
  refine Eq.trans (zY_step (by exact rfl) (by exact dX2_findBestSitting_2) (by exact rfl) (pc' := 3) (S' := [zI x2]) (by exact rfl) (zcn (by exact rfl))) ?_
  refine Eq.trans (zY_step (by exact rfl) (by exact dX2_findBestSitting_3) (by exact rfl) (pc' := 4) (S' := [zR (some 0), zI x2]) (by exact rfl) (zcn (by exact rfl))) ?_
  refine Eq.trans (zY_getR (by exact rfl) (by exact dX2_findBestSitting_4) (by exact rfl) (by exact rfl) (t := 17) (by exact rfl) (zcn (by exact rfl))) ?_
  refine Eq.trans (zY_alen (by exact rfl) (by exact dX2_findBestSitting_7) (by exact Or.inl rfl) (by exact rfl) (zcn (by exact rfl))) ?_
  refine Eq.trans (zY_ic_ge (by exact rfl) (by exact dX2_findBestSitting_8) (t := 24) (by exact rfl) (a2 := nrm x2) (b2 := ((6 : Nat) : Int)) (by exact rfl) (by decide) (zcn (by exact rfl)) (zcn (by exact rfl))) (zif ?_ ?_)
  · refine Eq.trans (zY_step (by exact rfl) (by exact dX2_findBestSitting_24) (by exact rfl) (pc' := 25) (S' := [zI 0]) (by exact rfl) (zcn (by exact rfl))) ?_
    refine Eq.trans (zY_step (by exact rfl) (by exact dX2_findBestSitting_25) (by exact rfl) (pc' := 26) (L' := [some (zR (some 0)), some (zI x1), some (zI 0), none, none, none]) (S' := []) (by exact rfl) (zcn (by exact rfl))) ?_
    refine Eq.trans (zY_step (by exact rfl) (by exact dX2_findBestSitting_26) (by exact rfl) (pc' := 27) (S' := [zI 1]) (by exact rfl) (zcn (by exact rfl))) ?_
    refine Eq.trans (zY_step (by exact rfl) (by exact dX2_findBestSitting_27) (by exact rfl) (pc' := 28) (L' := [some (zR (some 0)), some (zI x1), some (zI 0), some (zI 1), none, none]) (S' := []) (by exact rfl) (zcn (by exact rfl))) ?_
    refine Eq.trans (zY_step (by exact rfl) (by exact dX2_findBestSitting_28) (by exact rfl) (pc' := 29) (S' := [zI 0]) (by exact rfl) (zcn (by exact rfl))) ?_
    exact zY_step (by exact rfl) (by exact dX2_findBestSitting_29) (by exact rfl) (pc' := 31) (L' := [some (zR (some 0)), some (zI x1), some (zI 0), some (zI 1), some (zI 0), none]) (S' := []) (by exact rfl) (zcn (by exact rfl))
  · refine Eq.trans (zY_step (by exact rfl) (by exact dX2_findBestSitting_11) (by exact rfl) (pc' := 12) (S' := [zR (some 0)]) (by exact rfl) (zcn (by exact rfl))) ?_
    refine Eq.trans (zY_getR (by exact rfl) (by exact dX2_findBestSitting_12) (by exact rfl) (by exact rfl) (t := 17) (by exact rfl) (zcn (by exact rfl))) ?_
    refine Eq.trans (zY_step (by exact rfl) (by exact dX2_findBestSitting_15) (by exact rfl) (pc' := 16) (S' := [zI x2, zR (some 17)]) (by exact rfl) (zcn (by exact rfl))) ?_
    refine Eq.trans (zY_step (by exact rfl) (by exact dX2_findBestSitting_16) (by exact rfl) (pc' := 17) (S' := [zI x2, zI x2, zR (some 17)]) (by exact rfl) (zcn (by exact rfl))) ?_
    refine Eq.trans (zY_iast (by exact rfl) (by exact dX2_findBestSitting_17) (by exact rfl) (by exact rfl) (zcn (by exact rfl))) (zif ?_ rfl)
    · refine Eq.trans (zY_step (by exact rfl) (by exact dX2_findBestSitting_18) (by exact rfl) (pc' := 21) (L' := [some (zR (some 0)), some (zI x1), some (zI (x2 + 1)), none, none, none]) (S' := []) (by exact rfl) (zcn (by exact rfl))) ?_
      exact zY_step (by exact rfl) (by exact dX2_findBestSitting_21) (by exact rfl) (pc' := 2) (S' := []) (by exact rfl) (zcn (by exact rfl))
theorem b_X2_findBestSitting_31 (d : Nat) (x1 x2 x3 x4 : Int) (σ : zS) : zq (d + 1) mX2_findBestSitting 31 [some (zR (some 0)), some (zI x1), some (zI x2), some (zI x3), some (zI x4), none] [] σ = (if 720 ≤ nrm x4 then some (some (zI x2), σ) else (if nrm x3 = 0 then some (some (zI x2), σ) else (zc d mX2_joyBySitting [zR (some 0), zI x1] σ).bind fun r => zq (d + 1) mX2_findBestSitting 48 [some (zR (some 0)), some (zI x1), some (zI x2), some (zI x3), some (zI x4), none] (r.1.toList ++ []) r.2)) := by
  refine Eq.trans (zY_step (by exact rfl) (by exact dX2_findBestSitting_31) (by exact rfl) (pc' := 33) (S' := [zI x4]) (by exact rfl) (zcn (by exact rfl))) ?_
  refine Eq.trans (zY_step (by exact rfl) (by exact dX2_findBestSitting_33) (by exact rfl) (pc' := 36) (S' := [zI 720, zI x4]) (by exact rfl) (zcn (by exact rfl))) ?_
  refine Eq.trans (zY_ic_ge (by exact rfl) (by exact dX2_findBestSitting_36) (t := 100) (by exact rfl) (a2 := nrm x4) (b2 := 720) (by exact rfl) (by decide) (L1 := [none, none, some (zI x2), none, none, none]) (by exact rfl) (zcn (by exact rfl))) (zif ?_ ?_)
  · refine Eq.trans (zY_step (by exact rfl) (by exact dX2_findBestSitting_100) (by exact rfl) (pc' := 101) (S' := [zI x2]) (by exact rfl) (zcn (by exact rfl))) ?_
    exact zq_ret (by exact dX2_findBestSitting_101) (by exact rfl) (rv := some (zI x2)) (by exact rfl)
  · refine Eq.trans (zY_step (by exact rfl) (by exact dX2_findBestSitting_39) (by exact rfl) (pc' := 40) (S' := [zI x3]) (by exact rfl) (zcn (by exact rfl))) ?_
    refine Eq.trans (zY_if_eq (by exact rfl) (by exact dX2_findBestSitting_40) (t := 100) (by exact rfl) (a2 := nrm x3) (by exact rfl) (L1 := [none, none, some (zI x2), none, none, none]) (by exact rfl) (zcn (by exact rfl))) (zif ?_ ?_)
    · refine Eq.trans (zY_step (by exact rfl) (by exact dX2_findBestSitting_100) (by exact rfl) (pc' := 101) (S' := [zI x2]) (by exact rfl) (zcn (by exact rfl))) ?_
      exact zq_ret (by exact dX2_findBestSitting_101) (by exact rfl) (rv := some (zI x2)) (by exact rfl)
    · refine Eq.trans (zY_step (by exact rfl) (by exact dX2_findBestSitting_43) (by exact rfl) (pc' := 44) (S' := [zR (some 0)]) (by exact rfl) (zcn (by exact rfl))) ?_
      refine Eq.trans (zY_step (by exact rfl) (by exact dX2_findBestSitting_44) (by exact rfl) (pc' := 45) (S' := [zI x1, zR (some 0)]) (by exact rfl) (zcn (by exact rfl))) ?_
      exact zY_V (by exact rfl) (by exact dX2_findBestSitting_45) (by exact rfl) (as := [zI x1]) (S' := []) (by exact rfl) (by exact rfl) (by exact rfl) (by exact Nat.le_of_ble_eq_true rfl) (by exact Nat.le_of_ble_eq_true rfl) (by exact Nat.le_of_ble_eq_true rfl) (zcn (by exact rfl))
theorem b_X2_findBestSitting_48 (d : Nat) (y0 x1 x2 x3 x4 : Int) (σ : zS) : zq d mX2_findBestSitting 48 [some (zR (some 0)), some (zI x1), some (zI x2), some (zI x3), some (zI x4), none] [zI y0] σ = (if nrm x4 = 0 then zq d mX2_findBestSitting 61 [some (zR (some 0)), some (zI x1), none, none, some (zI x4), some (zI y0)] [] σ else (if nrm y0 ≤ nrm x2 then zq d mX2_findBestSitting 82 [some (zR (some 0)), some (zI x1), some (zI x2), none, some (zI x4), none] [] σ else zq d mX2_findBestSitting 61 [some (zR (some 0)), some (zI x1), none, none, some (zI x4), some (zI y0)] [] σ)) := by
  refine Eq.trans (zY_step (by exact rfl) (by exact dX2_findBestSitting_48) (by exact rfl) (pc' := 50) (L' := [some (zR (some 0)), some (zI x1), some (zI x2), some (zI x3), some (zI x4), some (zI y0)]) (S' := []) (by exact rfl) (zcn (by exact rfl))) ?_
  refine Eq.trans (zY_step (by exact rfl) (by exact dX2_findBestSitting_50) (by exact rfl) (pc' := 52) (S' := [zI x4]) (by exact rfl) (zcn (by exact rfl))) ?_
  refine Eq.trans (zY_if_eq (by exact rfl) (by exact dX2_findBestSitting_52) (t := 61) (by exact rfl) (a2 := nrm x4) (by exact rfl) (L1 := [some (zR (some 0)), some (zI x1), none, none, some (zI x4), some (zI y0)]) (by exact rfl) (zcn (by exact rfl))) (zif ?_ ?_)
  · exact rfl
  · refine Eq.trans (zY_step (by exact rfl) (by exact dX2_findBestSitting_55) (by exact rfl) (pc' := 57) (S' := [zI y0]) (by exact rfl) (zcn (by exact rfl))) ?_
    refine Eq.trans (zY_step (by exact rfl) (by exact dX2_findBestSitting_57) (by exact rfl) (pc' := 58) (S' := [zI x2, zI y0]) (by exact rfl) (zcn (by exact rfl))) ?_
    refine Eq.trans (zY_ic_le (by exact rfl) (by exact dX2_findBestSitting_58) (t := 82) (by exact rfl) (a2 := nrm y0) (b2 := nrm x2) (by exact rfl) (by exact rfl) (L1 := [some (zR (some 0)), some (zI x1), some (zI x2), none, some (zI x4), none]) (L2 := [some (zR (some 0)), some (zI x1), none, none, some (zI x4), some (zI y0)]) (by exact rfl) (by exact rfl)) (zif ?_ ?_)
    · exact rfl
    · exact rfl
theorem b_X2_findBestSitting_61 (d : Nat) (x1 x4 x5 : Int) (σ : zS) : zq (d + 1) mX2_findBestSitting 61 [some (zR (some 0)), some (zI x1), none, none, some (zI x4), some (zI x5)] [] σ = zq (d + 1) mX2_findBestSitting 82 [some (zR (some 0)), some (zI x1), some (zI x5), none, some (zI x4), none] [] (zcpy σ 17 0 18 0 6) := by
  refine Eq.trans (zY_step (by exact rfl) (by exact dX2_findBestSitting_61) (by exact rfl) (pc' := 63) (S' := [zI x5]) (by exact rfl) (zcn (by exact rfl))) ?_
  refine Eq.trans (zY_step (by exact rfl) (by exact dX2_findBestSitting_63) (by exact rfl) (pc' := 64) (L' := [some (zR (some 0)), some (zI x1), some (zI x5), none, some (zI x4), some (zI x5)]) (S' := []) (by exact rfl) (zcn (by exact rfl))) ?_
  refine Eq.trans (zY_step (by exact rfl) (by exact dX2_findBestSitting_64) (by exact rfl) (pc' := 65) (S' := [zR (some 0)]) (by exact rfl) (zcn (by exact rfl))) ?_
  refine Eq.trans (zY_getR (by exact rfl) (by exact dX2_findBestSitting_65) (by exact rfl) (by exact rfl) (t := 17) (by exact rfl) (zcn (by exact rfl))) ?_
  refine Eq.trans (zY_step (by exact rfl) (by exact dX2_findBestSitting_68) (by exact rfl) (pc' := 69) (S' := [zI 0, zR (some 17)]) (by exact rfl) (zcn (by exact rfl))) ?_
  refine Eq.trans (zY_step (by exact rfl) (by exact dX2_findBestSitting_69) (by exact rfl) (pc' := 70) (S' := [zR (some 0), zI 0, zR (some 17)]) (by exact rfl) (zcn (by exact rfl))) ?_
  refine Eq.trans (zY_getR (by exact rfl) (by exact dX2_findBestSitting_70) (by exact rfl) (by exact rfl) (t := 18) (by exact rfl) (zcn (by exact rfl))) ?_
  refine Eq.trans (zY_step (by exact rfl) (by exact dX2_findBestSitting_73) (by exact rfl) (pc' := 74) (S' := [zI 0, zR (some 18), zI 0, zR (some 17)]) (by exact rfl) (zcn (by exact rfl))) ?_
  refine Eq.trans (zY_step (by exact rfl) (by exact dX2_findBestSitting_74) (by exact rfl) (pc' := 75) (S' := [zR (some 0), zI 0, zR (some 18), zI 0, zR (some 17)]) (by exact rfl) (zcn (by exact rfl))) ?_
  refine Eq.trans (zY_getR (by exact rfl) (by exact dX2_findBestSitting_75) (by exact rfl) (by exact rfl) (t := 17) (by exact rfl) (zcn (by exact rfl))) ?_
  refine Eq.trans (zY_alen (by exact rfl) (by exact dX2_findBestSitting_78) (by exact Or.inl rfl) (by exact rfl) (zcn (by exact rfl))) ?_
  exact zY_cpyc (by exact rfl) (by exact dX2_findBestSitting_79) (n := 6) (dp := 0) (sp := 0) (by exact rfl) (by exact rfl) (by exact rfl) (by exact rfl) (by exact rfl) (by exact Nat.le_of_ble_eq_true rfl) (by exact Nat.le_of_ble_eq_true rfl) (by exact Nat.le_of_ble_eq_true rfl) (by exact Nat.le_of_ble_eq_true rfl) (by exact Nat.le_of_ble_eq_true rfl) (L2 := [some (zR (some 0)), some (zI x1), some (zI x5), none, some (zI x4), none]) (by exact rfl)
theorem b_X2_findBestSitting_82 (d : Nat) (x1 x2 x4 : Int) (σ : zS) : zq (d + 1) mX2_findBestSitting 82 [some (zR (some 0)), some (zI x1), some (zI x2), none, some (zI x4), none] [] σ = (zc d mX2_nextSitting [zR (some 0), zI (σ 1 0)] σ).bind fun r => zq (d + 1) mX2_findBestSitting 93 [some (zR (some 0)), some (zI x1), some (zI x2), none, some (zI x4), none] (r.1.toList ++ []) r.2 := by
  refine Eq.trans (zY_step (by exact rfl) (by exact dX2_findBestSitting_82) (by exact rfl) (pc' := 83) (S' := [zR (some 0)]) (by exact rfl) (zcn (by exact rfl))) ?_
  refine Eq.trans (zY_step (by exact rfl) (by exact dX2_findBestSitting_83) (by exact rfl) (pc' := 84) (S' := [zR (some 0), zR (some 0)]) (by exact rfl) (zcn (by exact rfl))) ?_
  refine Eq.trans (zY_getR (by exact rfl) (by exact dX2_findBestSitting_84) (by exact rfl) (by exact rfl) (t := 1) (by exact rfl) (zcn (by exact rfl))) ?_
  refine Eq.trans (zY_getI (by exact rfl) (by exact dX2_findBestSitting_87) (by exact rfl) (by exact zCo_k zCo1) (by exact zCo_r0 zCo1) (zcn (by exact rfl))) ?_
  exact zY_V (by exact rfl) (by exact dX2_findBestSitting_90) (by exact rfl) (as := [zI (σ 1 0)]) (S' := []) (by exact rfl) (by exact rfl) (by exact rfl) (by exact Nat.le_of_ble_eq_true rfl) (by exact Nat.le_of_ble_eq_true rfl) (by exact Nat.le_of_ble_eq_true rfl) (zcn (by exact rfl))
theorem b_X2_findBestSitting_93 (d : Nat) (y0 x1 x2 x4 : Int) (σ : zS) : zq d mX2_findBestSitting 93 [some (zR (some 0)), some (zI x1), some (zI x2), none, some (zI x4), none] [zI y0] σ = zq d mX2_findBestSitting 31 [some (zR (some 0)), some (zI x1), some (zI x2), some (zI y0), some (zI (x4 + 1)), none] [] σ := by
  refine Eq.trans (zY_step (by exact rfl) (by exact dX2_findBestSitting_93) (by exact rfl) (pc' := 94) (L' := [some (zR (some 0)), some (zI x1), some (zI x2), some (zI y0), some (zI x4), none]) (S' := []) (by exact rfl) (zcn (by exact rfl))) ?_
  refine Eq.trans (zY_step (by exact rfl) (by exact dX2_findBestSitting_94) (by exact rfl) (pc' := 97) (L' := [some (zR (some 0)), some (zI x1), some (zI x2), some (zI y0), some (zI (x4 + 1)), none]) (S' := []) (by exact rfl) (zcn (by exact rfl))) ?_
  exact zY_step (by exact rfl) (by exact dX2_findBestSitting_97) (by exact rfl) (pc' := 31) (S' := []) (by exact rfl) (zcn (by exact rfl))
theorem e_X2_joyBySitting (d : Nat) (x1 : Int) (σ : zS) : zc (d + 1) mX2_joyBySitting [zR (some 0), zI x1] σ = (zc d mX0_copyFrom [zR (some 6), zR (some 1)] σ).bind fun r => zq (d + 1) mX2_joyBySitting 11 [some (zR (some 0)), some (zI x1), none] (r.1.toList ++ []) r.2 := by
  refine Eq.trans (zc_zq (L := [some (zR (some 0)), some (zI x1), none]) (by exact rfl)) ?_
  refine Eq.trans (zY_step (by exact rfl) (by exact dX2_joyBySitting_0) (by exact rfl) (pc' := 1) (S' := [zR (some 0)]) (by exact rfl) (zcn (by exact rfl))) ?_
  refine Eq.trans (zY_getR (by exact rfl) (by exact dX2_joyBySitting_1) (by exact rfl) (by exact rfl) (t := 6) (by exact rfl) (zcn (by exact rfl))) ?_
  refine Eq.trans (zY_step (by exact rfl) (by exact dX2_joyBySitting_4) (by exact rfl) (pc' := 5) (S' := [zR (some 0), zR (some 6)]) (by exact rfl) (zcn (by exact rfl))) ?_
  refine Eq.trans (zY_getR (by exact rfl) (by exact dX2_joyBySitting_5) (by exact rfl) (by exact rfl) (t := 1) (by exact rfl) (zcn (by exact rfl))) ?_
  exact zY_V (by exact rfl) (by exact dX2_joyBySitting_8) (by exact rfl) (as := [zR (some 1)]) (S' := []) (by exact rfl) (by exact rfl) (by exact zCo_k zCo6) (by exact Nat.le_of_ble_eq_true rfl) (by exact Nat.le_of_ble_eq_true rfl) (by exact Nat.le_of_ble_eq_true rfl) (zcn (by exact rfl))
theorem b_X2_joyBySitting_11 (d : Nat) (x1 : Int) (σ : zS) : zq (d + 1) mX2_joyBySitting 11 [some (zR (some 0)), some (zI x1), none] [] σ = (zc d mX0_sitUp [zR (some 6)] σ).bind fun r => zq (d + 1) mX2_joyBySitting 18 [some (zR (some 0)), some (zI x1), none] (r.1.toList ++ []) r.2 := by
  refine Eq.trans (zY_step (by exact rfl) (by exact dX2_joyBySitting_11) (by exact rfl) (pc' := 12) (S' := [zR (some 0)]) (by exact rfl) (zcn (by exact rfl))) ?_
  refine Eq.trans (zY_getR (by exact rfl) (by exact dX2_joyBySitting_12) (by exact rfl) (by exact rfl) (t := 6) (by exact rfl) (zcn (by exact rfl))) ?_
  exact zY_V (by exact rfl) (by exact dX2_joyBySitting_15) (by exact rfl) (as := []) (S' := []) (by exact rfl) (by exact rfl) (by exact zCo_k zCo6) (by exact Nat.le_of_ble_eq_true rfl) (by exact Nat.le_of_ble_eq_true rfl) (by exact Nat.le_of_ble_eq_true rfl) (zcn (by exact rfl))
theorem b_X2_joyBySitting_18 (d : Nat) (x1 : Int) (σ : zS) : zq d mX2_joyBySitting 18 [some (zR (some 0)), some (zI x1), none] [] σ = zq d mX2_joyBySitting 20 [some (zR (some 0)), some (zI x1), some (zI 0)] [] σ := by
  refine Eq.trans (zY_step (by exact rfl) (by exact dX2_joyBySitting_18) (by exact rfl) (pc' := 19) (S' := [zI 0]) (by exact rfl) (zcn (by exact rfl))) ?_
  exact zY_step (by exact rfl) (by exact dX2_joyBySitting_19) (by exact rfl) (pc' := 20) (L' := [some (zR (some 0)), some (zI x1), some (zI 0)]) (S' := []) (by exact rfl) (zcn (by exact rfl))
theorem b_X2_joyBySitting_20 (d : Nat) (x1 x2 : Int) (σ : zS) : zq (d + 1) mX2_joyBySitting 20 [some (zR (some 0)), some (zI x1), some (zI x2)] [] σ = (if nrm (σ 6 0) ≤ nrm x2 then (zc d mX0_goOn [zR (some 6), zI x1] σ).bind fun r => zq (d + 1) mX2_joyBySitting 91 [some (zR (some 0)), some (zI x1), some (zI x2)] (r.1.toList ++ []) r.2 else (if zix x2 6 then (if zix (σ 17 (nrm x2).toNat) 8 then (if zix x2 8 then (if zix x2 6 then (if zix ((zup σ 7 (nrm x2).toNat (σ 2 (nrm (σ 17 (nrm x2).toNat)).toNat)) 17 (nrm x2).toNat) 8 then (if zix x2 8 then zq (d + 1) mX2_joyBySitting 20 [some (zR (some 0)), some (zI x1), some (zI (x2 + 1))] [] (zup (zup σ 7 (nrm x2).toNat (σ 2 (nrm (σ 17 (nrm x2).toNat)).toNat)) 8 (nrm x2).toNat ((zup σ 7 (nrm x2).toNat (σ 2 (nrm (σ 17 (nrm x2).toNat)).toNat)) 3 (nrm ((zup σ 7 (nrm x2).toNat (σ 2 (nrm (σ 17 (nrm x2).toNat)).toNat)) 17 (nrm x2).toNat)).toNat)) else none) else none) else none) else none) else none) else none)) := by
  refine Eq.trans (zY_step (by exact rfl) (by exact dX2_joyBySitting_20) (by exact rfl) (pc' := 21) (S' := [zI x2]) (by exact rfl) (zcn (by exact rfl))) ?_
  refine Eq.trans (zY_step (by exact rfl) (by exact dX2_joyBySitting_21) (by exact rfl) (pc' := 22) (S' := [zR (some 0), zI x2]) (by exact rfl) (zcn (by exact rfl))) ?_
  refine Eq.trans (zY_getR (by exact rfl) (by exact dX2_joyBySitting_22) (by exact rfl) (by exact rfl) (t := 6) (by exact rfl) (zcn (by exact rfl))) ?_
  refine Eq.trans (zY_getI (by exact rfl) (by exact dX2_joyBySitting_25) (by exact rfl) (by exact zCo_k zCo6) (by exact zCo_r0 zCo6) (zcn (by exact rfl))) ?_
  refine Eq.trans (zY_ic_ge (by exact rfl) (by exact dX2_joyBySitting_28) (t := 83) (by exact rfl) (a2 := nrm x2) (b2 := nrm (σ 6 0)) (by exact rfl) (by exact rfl) (zcn (by exact rfl)) (zcn (by exact rfl))) (zif ?_ ?_)
  · refine Eq.trans (zY_step (by exact rfl) (by exact dX2_joyBySitting_83) (by exact rfl) (pc' := 84) (S' := [zR (some 0)]) (by exact rfl) (zcn (by exact rfl))) ?_
    refine Eq.trans (zY_getR (by exact rfl) (by exact dX2_joyBySitting_84) (by exact rfl) (by exact rfl) (t := 6) (by exact rfl) (zcn (by exact rfl))) ?_
    refine Eq.trans (zY_step (by exact rfl) (by exact dX2_joyBySitting_87) (by exact rfl) (pc' := 88) (S' := [zI x1, zR (some 6)]) (by exact rfl) (zcn (by exact rfl))) ?_
    exact zY_V (by exact rfl) (by exact dX2_joyBySitting_88) (by exact rfl) (as := [zI x1]) (S' := []) (by exact rfl) (by exact rfl) (by exact zCo_k zCo6) (by exact Nat.le_of_ble_eq_true rfl) (by exact Nat.le_of_ble_eq_true rfl) (by exact Nat.le_of_ble_eq_true rfl) (zcn (by exact rfl))
  · refine Eq.trans (zY_step (by exact rfl) (by exact dX2_joyBySitting_31) (by exact rfl) (pc' := 32) (S' := [zR (some 0)]) (by exact rfl) (zcn (by exact rfl))) ?_
    refine Eq.trans (zY_getR (by exact rfl) (by exact dX2_joyBySitting_32) (by exact rfl) (by exact rfl) (t := 6) (by exact rfl) (zcn (by exact rfl))) ?_
    refine Eq.trans (zY_getR (by exact rfl) (by exact dX2_joyBySitting_35) (by exact rfl) (by exact rfl) (t := 7) (by exact rfl) (zcn (by exact rfl))) ?_
    refine Eq.trans (zY_step (by exact rfl) (by exact dX2_joyBySitting_38) (by exact rfl) (pc' := 39) (S' := [zI x2, zR (some 7)]) (by exact rfl) (zcn (by exact rfl))) ?_
    refine Eq.trans (zY_step (by exact rfl) (by exact dX2_joyBySitting_39) (by exact rfl) (pc' := 40) (S' := [zR (some 0), zI x2, zR (some 7)]) (by exact rfl) (zcn (by exact rfl))) ?_
    refine Eq.trans (zY_getR (by exact rfl) (by exact dX2_joyBySitting_40) (by exact rfl) (by exact rfl) (t := 1) (by exact rfl) (zcn (by exact rfl))) ?_
    refine Eq.trans (zY_getR (by exact rfl) (by exact dX2_joyBySitting_43) (by exact rfl) (by exact rfl) (t := 2) (by exact rfl) (zcn (by exact rfl))) ?_
    refine Eq.trans (zY_step (by exact rfl) (by exact dX2_joyBySitting_46) (by exact rfl) (pc' := 47) (S' := [zR (some 0), zR (some 2), zI x2, zR (some 7)]) (by exact rfl) (zcn (by exact rfl))) ?_
    refine Eq.trans (zY_getR (by exact rfl) (by exact dX2_joyBySitting_47) (by exact rfl) (by exact rfl) (t := 17) (by exact rfl) (zcn (by exact rfl))) ?_
    refine Eq.trans (zY_step (by exact rfl) (by exact dX2_joyBySitting_50) (by exact rfl) (pc' := 51) (S' := [zI x2, zR (some 17), zR (some 2), zI x2, zR (some 7)]) (by exact rfl) (zcn (by exact rfl))) ?_
    refine Eq.trans (zY_iald (by exact rfl) (by exact dX2_joyBySitting_51) (by exact rfl) (by exact rfl) (zcn (by exact rfl))) (zif ?_ rfl)
    · refine Eq.trans (zY_iald (by exact rfl) (by exact dX2_joyBySitting_52) (by exact rfl) (by exact rfl) (zcn (by exact rfl))) (zif ?_ rfl)
      · refine Eq.trans (zY_iast (by exact rfl) (by exact dX2_joyBySitting_53) (by exact rfl) (by exact rfl) (zcn (by exact rfl))) (zif ?_ rfl)
        · refine Eq.trans (zY_step (by exact rfl) (by exact dX2_joyBySitting_54) (by exact rfl) (pc' := 55) (S' := [zR (some 0)]) (by exact rfl) (zcn (by exact rfl))) ?_
          refine Eq.trans (zY_getR (by exact rfl) (by exact dX2_joyBySitting_55) (by exact rfl) (by exact rfl) (t := 6) (by exact rfl) (zcn (by exact rfl))) ?_
          refine Eq.trans (zY_getR (by exact rfl) (by exact dX2_joyBySitting_58) (by exact rfl) (by exact rfl) (t := 8) (by exact rfl) (zcn (by exact rfl))) ?_
          refine Eq.trans (zY_step (by exact rfl) (by exact dX2_joyBySitting_61) (by exact rfl) (pc' := 62) (S' := [zI x2, zR (some 8)]) (by exact rfl) (zcn (by exact rfl))) ?_
          refine Eq.trans (zY_step (by exact rfl) (by exact dX2_joyBySitting_62) (by exact rfl) (pc' := 63) (S' := [zR (some 0), zI x2, zR (some 8)]) (by exact rfl) (zcn (by exact rfl))) ?_
          refine Eq.trans (zY_getR (by exact rfl) (by exact dX2_joyBySitting_63) (by exact rfl) (by exact rfl) (t := 1) (by exact rfl) (zcn (by exact rfl))) ?_
          refine Eq.trans (zY_getR (by exact rfl) (by exact dX2_joyBySitting_66) (by exact rfl) (by exact rfl) (t := 3) (by exact rfl) (zcn (by exact rfl))) ?_
          refine Eq.trans (zY_step (by exact rfl) (by exact dX2_joyBySitting_69) (by exact rfl) (pc' := 70) (S' := [zR (some 0), zR (some 3), zI x2, zR (some 8)]) (by exact rfl) (zcn (by exact rfl))) ?_
          refine Eq.trans (zY_getR (by exact rfl) (by exact dX2_joyBySitting_70) (by exact rfl) (by exact rfl) (t := 17) (by exact rfl) (zcn (by exact rfl))) ?_
          refine Eq.trans (zY_step (by exact rfl) (by exact dX2_joyBySitting_73) (by exact rfl) (pc' := 74) (S' := [zI x2, zR (some 17), zR (some 3), zI x2, zR (some 8)]) (by exact rfl) (zcn (by exact rfl))) ?_
          refine Eq.trans (zY_iald (by exact rfl) (by exact dX2_joyBySitting_74) (by exact rfl) (by exact rfl) (zcn (by exact rfl))) (zif ?_ rfl)
          · refine Eq.trans (zY_iald (by exact rfl) (by exact dX2_joyBySitting_75) (by exact rfl) (by exact rfl) (zcn (by exact rfl))) (zif ?_ rfl)
            · refine Eq.trans (zY_iast (by exact rfl) (by exact dX2_joyBySitting_76) (by exact rfl) (by exact rfl) (zcn (by exact rfl))) (zif ?_ rfl)
              · refine Eq.trans (zY_step (by exact rfl) (by exact dX2_joyBySitting_77) (by exact rfl) (pc' := 80) (L' := [some (zR (some 0)), some (zI x1), some (zI (x2 + 1))]) (S' := []) (by exact rfl) (zcn (by exact rfl))) ?_
                exact zY_step (by exact rfl) (by exact dX2_joyBySitting_80) (by exact rfl) (pc' := 20) (S' := []) (by exact rfl) (zcn (by exact rfl))
theorem b_X2_joyBySitting_91 (d : Nat) (y0 x1 x2 : Int) (σ : zS) : zq (d + 1) mX2_joyBySitting 91 [some (zR (some 0)), some (zI x1), some (zI x2)] [zI y0] σ = (zc d mX0_allJoy [zR (some 6)] σ).bind fun r => zq (d + 1) mX2_joyBySitting 99 [some (zR (some 0)), some (zI x1), some (zI x2)] (r.1.toList ++ []) r.2 := by
  refine Eq.trans (zY_step (by exact rfl) (by exact dX2_joyBySitting_91) (by exact rfl) (pc' := 92) (S' := []) (by exact rfl) (zcn (by exact rfl))) ?_
  refine Eq.trans (zY_step (by exact rfl) (by exact dX2_joyBySitting_92) (by exact rfl) (pc' := 93) (S' := [zR (some 0)]) (by exact rfl) (zcn (by exact rfl))) ?_
  refine Eq.trans (zY_getR (by exact rfl) (by exact dX2_joyBySitting_93) (by exact rfl) (by exact rfl) (t := 6) (by exact rfl) (zcn (by exact rfl))) ?_
  exact zY_V (by exact rfl) (by exact dX2_joyBySitting_96) (by exact rfl) (as := []) (S' := []) (by exact rfl) (by exact rfl) (by exact zCo_k zCo6) (by exact Nat.le_of_ble_eq_true rfl) (by exact Nat.le_of_ble_eq_true rfl) (by exact Nat.le_of_ble_eq_true rfl) (zcn (by exact rfl))
theorem b_X2_joyBySitting_99 (d : Nat) (y0 x1 x2 : Int) (σ : zS) : zq d mX2_joyBySitting 99 [some (zR (some 0)), some (zI x1), some (zI x2)] [zI y0] σ = some (some (zI y0), σ) := by
  exact zq_ret (by exact dX2_joyBySitting_99) (by exact rfl) (rv := some (zI y0)) (by exact rfl)
theorem e_X2_nextSitting (d : Nat) (x1 : Int) (σ : zS) : zc d mX2_nextSitting [zR (some 0), zI x1] σ = zq d mX2_nextSitting 4 [some (zR (some 0)), some (zI x1), some (zI (x1 - 2)), none, none, none] [] σ := by
  refine Eq.trans (zc_zq (L := [some (zR (some 0)), some (zI x1), none, none, none, none]) (by exact rfl)) ?_
  refine Eq.trans (zY_step (by exact rfl) (by exact dX2_nextSitting_0) (by exact rfl) (pc' := 1) (S' := [zI x1]) (by exact rfl) (zcn (by exact rfl))) ?_
  refine Eq.trans (zY_step (by exact rfl) (by exact dX2_nextSitting_1) (by exact rfl) (pc' := 2) (S' := [zI 2, zI x1]) (by exact rfl) (zcn (by exact rfl))) ?_
  refine Eq.trans (zY_step (by exact rfl) (by exact dX2_nextSitting_2) (by exact rfl) (pc' := 3) (S' := [zI (x1 - 2)]) (by exact rfl) (zcn (by exact rfl))) ?_
  exact zY_step (by exact rfl) (by exact dX2_nextSitting_3) (by exact rfl) (pc' := 4) (L' := [some (zR (some 0)), some (zI x1), some (zI (x1 - 2)), none, none, none]) (S' := []) (by exact rfl) (zcn (by exact rfl))
theorem b_X2_nextSitting_4 (d : Nat) (x1 x2 : Int) (σ : zS) : zq d mX2_nextSitting 4 [some (zR (some 0)), some (zI x1), some (zI x2), none, none, none] [] σ = (if nrm x2 < 0 then zq d mX2_nextSitting 31 [some (zR (some 0)), some (zI x1), some (zI x2), none, none, none] [] σ else (if zix x2 6 then (if zix (x2 + 1) 6 then (if nrm (σ 17 (nrm x2).toNat) ≤ nrm (σ 17 (nrm (x2 + 1)).toNat) then zq d mX2_nextSitting 31 [some (zR (some 0)), some (zI x1), some (zI x2), none, none, none] [] σ else zq d mX2_nextSitting 4 [some (zR (some 0)), some (zI x1), some (zI (x2 + (-1))), none, none, none] [] σ) else none) else none)) := by
  refine Eq.trans (zY_step (by exact rfl) (by exact dX2_nextSitting_4) (by exact rfl) (pc' := 5) (S' := [zI x2]) (by exact rfl) (zcn (by exact rfl))) ?_
  refine Eq.trans (zY_if_lt (by exact rfl) (by exact dX2_nextSitting_5) (t := 31) (by exact rfl) (a2 := nrm x2) (by exact rfl) (zcn (by exact rfl)) (zcn (by exact rfl))) (zif ?_ ?_)
  · exact rfl
  · refine Eq.trans (zY_step (by exact rfl) (by exact dX2_nextSitting_8) (by exact rfl) (pc' := 9) (S' := [zR (some 0)]) (by exact rfl) (zcn (by exact rfl))) ?_
    refine Eq.trans (zY_getR (by exact rfl) (by exact dX2_nextSitting_9) (by exact rfl) (by exact rfl) (t := 17) (by exact rfl) (zcn (by exact rfl))) ?_
    refine Eq.trans (zY_step (by exact rfl) (by exact dX2_nextSitting_12) (by exact rfl) (pc' := 13) (S' := [zI x2, zR (some 17)]) (by exact rfl) (zcn (by exact rfl))) ?_
    refine Eq.trans (zY_iald (by exact rfl) (by exact dX2_nextSitting_13) (by exact rfl) (by exact rfl) (zcn (by exact rfl))) (zif ?_ rfl)
    · refine Eq.trans (zY_step (by exact rfl) (by exact dX2_nextSitting_14) (by exact rfl) (pc' := 15) (S' := [zR (some 0), zI (σ 17 (nrm x2).toNat)]) (by exact rfl) (zcn (by exact rfl))) ?_
      refine Eq.trans (zY_getR (by exact rfl) (by exact dX2_nextSitting_15) (by exact rfl) (by exact rfl) (t := 17) (by exact rfl) (zcn (by exact rfl))) ?_
      refine Eq.trans (zY_step (by exact rfl) (by exact dX2_nextSitting_18) (by exact rfl) (pc' := 19) (S' := [zI x2, zR (some 17), zI (σ 17 (nrm x2).toNat)]) (by exact rfl) (zcn (by exact rfl))) ?_
      refine Eq.trans (zY_step (by exact rfl) (by exact dX2_nextSitting_19) (by exact rfl) (pc' := 20) (S' := [zI 1, zI x2, zR (some 17), zI (σ 17 (nrm x2).toNat)]) (by exact rfl) (zcn (by exact rfl))) ?_
      refine Eq.trans (zY_step (by exact rfl) (by exact dX2_nextSitting_20) (by exact rfl) (pc' := 21) (S' := [zI (x2 + 1), zR (some 17), zI (σ 17 (nrm x2).toNat)]) (by exact rfl) (zcn (by exact rfl))) ?_
      refine Eq.trans (zY_iald (by exact rfl) (by exact dX2_nextSitting_21) (by exact rfl) (by exact rfl) (zcn (by exact rfl))) (zif ?_ rfl)
      · refine Eq.trans (zY_ic_le (by exact rfl) (by exact dX2_nextSitting_22) (t := 31) (by exact rfl) (a2 := nrm (σ 17 (nrm x2).toNat)) (b2 := nrm (σ 17 (nrm (x2 + 1)).toNat)) (by exact rfl) (by exact rfl) (zcn (by exact rfl)) (zcn (by exact rfl))) (zif ?_ ?_)
        · exact rfl
        · refine Eq.trans (zY_step (by exact rfl) (by exact dX2_nextSitting_25) (by exact rfl) (pc' := 28) (L' := [some (zR (some 0)), some (zI x1), some (zI (x2 + (-1))), none, none, none]) (S' := []) (by exact rfl) (zcn (by exact rfl))) ?_
          exact zY_step (by exact rfl) (by exact dX2_nextSitting_28) (by exact rfl) (pc' := 4) (S' := []) (by exact rfl) (zcn (by exact rfl))
theorem b_X2_nextSitting_31 (d : Nat) (x1 x2 : Int) (σ : zS) : zq d mX2_nextSitting 31 [some (zR (some 0)), some (zI x1), some (zI x2), none, none, none] [] σ = (if 0 ≤ nrm x2 then zq d mX2_nextSitting 41 [some (zR (some 0)), some (zI x1), some (zI x2), some (zI (x1 - 1)), none, none] [] σ else some (some (zI 0), σ)) := by
  refine Eq.trans (zY_step (by exact rfl) (by exact dX2_nextSitting_31) (by exact rfl) (pc' := 32) (S' := [zI x2]) (by exact rfl) (zcn (by exact rfl))) ?_
  refine Eq.trans (zY_if_ge (by exact rfl) (by exact dX2_nextSitting_32) (t := 37) (by exact rfl) (a2 := nrm x2) (by exact rfl) (zcn (by exact rfl)) (zcn (by exact rfl))) (zif ?_ ?_)
  · refine Eq.trans (zY_step (by exact rfl) (by exact dX2_nextSitting_37) (by exact rfl) (pc' := 38) (S' := [zI x1]) (by exact rfl) (zcn (by exact rfl))) ?_
    refine Eq.trans (zY_step (by exact rfl) (by exact dX2_nextSitting_38) (by exact rfl) (pc' := 39) (S' := [zI 1, zI x1]) (by exact rfl) (zcn (by exact rfl))) ?_
    refine Eq.trans (zY_step (by exact rfl) (by exact dX2_nextSitting_39) (by exact rfl) (pc' := 40) (S' := [zI (x1 - 1)]) (by exact rfl) (zcn (by exact rfl))) ?_
    exact zY_step (by exact rfl) (by exact dX2_nextSitting_40) (by exact rfl) (pc' := 41) (L' := [some (zR (some 0)), some (zI x1), some (zI x2), some (zI (x1 - 1)), none, none]) (S' := []) (by exact rfl) (zcn (by exact rfl))
  · refine Eq.trans (zY_step (by exact rfl) (by exact dX2_nextSitting_35) (by exact rfl) (pc' := 36) (S' := [zI 0]) (by exact rfl) (zcn (by exact rfl))) ?_
    exact zq_ret (by exact dX2_nextSitting_36) (by exact rfl) (rv := some (zI 0)) (by exact rfl)
theorem b_X2_nextSitting_41 (d : Nat) (x1 x2 x3 : Int) (σ : zS) : zq d mX2_nextSitting 41 [some (zR (some 0)), some (zI x1), some (zI x2), some (zI x3), none, none] [] σ = (if nrm x3 ≤ nrm x2 then zq d mX2_nextSitting 67 [some (zR (some 0)), some (zI x1), some (zI x2), some (zI x3), none, none] [] σ else (if zix x3 6 then (if zix x2 6 then (if nrm (σ 17 (nrm x2).toNat) ≤ nrm (σ 17 (nrm x3).toNat) then zq d mX2_nextSitting 67 [some (zR (some 0)), some (zI x1), some (zI x2), some (zI x3), none, none] [] σ else zq d mX2_nextSitting 41 [some (zR (some 0)), some (zI x1), some (zI x2), some (zI (x3 + (-1))), none, none] [] σ) else none) else none)) := by
  refine Eq.trans (zY_step (by exact rfl) (by exact dX2_nextSitting_41) (by exact rfl) (pc' := 42) (S' := [zI x3]) (by exact rfl) (zcn (by exact rfl))) ?_
  refine Eq.trans (zY_step (by exact rfl) (by exact dX2_nextSitting_42) (by exact rfl) (pc' := 43) (S' := [zI x2, zI x3]) (by exact rfl) (zcn (by exact rfl))) ?_
  refine Eq.trans (zY_ic_le (by exact rfl) (by exact dX2_nextSitting_43) (t := 67) (by exact rfl) (a2 := nrm x3) (b2 := nrm x2) (by exact rfl) (by exact rfl) (zcn (by exact rfl)) (zcn (by exact rfl))) (zif ?_ ?_)
  · exact rfl
  · refine Eq.trans (zY_step (by exact rfl) (by exact dX2_nextSitting_46) (by exact rfl) (pc' := 47) (S' := [zR (some 0)]) (by exact rfl) (zcn (by exact rfl))) ?_
    refine Eq.trans (zY_getR (by exact rfl) (by exact dX2_nextSitting_47) (by exact rfl) (by exact rfl) (t := 17) (by exact rfl) (zcn (by exact rfl))) ?_
    refine Eq.trans (zY_step (by exact rfl) (by exact dX2_nextSitting_50) (by exact rfl) (pc' := 51) (S' := [zI x3, zR (some 17)]) (by exact rfl) (zcn (by exact rfl))) ?_
    refine Eq.trans (zY_iald (by exact rfl) (by exact dX2_nextSitting_51) (by exact rfl) (by exact rfl) (zcn (by exact rfl))) (zif ?_ rfl)
    · refine Eq.trans (zY_step (by exact rfl) (by exact dX2_nextSitting_52) (by exact rfl) (pc' := 53) (S' := [zR (some 0), zI (σ 17 (nrm x3).toNat)]) (by exact rfl) (zcn (by exact rfl))) ?_
      refine Eq.trans (zY_getR (by exact rfl) (by exact dX2_nextSitting_53) (by exact rfl) (by exact rfl) (t := 17) (by exact rfl) (zcn (by exact rfl))) ?_
      refine Eq.trans (zY_step (by exact rfl) (by exact dX2_nextSitting_56) (by exact rfl) (pc' := 57) (S' := [zI x2, zR (some 17), zI (σ 17 (nrm x3).toNat)]) (by exact rfl) (zcn (by exact rfl))) ?_
      refine Eq.trans (zY_iald (by exact rfl) (by exact dX2_nextSitting_57) (by exact rfl) (by exact rfl) (zcn (by exact rfl))) (zif ?_ rfl)
      · refine Eq.trans (zY_ic_ge (by exact rfl) (by exact dX2_nextSitting_58) (t := 67) (by exact rfl) (a2 := nrm (σ 17 (nrm x3).toNat)) (b2 := nrm (σ 17 (nrm x2).toNat)) (by exact rfl) (by exact rfl) (zcn (by exact rfl)) (zcn (by exact rfl))) (zif ?_ ?_)
        · exact rfl
        · refine Eq.trans (zY_step (by exact rfl) (by exact dX2_nextSitting_61) (by exact rfl) (pc' := 64) (L' := [some (zR (some 0)), some (zI x1), some (zI x2), some (zI (x3 + (-1))), none, none]) (S' := []) (by exact rfl) (zcn (by exact rfl))) ?_
          exact zY_step (by exact rfl) (by exact dX2_nextSitting_64) (by exact rfl) (pc' := 41) (S' := []) (by exact rfl) (zcn (by exact rfl))
theorem b_X2_nextSitting_67 (d : Nat) (x1 x2 x3 : Int) (σ : zS) : zq (d + 1) mX2_nextSitting 67 [some (zR (some 0)), some (zI x1), some (zI x2), some (zI x3), none, none] [] σ = (zc d mX2_exchangeSitting [zR (some 0), zI x2, zI x3] σ).bind fun r => zq (d + 1) mX2_nextSitting 73 [some (zR (some 0)), some (zI x1), some (zI x2), some (zI x3), none, none] (r.1.toList ++ []) r.2 := by
  refine Eq.trans (zY_step (by exact rfl) (by exact dX2_nextSitting_67) (by exact rfl) (pc' := 68) (S' := [zR (some 0)]) (by exact rfl) (zcn (by exact rfl))) ?_
  refine Eq.trans (zY_step (by exact rfl) (by exact dX2_nextSitting_68) (by exact rfl) (pc' := 69) (S' := [zI x2, zR (some 0)]) (by exact rfl) (zcn (by exact rfl))) ?_
  refine Eq.trans (zY_step (by exact rfl) (by exact dX2_nextSitting_69) (by exact rfl) (pc' := 70) (S' := [zI x3, zI x2, zR (some 0)]) (by exact rfl) (zcn (by exact rfl))) ?_
  exact zY_V (by exact rfl) (by exact dX2_nextSitting_70) (by exact rfl) (as := [zI x2, zI x3]) (S' := []) (by exact rfl) (by exact rfl) (by exact rfl) (by exact Nat.le_of_ble_eq_true rfl) (by exact Nat.le_of_ble_eq_true rfl) (by exact Nat.le_of_ble_eq_true rfl) (zcn (by exact rfl))
theorem b_X2_nextSitting_73 (d : Nat) (x1 x2 x3 : Int) (σ : zS) : zq d mX2_nextSitting 73 [some (zR (some 0)), some (zI x1), some (zI x2), some (zI x3), none, none] [] σ = zq d mX2_nextSitting 83 [some (zR (some 0)), none, none, none, some (zI (x2 + 1)), some (zI (x1 - 1))] [] σ := by
  refine Eq.trans (zY_step (by exact rfl) (by exact dX2_nextSitting_73) (by exact rfl) (pc' := 74) (S' := [zI x2]) (by exact rfl) (zcn (by exact rfl))) ?_
  refine Eq.trans (zY_step (by exact rfl) (by exact dX2_nextSitting_74) (by exact rfl) (pc' := 75) (S' := [zI 1, zI x2]) (by exact rfl) (zcn (by exact rfl))) ?_
  refine Eq.trans (zY_step (by exact rfl) (by exact dX2_nextSitting_75) (by exact rfl) (pc' := 76) (S' := [zI (x2 + 1)]) (by exact rfl) (zcn (by exact rfl))) ?_
  refine Eq.trans (zY_step (by exact rfl) (by exact dX2_nextSitting_76) (by exact rfl) (pc' := 78) (L' := [some (zR (some 0)), some (zI x1), some (zI x2), some (zI x3), some (zI (x2 + 1)), none]) (S' := []) (by exact rfl) (zcn (by exact rfl))) ?_
  refine Eq.trans (zY_step (by exact rfl) (by exact dX2_nextSitting_78) (by exact rfl) (pc' := 79) (S' := [zI x1]) (by exact rfl) (zcn (by exact rfl))) ?_
  refine Eq.trans (zY_step (by exact rfl) (by exact dX2_nextSitting_79) (by exact rfl) (pc' := 80) (S' := [zI 1, zI x1]) (by exact rfl) (zcn (by exact rfl))) ?_
  refine Eq.trans (zY_step (by exact rfl) (by exact dX2_nextSitting_80) (by exact rfl) (pc' := 81) (S' := [zI (x1 - 1)]) (by exact rfl) (zcn (by exact rfl))) ?_
  exact zY_step (by exact rfl) (by exact dX2_nextSitting_81) (by exact rfl) (pc' := 83) (L' := [some (zR (some 0)), some (zI x1), some (zI x2), some (zI x3), some (zI (x2 + 1)), some (zI (x1 - 1))]) (S' := []) (L2 := [some (zR (some 0)), none, none, none, some (zI (x2 + 1)), some (zI (x1 - 1))]) (by exact rfl) (by exact rfl)
theorem b_X2_nextSitting_83 (d : Nat) (x4 x5 : Int) (σ : zS) : zq (d + 1) mX2_nextSitting 83 [some (zR (some 0)), none, none, none, some (zI x4), some (zI x5)] [] σ = (if nrm x5 ≤ nrm x4 then some (some (zI 1), σ) else (zc d mX2_exchangeSitting [zR (some 0), zI x4, zI x5] σ).bind fun r => zq (d + 1) mX2_nextSitting 98 [some (zR (some 0)), none, none, none, some (zI x4), some (zI x5)] (r.1.toList ++ []) r.2) := by
  refine Eq.trans (zY_step (by exact rfl) (by exact dX2_nextSitting_83) (by exact rfl) (pc' := 85) (S' := [zI x4]) (by exact rfl) (zcn (by exact rfl))) ?_
  refine Eq.trans (zY_step (by exact rfl) (by exact dX2_nextSitting_85) (by exact rfl) (pc' := 87) (S' := [zI x5, zI x4]) (by exact rfl) (zcn (by exact rfl))) ?_
  refine Eq.trans (zY_ic_ge (by exact rfl) (by exact dX2_nextSitting_87) (t := 107) (by exact rfl) (a2 := nrm x4) (b2 := nrm x5) (by exact rfl) (by exact rfl) (zcn (by exact rfl)) (zcn (by exact rfl))) (zif ?_ ?_)
  · refine Eq.trans (zY_step (by exact rfl) (by exact dX2_nextSitting_107) (by exact rfl) (pc' := 108) (S' := [zI 1]) (by exact rfl) (zcn (by exact rfl))) ?_
    exact zq_ret (by exact dX2_nextSitting_108) (by exact rfl) (rv := some (zI 1)) (by exact rfl)
  · refine Eq.trans (zY_step (by exact rfl) (by exact dX2_nextSitting_90) (by exact rfl) (pc' := 91) (S' := [zR (some 0)]) (by exact rfl) (zcn (by exact rfl))) ?_
    refine Eq.trans (zY_step (by exact rfl) (by exact dX2_nextSitting_91) (by exact rfl) (pc' := 93) (S' := [zI x4, zR (some 0)]) (by exact rfl) (zcn (by exact rfl))) ?_
    refine Eq.trans (zY_step (by exact rfl) (by exact dX2_nextSitting_93) (by exact rfl) (pc' := 95) (S' := [zI x5, zI x4, zR (some 0)]) (by exact rfl) (zcn (by exact rfl))) ?_
    exact zY_V (by exact rfl) (by exact dX2_nextSitting_95) (by exact rfl) (as := [zI x4, zI x5]) (S' := []) (by exact rfl) (by exact rfl) (by exact rfl) (by exact Nat.le_of_ble_eq_true rfl) (by exact Nat.le_of_ble_eq_true rfl) (by exact Nat.le_of_ble_eq_true rfl) (zcn (by exact rfl))
theorem b_X2_nextSitting_98 (d : Nat) (x4 x5 : Int) (σ : zS) : zq d mX2_nextSitting 98 [some (zR (some 0)), none, none, none, some (zI x4), some (zI x5)] [] σ = zq d mX2_nextSitting 83 [some (zR (some 0)), none, none, none, some (zI (x4 + 1)), some (zI (x5 + (-1)))] [] σ := by
  refine Eq.trans (zY_step (by exact rfl) (by exact dX2_nextSitting_98) (by exact rfl) (pc' := 101) (L' := [some (zR (some 0)), none, none, none, some (zI (x4 + 1)), some (zI x5)]) (S' := []) (by exact rfl) (zcn (by exact rfl))) ?_
  refine Eq.trans (zY_step (by exact rfl) (by exact dX2_nextSitting_101) (by exact rfl) (pc' := 104) (L' := [some (zR (some 0)), none, none, none, some (zI (x4 + 1)), some (zI (x5 + (-1)))]) (S' := []) (by exact rfl) (zcn (by exact rfl))) ?_
  exact zY_step (by exact rfl) (by exact dX2_nextSitting_104) (by exact rfl) (pc' := 83) (S' := []) (L2 := [some (zR (some 0)), none, none, none, some (zI (x4 + 1)), some (zI (x5 + (-1)))]) (by exact rfl) (by exact rfl)
theorem e_X2_exchangeSitting (d : Nat) (x1 x2 : Int) (σ : zS) : zc d mX2_exchangeSitting [zR (some 0), zI x1, zI x2] σ = (if zix x1 6 then (if zix x2 6 then (if zix x1 6 then (if zix x2 6 then some (none, zup (zup σ 17 (nrm x1).toNat (σ 17 (nrm x2).toNat)) 17 (nrm x2).toNat (σ 17 (nrm x1).toNat)) else none) else none) else none) else none) := by
  refine Eq.trans (zc_zq (L := [some (zR (some 0)), some (zI x1), some (zI x2), none]) (by exact rfl)) ?_
  refine Eq.trans (zY_step (by exact rfl) (by exact dX2_exchangeSitting_0) (by exact rfl) (pc' := 1) (S' := [zR (some 0)]) (by exact rfl) (zcn (by exact rfl))) ?_
  refine Eq.trans (zY_getR (by exact rfl) (by exact dX2_exchangeSitting_1) (by exact rfl) (by exact rfl) (t := 17) (by exact rfl) (zcn (by exact rfl))) ?_
  refine Eq.trans (zY_step (by exact rfl) (by exact dX2_exchangeSitting_4) (by exact rfl) (pc' := 5) (S' := [zI x1, zR (some 17)]) (by exact rfl) (zcn (by exact rfl))) ?_
  refine Eq.trans (zY_iald (by exact rfl) (by exact dX2_exchangeSitting_5) (by exact rfl) (by exact rfl) (zcn (by exact rfl))) (zif ?_ rfl)
  · refine Eq.trans (zY_step (by exact rfl) (by exact dX2_exchangeSitting_6) (by exact rfl) (pc' := 7) (L' := [some (zR (some 0)), some (zI x1), some (zI x2), some (zI (σ 17 (nrm x1).toNat))]) (S' := []) (by exact rfl) (zcn (by exact rfl))) ?_
    refine Eq.trans (zY_step (by exact rfl) (by exact dX2_exchangeSitting_7) (by exact rfl) (pc' := 8) (S' := [zR (some 0)]) (by exact rfl) (zcn (by exact rfl))) ?_
    refine Eq.trans (zY_getR (by exact rfl) (by exact dX2_exchangeSitting_8) (by exact rfl) (by exact rfl) (t := 17) (by exact rfl) (zcn (by exact rfl))) ?_
    refine Eq.trans (zY_step (by exact rfl) (by exact dX2_exchangeSitting_11) (by exact rfl) (pc' := 12) (S' := [zI x1, zR (some 17)]) (by exact rfl) (zcn (by exact rfl))) ?_
    refine Eq.trans (zY_step (by exact rfl) (by exact dX2_exchangeSitting_12) (by exact rfl) (pc' := 13) (S' := [zR (some 0), zI x1, zR (some 17)]) (by exact rfl) (zcn (by exact rfl))) ?_
    refine Eq.trans (zY_getR (by exact rfl) (by exact dX2_exchangeSitting_13) (by exact rfl) (by exact rfl) (t := 17) (by exact rfl) (zcn (by exact rfl))) ?_
    refine Eq.trans (zY_step (by exact rfl) (by exact dX2_exchangeSitting_16) (by exact rfl) (pc' := 17) (S' := [zI x2, zR (some 17), zI x1, zR (some 17)]) (by exact rfl) (zcn (by exact rfl))) ?_
    refine Eq.trans (zY_iald (by exact rfl) (by exact dX2_exchangeSitting_17) (by exact rfl) (by exact rfl) (zcn (by exact rfl))) (zif ?_ rfl)
    · refine Eq.trans (zY_iast (by exact rfl) (by exact dX2_exchangeSitting_18) (by exact rfl) (by exact rfl) (zcn (by exact rfl))) (zif ?_ rfl)
      · refine Eq.trans (zY_step (by exact rfl) (by exact dX2_exchangeSitting_19) (by exact rfl) (pc' := 20) (S' := [zR (some 0)]) (by exact rfl) (zcn (by exact rfl))) ?_
        refine Eq.trans (zY_getR (by exact rfl) (by exact dX2_exchangeSitting_20) (by exact rfl) (by exact rfl) (t := 17) (by exact rfl) (zcn (by exact rfl))) ?_
        refine Eq.trans (zY_step (by exact rfl) (by exact dX2_exchangeSitting_23) (by exact rfl) (pc' := 24) (S' := [zI x2, zR (some 17)]) (by exact rfl) (zcn (by exact rfl))) ?_
        refine Eq.trans (zY_step (by exact rfl) (by exact dX2_exchangeSitting_24) (by exact rfl) (pc' := 25) (S' := [zI (σ 17 (nrm x1).toNat), zI x2, zR (some 17)]) (by exact rfl) (zcn (by exact rfl))) ?_
        refine Eq.trans (zY_iast (by exact rfl) (by exact dX2_exchangeSitting_25) (by exact rfl) (by exact rfl) (zcn (by exact rfl))) (zif ?_ rfl)
        · exact zq_ret (by exact dX2_exchangeSitting_26) (by exact rfl) (rv := none) (by exact rfl)
theorem e_X2_joyFromUpright (d : Nat) (x1 : Int) (σ : zS) : zc (d + 1) mX2_joyFromUpright [zR (some 0), zI x1] σ = (zc d mX0_copyFrom [zR (some 6), zR (some 1)] σ).bind fun r => zq (d + 1) mX2_joyFromUpright 11 [some (zR (some 0)), some (zI x1)] (r.1.toList ++ []) r.2 := by
  refine Eq.trans (zc_zq (L := [some (zR (some 0)), some (zI x1)]) (by exact rfl)) ?_
  refine Eq.trans (zY_step (by exact rfl) (by exact dX2_joyFromUpright_0) (by exact rfl) (pc' := 1) (S' := [zR (some 0)]) (by exact rfl) (zcn (by exact rfl))) ?_
  refine Eq.trans (zY_getR (by exact rfl) (by exact dX2_joyFromUpright_1) (by exact rfl) (by exact rfl) (t := 6) (by exact rfl) (zcn (by exact rfl))) ?_
  refine Eq.trans (zY_step (by exact rfl) (by exact dX2_joyFromUpright_4) (by exact rfl) (pc' := 5) (S' := [zR (some 0), zR (some 6)]) (by exact rfl) (zcn (by exact rfl))) ?_
  refine Eq.trans (zY_getR (by exact rfl) (by exact dX2_joyFromUpright_5) (by exact rfl) (by exact rfl) (t := 1) (by exact rfl) (zcn (by exact rfl))) ?_
  exact zY_V (by exact rfl) (by exact dX2_joyFromUpright_8) (by exact rfl) (as := [zR (some 1)]) (S' := []) (by exact rfl) (by exact rfl) (by exact zCo_k zCo6) (by exact Nat.le_of_ble_eq_true rfl) (by exact Nat.le_of_ble_eq_true rfl) (by exact Nat.le_of_ble_eq_true rfl) (zcn (by exact rfl))
theorem b_X2_joyFromUpright_11 (d : Nat) (x1 : Int) (σ : zS) : zq (d + 1) mX2_joyFromUpright 11 [some (zR (some 0)), some (zI x1)] [] σ = (zc d mX0_sitUp [zR (some 6)] σ).bind fun r => zq (d + 1) mX2_joyFromUpright 18 [some (zR (some 0)), some (zI x1)] (r.1.toList ++ []) r.2 := by
  refine Eq.trans (zY_step (by exact rfl) (by exact dX2_joyFromUpright_11) (by exact rfl) (pc' := 12) (S' := [zR (some 0)]) (by exact rfl) (zcn (by exact rfl))) ?_
  refine Eq.trans (zY_getR (by exact rfl) (by exact dX2_joyFromUpright_12) (by exact rfl) (by exact rfl) (t := 6) (by exact rfl) (zcn (by exact rfl))) ?_
  exact zY_V (by exact rfl) (by exact dX2_joyFromUpright_15) (by exact rfl) (as := []) (S' := []) (by exact rfl) (by exact rfl) (by exact zCo_k zCo6) (by exact Nat.le_of_ble_eq_true rfl) (by exact Nat.le_of_ble_eq_true rfl) (by exact Nat.le_of_ble_eq_true rfl) (zcn (by exact rfl))
theorem b_X2_joyFromUpright_18 (d : Nat) (x1 : Int) (σ : zS) : zq (d + 1) mX2_joyFromUpright 18 [some (zR (some 0)), some (zI x1)] [] σ = (zc d mX0_goOn [zR (some 6), zI x1] σ).bind fun r => zq (d + 1) mX2_joyFromUpright 26 [some (zR (some 0)), some (zI x1)] (r.1.toList ++ []) r.2 := by
  refine Eq.trans (zY_step (by exact rfl) (by exact dX2_joyFromUpright_18) (by exact rfl) (pc' := 19) (S' := [zR (some 0)]) (by exact rfl) (zcn (by exact rfl))) ?_
  refine Eq.trans (zY_getR (by exact rfl) (by exact dX2_joyFromUpright_19) (by exact rfl) (by exact rfl) (t := 6) (by exact rfl) (zcn (by exact rfl))) ?_
  refine Eq.trans (zY_step (by exact rfl) (by exact dX2_joyFromUpright_22) (by exact rfl) (pc' := 23) (S' := [zI x1, zR (some 6)]) (by exact rfl) (zcn (by exact rfl))) ?_
  exact zY_V (by exact rfl) (by exact dX2_joyFromUpright_23) (by exact rfl) (as := [zI x1]) (S' := []) (by exact rfl) (by exact rfl) (by exact zCo_k zCo6) (by exact Nat.le_of_ble_eq_true rfl) (by exact Nat.le_of_ble_eq_true rfl) (by exact Nat.le_of_ble_eq_true rfl) (zcn (by exact rfl))
theorem b_X2_joyFromUpright_26 (d : Nat) (y0 x1 : Int) (σ : zS) : zq (d + 1) mX2_joyFromUpright 26 [some (zR (some 0)), some (zI x1)] [zI y0] σ = (zc d mX0_allJoy [zR (some 6)] σ).bind fun r => zq (d + 1) mX2_joyFromUpright 34 [some (zR (some 0)), some (zI x1)] (r.1.toList ++ []) r.2 := by
  refine Eq.trans (zY_step (by exact rfl) (by exact dX2_joyFromUpright_26) (by exact rfl) (pc' := 27) (S' := []) (by exact rfl) (zcn (by exact rfl))) ?_
  refine Eq.trans (zY_step (by exact rfl) (by exact dX2_joyFromUpright_27) (by exact rfl) (pc' := 28) (S' := [zR (some 0)]) (by exact rfl) (zcn (by exact rfl))) ?_
  refine Eq.trans (zY_getR (by exact rfl) (by exact dX2_joyFromUpright_28) (by exact rfl) (by exact rfl) (t := 6) (by exact rfl) (zcn (by exact rfl))) ?_
  exact zY_V (by exact rfl) (by exact dX2_joyFromUpright_31) (by exact rfl) (as := []) (S' := []) (by exact rfl) (by exact rfl) (by exact zCo_k zCo6) (by exact Nat.le_of_ble_eq_true rfl) (by exact Nat.le_of_ble_eq_true rfl) (by exact Nat.le_of_ble_eq_true rfl) (zcn (by exact rfl))
theorem b_X2_joyFromUpright_34 (d : Nat) (y0 x1 : Int) (σ : zS) : zq d mX2_joyFromUpright 34 [some (zR (some 0)), some (zI x1)] [zI y0] σ = some (some (zI y0), σ) := by
  exact zq_ret (by exact dX2_joyFromUpright_34) (by exact rfl) (rv := some (zI y0)) (by exact rfl)
theorem e_X2_joyOfChange (d : Nat) (x1 x2 x3 : Int) (σ : zS) : zc (d + 1) mX2_joyOfChange [zR (some 0), zI x1, zI x2, zI x3] σ = (zc d mX0_copyFrom [zR (some 6), zR (some 1)] σ).bind fun r => zq (d + 1) mX2_joyOfChange 11 [some (zR (some 0)), some (zI x1), some (zI x2), some (zI x3)] (r.1.toList ++ []) r.2 := by
  refine Eq.trans (zc_zq (L := [some (zR (some 0)), some (zI x1), some (zI x2), some (zI x3)]) (by exact rfl)) ?_
  refine Eq.trans (zY_step (by exact rfl) (by exact dX2_joyOfChange_0) (by exact rfl) (pc' := 1) (S' := [zR (some 0)]) (by exact rfl) (zcn (by exact rfl))) ?_
  refine Eq.trans (zY_getR (by exact rfl) (by exact dX2_joyOfChange_1) (by exact rfl) (by exact rfl) (t := 6) (by exact rfl) (zcn (by exact rfl))) ?_
  refine Eq.trans (zY_step (by exact rfl) (by exact dX2_joyOfChange_4) (by exact rfl) (pc' := 5) (S' := [zR (some 0), zR (some 6)]) (by exact rfl) (zcn (by exact rfl))) ?_
  refine Eq.trans (zY_getR (by exact rfl) (by exact dX2_joyOfChange_5) (by exact rfl) (by exact rfl) (t := 1) (by exact rfl) (zcn (by exact rfl))) ?_
  exact zY_V (by exact rfl) (by exact dX2_joyOfChange_8) (by exact rfl) (as := [zR (some 1)]) (S' := []) (by exact rfl) (by exact rfl) (by exact zCo_k zCo6) (by exact Nat.le_of_ble_eq_true rfl) (by exact Nat.le_of_ble_eq_true rfl) (by exact Nat.le_of_ble_eq_true rfl) (zcn (by exact rfl))
theorem b_X2_joyOfChange_11 (d : Nat) (x1 x2 x3 : Int) (σ : zS) : zq (d + 1) mX2_joyOfChange 11 [some (zR (some 0)), some (zI x1), some (zI x2), some (zI x3)] [] σ = (zc d mX0_changePlaces [zR (some 6), zI x1, zI x2] σ).bind fun r => zq (d + 1) mX2_joyOfChange 20 [some (zR (some 0)), some (zI x1), some (zI x2), some (zI x3)] (r.1.toList ++ []) r.2 := by
  refine Eq.trans (zY_step (by exact rfl) (by exact dX2_joyOfChange_11) (by exact rfl) (pc' := 12) (S' := [zR (some 0)]) (by exact rfl) (zcn (by exact rfl))) ?_
  refine Eq.trans (zY_getR (by exact rfl) (by exact dX2_joyOfChange_12) (by exact rfl) (by exact rfl) (t := 6) (by exact rfl) (zcn (by exact rfl))) ?_
  refine Eq.trans (zY_step (by exact rfl) (by exact dX2_joyOfChange_15) (by exact rfl) (pc' := 16) (S' := [zI x1, zR (some 6)]) (by exact rfl) (zcn (by exact rfl))) ?_
  refine Eq.trans (zY_step (by exact rfl) (by exact dX2_joyOfChange_16) (by exact rfl) (pc' := 17) (S' := [zI x2, zI x1, zR (some 6)]) (by exact rfl) (zcn (by exact rfl))) ?_
  exact zY_V (by exact rfl) (by exact dX2_joyOfChange_17) (by exact rfl) (as := [zI x1, zI x2]) (S' := []) (by exact rfl) (by exact rfl) (by exact zCo_k zCo6) (by exact Nat.le_of_ble_eq_true rfl) (by exact Nat.le_of_ble_eq_true rfl) (by exact Nat.le_of_ble_eq_true rfl) (zcn (by exact rfl))
theorem b_X2_joyOfChange_20 (d : Nat) (y0 x1 x2 x3 : Int) (σ : zS) : zq (d + 1) mX2_joyOfChange 20 [some (zR (some 0)), some (zI x1), some (zI x2), some (zI x3)] [zI y0] σ = (zc d mX0_goOn [zR (some 6), zI x3] σ).bind fun r => zq (d + 1) mX2_joyOfChange 29 [some (zR (some 0)), some (zI x1), some (zI x2), some (zI x3)] (r.1.toList ++ []) r.2 := by
  refine Eq.trans (zY_step (by exact rfl) (by exact dX2_joyOfChange_20) (by exact rfl) (pc' := 21) (S' := []) (by exact rfl) (zcn (by exact rfl))) ?_
  refine Eq.trans (zY_step (by exact rfl) (by exact dX2_joyOfChange_21) (by exact rfl) (pc' := 22) (S' := [zR (some 0)]) (by exact rfl) (zcn (by exact rfl))) ?_
  refine Eq.trans (zY_getR (by exact rfl) (by exact dX2_joyOfChange_22) (by exact rfl) (by exact rfl) (t := 6) (by exact rfl) (zcn (by exact rfl))) ?_
  refine Eq.trans (zY_step (by exact rfl) (by exact dX2_joyOfChange_25) (by exact rfl) (pc' := 26) (S' := [zI x3, zR (some 6)]) (by exact rfl) (zcn (by exact rfl))) ?_
  exact zY_V (by exact rfl) (by exact dX2_joyOfChange_26) (by exact rfl) (as := [zI x3]) (S' := []) (by exact rfl) (by exact rfl) (by exact zCo_k zCo6) (by exact Nat.le_of_ble_eq_true rfl) (by exact Nat.le_of_ble_eq_true rfl) (by exact Nat.le_of_ble_eq_true rfl) (zcn (by exact rfl))
theorem b_X2_joyOfChange_29 (d : Nat) (y0 x1 x2 x3 : Int) (σ : zS) : zq (d + 1) mX2_joyOfChange 29 [some (zR (some 0)), some (zI x1), some (zI x2), some (zI x3)] [zI y0] σ = (zc d mX0_allJoy [zR (some 6)] σ).bind fun r => zq (d + 1) mX2_joyOfChange 37 [some (zR (some 0)), some (zI x1), some (zI x2), some (zI x3)] (r.1.toList ++ []) r.2 := by
  refine Eq.trans (zY_step (by exact rfl) (by exact dX2_joyOfChange_29) (by exact rfl) (pc' := 30) (S' := []) (by exact rfl) (zcn (by exact rfl))) ?_
  refine Eq.trans (zY_step (by exact rfl) (by exact dX2_joyOfChange_30) (by exact rfl) (pc' := 31) (S' := [zR (some 0)]) (by exact rfl) (zcn (by exact rfl))) ?_
  refine Eq.trans (zY_getR (by exact rfl) (by exact dX2_joyOfChange_31) (by exact rfl) (by exact rfl) (t := 6) (by exact rfl) (zcn (by exact rfl))) ?_
  exact zY_V (by exact rfl) (by exact dX2_joyOfChange_34) (by exact rfl) (as := []) (S' := []) (by exact rfl) (by exact rfl) (by exact zCo_k zCo6) (by exact Nat.le_of_ble_eq_true rfl) (by exact Nat.le_of_ble_eq_true rfl) (by exact Nat.le_of_ble_eq_true rfl) (zcn (by exact rfl))
theorem b_X2_joyOfChange_37 (d : Nat) (y0 x1 x2 x3 : Int) (σ : zS) : zq d mX2_joyOfChange 37 [some (zR (some 0)), some (zI x1), some (zI x2), some (zI x3)] [zI y0] σ = some (some (zI y0), σ) := by
  exact zq_ret (by exact dX2_joyOfChange_37) (by exact rfl) (rv := some (zI y0)) (by exact rfl)
theorem e_X2_nobodyTips (d : Nat) (x1 x2 : Int) (σ : zS) : zc (d + 1) mX2_nobodyTips [zR (some 0), zI x1, zI x2] σ = (zc d mX2_thinkOnBlocked [zR (some 0), zI x1, zI x2] σ).bind fun r => zq (d + 1) mX2_nobodyTips 6 [some (zR (some 0)), some (zI x1), some (zI x2)] (r.1.toList ++ []) r.2 := by
  refine Eq.trans (zc_zq (L := [some (zR (some 0)), some (zI x1), some (zI x2)]) (by exact rfl)) ?_
  refine Eq.trans (zY_step (by exact rfl) (by exact dX2_nobodyTips_0) (by exact rfl) (pc' := 1) (S' := [zR (some 0)]) (by exact rfl) (zcn (by exact rfl))) ?_
  refine Eq.trans (zY_step (by exact rfl) (by exact dX2_nobodyTips_1) (by exact rfl) (pc' := 2) (S' := [zI x1, zR (some 0)]) (by exact rfl) (zcn (by exact rfl))) ?_
  refine Eq.trans (zY_step (by exact rfl) (by exact dX2_nobodyTips_2) (by exact rfl) (pc' := 3) (S' := [zI x2, zI x1, zR (some 0)]) (by exact rfl) (zcn (by exact rfl))) ?_
  exact zY_V (by exact rfl) (by exact dX2_nobodyTips_3) (by exact rfl) (as := [zI x1, zI x2]) (S' := []) (by exact rfl) (by exact rfl) (by exact rfl) (by exact Nat.le_of_ble_eq_true rfl) (by exact Nat.le_of_ble_eq_true rfl) (by exact Nat.le_of_ble_eq_true rfl) (zcn (by exact rfl))
theorem b_X2_nobodyTips_6 (d : Nat) (x1 x2 : Int) (σ : zS) : zq (d + 1) mX2_nobodyTips 6 [some (zR (some 0)), some (zI x1), some (zI x2)] [] σ = (zc d mX0_allTips [zR (some 6)] σ).bind fun r => zq (d + 1) mX2_nobodyTips 13 [some (zR (some 0)), some (zI x1), some (zI x2)] (r.1.toList ++ []) r.2 := by
  refine Eq.trans (zY_step (by exact rfl) (by exact dX2_nobodyTips_6) (by exact rfl) (pc' := 7) (S' := [zR (some 0)]) (by exact rfl) (zcn (by exact rfl))) ?_
  refine Eq.trans (zY_getR (by exact rfl) (by exact dX2_nobodyTips_7) (by exact rfl) (by exact rfl) (t := 6) (by exact rfl) (zcn (by exact rfl))) ?_
  exact zY_V (by exact rfl) (by exact dX2_nobodyTips_10) (by exact rfl) (as := []) (S' := []) (by exact rfl) (by exact rfl) (by exact zCo_k zCo6) (by exact Nat.le_of_ble_eq_true rfl) (by exact Nat.le_of_ble_eq_true rfl) (by exact Nat.le_of_ble_eq_true rfl) (zcn (by exact rfl))
theorem b_X2_nobodyTips_13 (d : Nat) (y0 x1 x2 : Int) (σ : zS) : zq d mX2_nobodyTips 13 [some (zR (some 0)), some (zI x1), some (zI x2)] [zI y0] σ = (if ¬ nrm y0 = 0 then some (some (zI 0), σ) else some (some (zI 1), σ)) := by
  refine Eq.trans (zY_if_ne (by exact rfl) (by exact dX2_nobodyTips_13) (t := 20) (by exact rfl) (a2 := nrm y0) (by exact rfl) (zcn (by exact rfl)) (zcn (by exact rfl))) (zif ?_ ?_)
  · refine Eq.trans (zY_step (by exact rfl) (by exact dX2_nobodyTips_20) (by exact rfl) (pc' := 21) (S' := [zI 0]) (L2 := [none, none, none]) (by exact rfl) (by exact rfl)) ?_
    exact zq_ret (by exact dX2_nobodyTips_21) (by exact rfl) (rv := some (zI 0)) (by exact rfl)
  · refine Eq.trans (zY_step (by exact rfl) (by exact dX2_nobodyTips_16) (by exact rfl) (pc' := 17) (S' := [zI 1]) (by exact rfl) (zcn (by exact rfl))) ?_
    refine Eq.trans (zY_step (by exact rfl) (by exact dX2_nobodyTips_17) (by exact rfl) (pc' := 21) (S' := [zI 1]) (L2 := [none, none, none]) (by exact rfl) (by exact rfl)) ?_
    exact zq_ret (by exact dX2_nobodyTips_21) (by exact rfl) (rv := some (zI 1)) (by exact rfl)
theorem e_X2_joyAtHour (d : Nat) (x1 x2 : Int) (σ : zS) : zc (d + 1) mX2_joyAtHour [zR (some 0), zI x1, zI x2] σ = (zc d mX0_copyFrom [zR (some 6), zR (some 1)] σ).bind fun r => zq (d + 1) mX2_joyAtHour 11 [some (zR (some 0)), some (zI x1), some (zI x2)] (r.1.toList ++ []) r.2 := by
  refine Eq.trans (zc_zq (L := [some (zR (some 0)), some (zI x1), some (zI x2)]) (by exact rfl)) ?_
  refine Eq.trans (zY_step (by exact rfl) (by exact dX2_joyAtHour_0) (by exact rfl) (pc' := 1) (S' := [zR (some 0)]) (by exact rfl) (zcn (by exact rfl))) ?_
  refine Eq.trans (zY_getR (by exact rfl) (by exact dX2_joyAtHour_1) (by exact rfl) (by exact rfl) (t := 6) (by exact rfl) (zcn (by exact rfl))) ?_
  refine Eq.trans (zY_step (by exact rfl) (by exact dX2_joyAtHour_4) (by exact rfl) (pc' := 5) (S' := [zR (some 0), zR (some 6)]) (by exact rfl) (zcn (by exact rfl))) ?_
  refine Eq.trans (zY_getR (by exact rfl) (by exact dX2_joyAtHour_5) (by exact rfl) (by exact rfl) (t := 1) (by exact rfl) (zcn (by exact rfl))) ?_
  exact zY_V (by exact rfl) (by exact dX2_joyAtHour_8) (by exact rfl) (as := [zR (some 1)]) (S' := []) (by exact rfl) (by exact rfl) (by exact zCo_k zCo6) (by exact Nat.le_of_ble_eq_true rfl) (by exact Nat.le_of_ble_eq_true rfl) (by exact Nat.le_of_ble_eq_true rfl) (zcn (by exact rfl))
theorem b_X2_joyAtHour_11 (d : Nat) (x1 x2 : Int) (σ : zS) : zq (d + 1) mX2_joyAtHour 11 [some (zR (some 0)), some (zI x1), some (zI x2)] [] σ = (zc d mX0_goOn [zR (some 6), zI x2] (zup σ 6 1 x1)).bind fun r => zq (d + 1) mX2_joyAtHour 27 [some (zR (some 0)), some (zI x1), some (zI x2)] (r.1.toList ++ []) r.2 := by
  refine Eq.trans (zY_step (by exact rfl) (by exact dX2_joyAtHour_11) (by exact rfl) (pc' := 12) (S' := [zR (some 0)]) (by exact rfl) (zcn (by exact rfl))) ?_
  refine Eq.trans (zY_getR (by exact rfl) (by exact dX2_joyAtHour_12) (by exact rfl) (by exact rfl) (t := 6) (by exact rfl) (zcn (by exact rfl))) ?_
  refine Eq.trans (zY_step (by exact rfl) (by exact dX2_joyAtHour_15) (by exact rfl) (pc' := 16) (S' := [zI x1, zR (some 6)]) (by exact rfl) (zcn (by exact rfl))) ?_
  refine Eq.trans (zY_putI (by exact rfl) (by exact dX2_joyAtHour_16) (by exact rfl) (by exact zCo_k zCo6) (by exact zCo_r1 zCo6) (by exact fun h => absurd h (by decide)) (zcn (by exact rfl))) ?_
  refine Eq.trans (zY_step (by exact rfl) (by exact dX2_joyAtHour_19) (by exact rfl) (pc' := 20) (S' := [zR (some 0)]) (by exact rfl) (zcn (by exact rfl))) ?_
  refine Eq.trans (zY_getR (by exact rfl) (by exact dX2_joyAtHour_20) (by exact rfl) (by exact rfl) (t := 6) (by exact rfl) (zcn (by exact rfl))) ?_
  refine Eq.trans (zY_step (by exact rfl) (by exact dX2_joyAtHour_23) (by exact rfl) (pc' := 24) (S' := [zI x2, zR (some 6)]) (by exact rfl) (zcn (by exact rfl))) ?_
  exact zY_V (by exact rfl) (by exact dX2_joyAtHour_24) (by exact rfl) (as := [zI x2]) (S' := []) (by exact rfl) (by exact rfl) (by exact zCo_k zCo6) (by exact Nat.le_of_ble_eq_true rfl) (by exact Nat.le_of_ble_eq_true rfl) (by exact Nat.le_of_ble_eq_true rfl) (zcn (by exact rfl))
theorem b_X2_joyAtHour_27 (d : Nat) (y0 x1 x2 : Int) (σ : zS) : zq (d + 1) mX2_joyAtHour 27 [some (zR (some 0)), some (zI x1), some (zI x2)] [zI y0] σ = (zc d mX0_allJoy [zR (some 6)] σ).bind fun r => zq (d + 1) mX2_joyAtHour 35 [some (zR (some 0)), some (zI x1), some (zI x2)] (r.1.toList ++ []) r.2 := by
  refine Eq.trans (zY_step (by exact rfl) (by exact dX2_joyAtHour_27) (by exact rfl) (pc' := 28) (S' := []) (by exact rfl) (zcn (by exact rfl))) ?_
  refine Eq.trans (zY_step (by exact rfl) (by exact dX2_joyAtHour_28) (by exact rfl) (pc' := 29) (S' := [zR (some 0)]) (by exact rfl) (zcn (by exact rfl))) ?_
  refine Eq.trans (zY_getR (by exact rfl) (by exact dX2_joyAtHour_29) (by exact rfl) (by exact rfl) (t := 6) (by exact rfl) (zcn (by exact rfl))) ?_
  exact zY_V (by exact rfl) (by exact dX2_joyAtHour_32) (by exact rfl) (as := []) (S' := []) (by exact rfl) (by exact rfl) (by exact zCo_k zCo6) (by exact Nat.le_of_ble_eq_true rfl) (by exact Nat.le_of_ble_eq_true rfl) (by exact Nat.le_of_ble_eq_true rfl) (zcn (by exact rfl))
theorem b_X2_joyAtHour_35 (d : Nat) (y0 x1 x2 : Int) (σ : zS) : zq d mX2_joyAtHour 35 [some (zR (some 0)), some (zI x1), some (zI x2)] [zI y0] σ = some (some (zI y0), σ) := by
  exact zq_ret (by exact dX2_joyAtHour_35) (by exact rfl) (rv := some (zI y0)) (by exact rfl)
theorem e_X2_neitherWouldRather (d : Nat) (x1 x2 x3 : Int) (σ : zS) : zc (d + 1) mX2_neitherWouldRather [zR (some 0), zI x1, zI x2, zI x3] σ = (zc d mX2_joyOfChoice [zR (some 0), zI x1, zI x2, zI x3, zI x1] σ).bind fun r => zq (d + 1) mX2_neitherWouldRather 8 [some (zR (some 0)), some (zI x1), some (zI x2), some (zI x3)] (r.1.toList ++ []) r.2 := by
  refine Eq.trans (zc_zq (L := [some (zR (some 0)), some (zI x1), some (zI x2), some (zI x3)]) (by exact rfl)) ?_
  refine Eq.trans (zY_step (by exact rfl) (by exact dX2_neitherWouldRather_0) (by exact rfl) (pc' := 1) (S' := [zR (some 0)]) (by exact rfl) (zcn (by exact rfl))) ?_
  refine Eq.trans (zY_step (by exact rfl) (by exact dX2_neitherWouldRather_1) (by exact rfl) (pc' := 2) (S' := [zI x1, zR (some 0)]) (by exact rfl) (zcn (by exact rfl))) ?_
  refine Eq.trans (zY_step (by exact rfl) (by exact dX2_neitherWouldRather_2) (by exact rfl) (pc' := 3) (S' := [zI x2, zI x1, zR (some 0)]) (by exact rfl) (zcn (by exact rfl))) ?_
  refine Eq.trans (zY_step (by exact rfl) (by exact dX2_neitherWouldRather_3) (by exact rfl) (pc' := 4) (S' := [zI x3, zI x2, zI x1, zR (some 0)]) (by exact rfl) (zcn (by exact rfl))) ?_
  refine Eq.trans (zY_step (by exact rfl) (by exact dX2_neitherWouldRather_4) (by exact rfl) (pc' := 5) (S' := [zI x1, zI x3, zI x2, zI x1, zR (some 0)]) (by exact rfl) (zcn (by exact rfl))) ?_
  exact zY_V (by exact rfl) (by exact dX2_neitherWouldRather_5) (by exact rfl) (as := [zI x1, zI x2, zI x3, zI x1]) (S' := []) (by exact rfl) (by exact rfl) (by exact rfl) (by exact Nat.le_of_ble_eq_true rfl) (by exact Nat.le_of_ble_eq_true rfl) (by exact Nat.le_of_ble_eq_true rfl) (zcn (by exact rfl))
theorem b_X2_neitherWouldRather_8 (d : Nat) (y0 x1 x2 x3 : Int) (σ : zS) : zq (d + 1) mX2_neitherWouldRather 8 [some (zR (some 0)), some (zI x1), some (zI x2), some (zI x3)] [zI y0] σ = (zc d mX2_joyOfChoice [zR (some 0), zI x1, zI (1 - x2), zI x3, zI x1] σ).bind fun r => zq (d + 1) mX2_neitherWouldRather 18 [some (zR (some 0)), some (zI x1), some (zI x2), some (zI x3)] (r.1.toList ++ [zI y0]) r.2 := by
  refine Eq.trans (zY_step (by exact rfl) (by exact dX2_neitherWouldRather_8) (by exact rfl) (pc' := 9) (S' := [zR (some 0), zI y0]) (by exact rfl) (zcn (by exact rfl))) ?_
  refine Eq.trans (zY_step (by exact rfl) (by exact dX2_neitherWouldRather_9) (by exact rfl) (pc' := 10) (S' := [zI x1, zR (some 0), zI y0]) (by exact rfl) (zcn (by exact rfl))) ?_
  refine Eq.trans (zY_step (by exact rfl) (by exact dX2_neitherWouldRather_10) (by exact rfl) (pc' := 11) (S' := [zI 1, zI x1, zR (some 0), zI y0]) (by exact rfl) (zcn (by exact rfl))) ?_
  refine Eq.trans (zY_step (by exact rfl) (by exact dX2_neitherWouldRather_11) (by exact rfl) (pc' := 12) (S' := [zI x2, zI 1, zI x1, zR (some 0), zI y0]) (by exact rfl) (zcn (by exact rfl))) ?_
  refine Eq.trans (zY_step (by exact rfl) (by exact dX2_neitherWouldRather_12) (by exact rfl) (pc' := 13) (S' := [zI (1 - x2), zI x1, zR (some 0), zI y0]) (by exact rfl) (zcn (by exact rfl))) ?_
  refine Eq.trans (zY_step (by exact rfl) (by exact dX2_neitherWouldRather_13) (by exact rfl) (pc' := 14) (S' := [zI x3, zI (1 - x2), zI x1, zR (some 0), zI y0]) (by exact rfl) (zcn (by exact rfl))) ?_
  refine Eq.trans (zY_step (by exact rfl) (by exact dX2_neitherWouldRather_14) (by exact rfl) (pc' := 15) (S' := [zI x1, zI x3, zI (1 - x2), zI x1, zR (some 0), zI y0]) (by exact rfl) (zcn (by exact rfl))) ?_
  exact zY_V (by exact rfl) (by exact dX2_neitherWouldRather_15) (by exact rfl) (as := [zI x1, zI (1 - x2), zI x3, zI x1]) (S' := [zI y0]) (by exact rfl) (by exact rfl) (by exact rfl) (by exact Nat.le_of_ble_eq_true rfl) (by exact Nat.le_of_ble_eq_true rfl) (by exact Nat.le_of_ble_eq_true rfl) (zcn (by exact rfl))
theorem b_X2_neitherWouldRather_18 (d : Nat) (y0 y1 x1 x2 x3 : Int) (σ : zS) : zq (d + 1) mX2_neitherWouldRather 18 [some (zR (some 0)), some (zI x1), some (zI x2), some (zI x3)] [zI y0, zI y1] σ = (if nrm y1 < nrm y0 then some (some (zI 0), σ) else (zc d mX2_joyOfChoice [zR (some 0), zI x1, zI x2, zI x3, zI (x1 + 1)] σ).bind fun r => zq (d + 1) mX2_neitherWouldRather 31 [some (zR (some 0)), some (zI x1), some (zI x2), some (zI x3)] (r.1.toList ++ []) r.2) := by
  refine Eq.trans (zY_ic_lt (by exact rfl) (by exact dX2_neitherWouldRather_18) (t := 50) (by exact rfl) (a2 := nrm y1) (b2 := nrm y0) (by exact rfl) (by exact rfl) (L1 := [none, none, none, none]) (by exact rfl) (zcn (by exact rfl))) (zif ?_ ?_)
  · refine Eq.trans (zY_step (by exact rfl) (by exact dX2_neitherWouldRather_50) (by exact rfl) (pc' := 51) (S' := [zI 0]) (L2 := [none, none, none, none]) (by exact rfl) (by exact rfl)) ?_
    exact zq_ret (by exact dX2_neitherWouldRather_51) (by exact rfl) (rv := some (zI 0)) (by exact rfl)
  · refine Eq.trans (zY_step (by exact rfl) (by exact dX2_neitherWouldRather_21) (by exact rfl) (pc' := 22) (S' := [zR (some 0)]) (by exact rfl) (zcn (by exact rfl))) ?_
    refine Eq.trans (zY_step (by exact rfl) (by exact dX2_neitherWouldRather_22) (by exact rfl) (pc' := 23) (S' := [zI x1, zR (some 0)]) (by exact rfl) (zcn (by exact rfl))) ?_
    refine Eq.trans (zY_step (by exact rfl) (by exact dX2_neitherWouldRather_23) (by exact rfl) (pc' := 24) (S' := [zI x2, zI x1, zR (some 0)]) (by exact rfl) (zcn (by exact rfl))) ?_
    refine Eq.trans (zY_step (by exact rfl) (by exact dX2_neitherWouldRather_24) (by exact rfl) (pc' := 25) (S' := [zI x3, zI x2, zI x1, zR (some 0)]) (by exact rfl) (zcn (by exact rfl))) ?_
    refine Eq.trans (zY_step (by exact rfl) (by exact dX2_neitherWouldRather_25) (by exact rfl) (pc' := 26) (S' := [zI x1, zI x3, zI x2, zI x1, zR (some 0)]) (by exact rfl) (zcn (by exact rfl))) ?_
    refine Eq.trans (zY_step (by exact rfl) (by exact dX2_neitherWouldRather_26) (by exact rfl) (pc' := 27) (S' := [zI 1, zI x1, zI x3, zI x2, zI x1, zR (some 0)]) (by exact rfl) (zcn (by exact rfl))) ?_
    refine Eq.trans (zY_step (by exact rfl) (by exact dX2_neitherWouldRather_27) (by exact rfl) (pc' := 28) (S' := [zI (x1 + 1), zI x3, zI x2, zI x1, zR (some 0)]) (by exact rfl) (zcn (by exact rfl))) ?_
    exact zY_V (by exact rfl) (by exact dX2_neitherWouldRather_28) (by exact rfl) (as := [zI x1, zI x2, zI x3, zI (x1 + 1)]) (S' := []) (by exact rfl) (by exact rfl) (by exact rfl) (by exact Nat.le_of_ble_eq_true rfl) (by exact Nat.le_of_ble_eq_true rfl) (by exact Nat.le_of_ble_eq_true rfl) (zcn (by exact rfl))
theorem b_X2_neitherWouldRather_31 (d : Nat) (y0 x1 x2 x3 : Int) (σ : zS) : zq (d + 1) mX2_neitherWouldRather 31 [some (zR (some 0)), some (zI x1), some (zI x2), some (zI x3)] [zI y0] σ = (zc d mX2_joyOfChoice [zR (some 0), zI x1, zI x2, zI (1 - x3), zI (x1 + 1)] σ).bind fun r => zq (d + 1) mX2_neitherWouldRather 43 [some (zR (some 0)), some (zI x1), some (zI x2), some (zI x3)] (r.1.toList ++ [zI y0]) r.2 := by
  refine Eq.trans (zY_step (by exact rfl) (by exact dX2_neitherWouldRather_31) (by exact rfl) (pc' := 32) (S' := [zR (some 0), zI y0]) (by exact rfl) (zcn (by exact rfl))) ?_
  refine Eq.trans (zY_step (by exact rfl) (by exact dX2_neitherWouldRather_32) (by exact rfl) (pc' := 33) (S' := [zI x1, zR (some 0), zI y0]) (by exact rfl) (zcn (by exact rfl))) ?_
  refine Eq.trans (zY_step (by exact rfl) (by exact dX2_neitherWouldRather_33) (by exact rfl) (pc' := 34) (S' := [zI x2, zI x1, zR (some 0), zI y0]) (by exact rfl) (zcn (by exact rfl))) ?_
  refine Eq.trans (zY_step (by exact rfl) (by exact dX2_neitherWouldRather_34) (by exact rfl) (pc' := 35) (S' := [zI 1, zI x2, zI x1, zR (some 0), zI y0]) (by exact rfl) (zcn (by exact rfl))) ?_
  refine Eq.trans (zY_step (by exact rfl) (by exact dX2_neitherWouldRather_35) (by exact rfl) (pc' := 36) (S' := [zI x3, zI 1, zI x2, zI x1, zR (some 0), zI y0]) (by exact rfl) (zcn (by exact rfl))) ?_
  refine Eq.trans (zY_step (by exact rfl) (by exact dX2_neitherWouldRather_36) (by exact rfl) (pc' := 37) (S' := [zI (1 - x3), zI x2, zI x1, zR (some 0), zI y0]) (by exact rfl) (zcn (by exact rfl))) ?_
  refine Eq.trans (zY_step (by exact rfl) (by exact dX2_neitherWouldRather_37) (by exact rfl) (pc' := 38) (S' := [zI x1, zI (1 - x3), zI x2, zI x1, zR (some 0), zI y0]) (by exact rfl) (zcn (by exact rfl))) ?_
  refine Eq.trans (zY_step (by exact rfl) (by exact dX2_neitherWouldRather_38) (by exact rfl) (pc' := 39) (S' := [zI 1, zI x1, zI (1 - x3), zI x2, zI x1, zR (some 0), zI y0]) (by exact rfl) (zcn (by exact rfl))) ?_
  refine Eq.trans (zY_step (by exact rfl) (by exact dX2_neitherWouldRather_39) (by exact rfl) (pc' := 40) (S' := [zI (x1 + 1), zI (1 - x3), zI x2, zI x1, zR (some 0), zI y0]) (by exact rfl) (zcn (by exact rfl))) ?_
  exact zY_V (by exact rfl) (by exact dX2_neitherWouldRather_40) (by exact rfl) (as := [zI x1, zI x2, zI (1 - x3), zI (x1 + 1)]) (S' := [zI y0]) (by exact rfl) (by exact rfl) (by exact rfl) (by exact Nat.le_of_ble_eq_true rfl) (by exact Nat.le_of_ble_eq_true rfl) (by exact Nat.le_of_ble_eq_true rfl) (zcn (by exact rfl))
theorem b_X2_neitherWouldRather_43 (d : Nat) (y0 y1 x1 x2 x3 : Int) (σ : zS) : zq d mX2_neitherWouldRather 43 [some (zR (some 0)), some (zI x1), some (zI x2), some (zI x3)] [zI y0, zI y1] σ = (if nrm y1 < nrm y0 then some (some (zI 0), σ) else some (some (zI 1), σ)) := by
  refine Eq.trans (zY_ic_lt (by exact rfl) (by exact dX2_neitherWouldRather_43) (t := 50) (by exact rfl) (a2 := nrm y1) (b2 := nrm y0) (by exact rfl) (by exact rfl) (L1 := [none, none, none, none]) (by exact rfl) (zcn (by exact rfl))) (zif ?_ ?_)
  · refine Eq.trans (zY_step (by exact rfl) (by exact dX2_neitherWouldRather_50) (by exact rfl) (pc' := 51) (S' := [zI 0]) (L2 := [none, none, none, none]) (by exact rfl) (by exact rfl)) ?_
    exact zq_ret (by exact dX2_neitherWouldRather_51) (by exact rfl) (rv := some (zI 0)) (by exact rfl)
  · refine Eq.trans (zY_step (by exact rfl) (by exact dX2_neitherWouldRather_46) (by exact rfl) (pc' := 47) (S' := [zI 1]) (by exact rfl) (zcn (by exact rfl))) ?_
    refine Eq.trans (zY_step (by exact rfl) (by exact dX2_neitherWouldRather_47) (by exact rfl) (pc' := 51) (S' := [zI 1]) (L2 := [none, none, none, none]) (by exact rfl) (by exact rfl)) ?_
    exact zq_ret (by exact dX2_neitherWouldRather_51) (by exact rfl) (rv := some (zI 1)) (by exact rfl)
theorem e_X2_joyOfChoice (d : Nat) (x1 x2 x3 x4 : Int) (σ : zS) : zc (d + 1) mX2_joyOfChoice [zR (some 0), zI x1, zI x2, zI x3, zI x4] σ = (zc d mX0_canAt [zR (some 6), zI x1] σ).bind fun r => zq (d + 1) mX2_joyOfChoice 17 [some (zR (some 0)), some (zI x1), some (zI x2), some (zI x3), some (zI x4)] (r.1.toList ++ [zI x2, zI x1, zR (some 9)]) r.2 := by
  refine Eq.trans (zc_zq (L := [some (zR (some 0)), some (zI x1), some (zI x2), some (zI x3), some (zI x4)]) (by exact rfl)) ?_
  refine Eq.trans (zY_step (by exact rfl) (by exact dX2_joyOfChoice_0) (by exact rfl) (pc' := 1) (S' := [zR (some 0)]) (by exact rfl) (zcn (by exact rfl))) ?_
  refine Eq.trans (zY_getR (by exact rfl) (by exact dX2_joyOfChoice_1) (by exact rfl) (by exact rfl) (t := 6) (by exact rfl) (zcn (by exact rfl))) ?_
  refine Eq.trans (zY_getR (by exact rfl) (by exact dX2_joyOfChoice_4) (by exact rfl) (by exact rfl) (t := 9) (by exact rfl) (zcn (by exact rfl))) ?_
  refine Eq.trans (zY_step (by exact rfl) (by exact dX2_joyOfChoice_7) (by exact rfl) (pc' := 8) (S' := [zI x1, zR (some 9)]) (by exact rfl) (zcn (by exact rfl))) ?_
  refine Eq.trans (zY_step (by exact rfl) (by exact dX2_joyOfChoice_8) (by exact rfl) (pc' := 9) (S' := [zI x2, zI x1, zR (some 9)]) (by exact rfl) (zcn (by exact rfl))) ?_
  refine Eq.trans (zY_step (by exact rfl) (by exact dX2_joyOfChoice_9) (by exact rfl) (pc' := 10) (S' := [zR (some 0), zI x2, zI x1, zR (some 9)]) (by exact rfl) (zcn (by exact rfl))) ?_
  refine Eq.trans (zY_getR (by exact rfl) (by exact dX2_joyOfChoice_10) (by exact rfl) (by exact rfl) (t := 6) (by exact rfl) (zcn (by exact rfl))) ?_
  refine Eq.trans (zY_step (by exact rfl) (by exact dX2_joyOfChoice_13) (by exact rfl) (pc' := 14) (S' := [zI x1, zR (some 6), zI x2, zI x1, zR (some 9)]) (by exact rfl) (zcn (by exact rfl))) ?_
  exact zY_V (by exact rfl) (by exact dX2_joyOfChoice_14) (by exact rfl) (as := [zI x1]) (S' := [zI x2, zI x1, zR (some 9)]) (by exact rfl) (by exact rfl) (by exact zCo_k zCo6) (by exact Nat.le_of_ble_eq_true rfl) (by exact Nat.le_of_ble_eq_true rfl) (by exact Nat.le_of_ble_eq_true rfl) (zcn (by exact rfl))
theorem b_X2_joyOfChoice_17 (d : Nat) (y0 y1 y2 x1 x2 x3 x4 : Int) (σ : zS) : zq (d + 1) mX2_joyOfChoice 17 [some (zR (some 0)), some (zI x1), some (zI x2), some (zI x3), some (zI x4)] [zI y0, zI y1, zI y2, zR (some 9)] σ = (if zix y2 8 then (zc d mX0_canAt [zR (some 6), zI (x1 + 1)] (zup σ 9 (nrm y2).toNat (y1 * y0))).bind fun r => zq (d + 1) mX2_joyOfChoice 40 [some (zR (some 0)), some (zI x1), some (zI x2), some (zI x3), some (zI x4)] (r.1.toList ++ [zI x3, zI (x1 + 1), zR (some 9)]) r.2 else none) := by
  refine Eq.trans (zY_step (by exact rfl) (by exact dX2_joyOfChoice_17) (by exact rfl) (pc' := 18) (S' := [zI (y1 * y0), zI y2, zR (some 9)]) (by exact rfl) (zcn (by exact rfl))) ?_
  refine Eq.trans (zY_iast (by exact rfl) (by exact dX2_joyOfChoice_18) (by exact rfl) (by exact rfl) (zcn (by exact rfl))) (zif ?_ rfl)
  · refine Eq.trans (zY_step (by exact rfl) (by exact dX2_joyOfChoice_19) (by exact rfl) (pc' := 20) (S' := [zR (some 0)]) (by exact rfl) (zcn (by exact rfl))) ?_
    refine Eq.trans (zY_getR (by exact rfl) (by exact dX2_joyOfChoice_20) (by exact rfl) (by exact rfl) (t := 6) (by exact rfl) (zcn (by exact rfl))) ?_
    refine Eq.trans (zY_getR (by exact rfl) (by exact dX2_joyOfChoice_23) (by exact rfl) (by exact rfl) (t := 9) (by exact rfl) (zcn (by exact rfl))) ?_
    refine Eq.trans (zY_step (by exact rfl) (by exact dX2_joyOfChoice_26) (by exact rfl) (pc' := 27) (S' := [zI x1, zR (some 9)]) (by exact rfl) (zcn (by exact rfl))) ?_
    refine Eq.trans (zY_step (by exact rfl) (by exact dX2_joyOfChoice_27) (by exact rfl) (pc' := 28) (S' := [zI 1, zI x1, zR (some 9)]) (by exact rfl) (zcn (by exact rfl))) ?_
    refine Eq.trans (zY_step (by exact rfl) (by exact dX2_joyOfChoice_28) (by exact rfl) (pc' := 29) (S' := [zI (x1 + 1), zR (some 9)]) (by exact rfl) (zcn (by exact rfl))) ?_
    refine Eq.trans (zY_step (by exact rfl) (by exact dX2_joyOfChoice_29) (by exact rfl) (pc' := 30) (S' := [zI x3, zI (x1 + 1), zR (some 9)]) (by exact rfl) (zcn (by exact rfl))) ?_
    refine Eq.trans (zY_step (by exact rfl) (by exact dX2_joyOfChoice_30) (by exact rfl) (pc' := 31) (S' := [zR (some 0), zI x3, zI (x1 + 1), zR (some 9)]) (by exact rfl) (zcn (by exact rfl))) ?_
    refine Eq.trans (zY_getR (by exact rfl) (by exact dX2_joyOfChoice_31) (by exact rfl) (by exact rfl) (t := 6) (by exact rfl) (zcn (by exact rfl))) ?_
    refine Eq.trans (zY_step (by exact rfl) (by exact dX2_joyOfChoice_34) (by exact rfl) (pc' := 35) (S' := [zI x1, zR (some 6), zI x3, zI (x1 + 1), zR (some 9)]) (by exact rfl) (zcn (by exact rfl))) ?_
    refine Eq.trans (zY_step (by exact rfl) (by exact dX2_joyOfChoice_35) (by exact rfl) (pc' := 36) (S' := [zI 1, zI x1, zR (some 6), zI x3, zI (x1 + 1), zR (some 9)]) (by exact rfl) (zcn (by exact rfl))) ?_
    refine Eq.trans (zY_step (by exact rfl) (by exact dX2_joyOfChoice_36) (by exact rfl) (pc' := 37) (S' := [zI (x1 + 1), zR (some 6), zI x3, zI (x1 + 1), zR (some 9)]) (by exact rfl) (zcn (by exact rfl))) ?_
    exact zY_V (by exact rfl) (by exact dX2_joyOfChoice_37) (by exact rfl) (as := [zI (x1 + 1)]) (S' := [zI x3, zI (x1 + 1), zR (some 9)]) (by exact rfl) (by exact rfl) (by exact zCo_k zCo6) (by exact Nat.le_of_ble_eq_true rfl) (by exact Nat.le_of_ble_eq_true rfl) (by exact Nat.le_of_ble_eq_true rfl) (zcn (by exact rfl))
theorem b_X2_joyOfChoice_40 (d : Nat) (y0 y1 y2 x1 x2 x3 x4 : Int) (σ : zS) : zq (d + 1) mX2_joyOfChoice 40 [some (zR (some 0)), some (zI x1), some (zI x2), some (zI x3), some (zI x4)] [zI y0, zI y1, zI y2, zR (some 9)] σ = (if zix y2 8 then (zc d mX0_joyAt [zR (some 6), zI x4] (zup σ 9 (nrm y2).toNat (y1 * y0))).bind fun r => zq (d + 1) mX2_joyOfChoice 51 [some (zR (some 0)), some (zI x1), some (zI x2), some (zI x3), some (zI x4)] (r.1.toList ++ []) r.2 else none) := by
  refine Eq.trans (zY_step (by exact rfl) (by exact dX2_joyOfChoice_40) (by exact rfl) (pc' := 41) (S' := [zI (y1 * y0), zI y2, zR (some 9)]) (by exact rfl) (zcn (by exact rfl))) ?_
  refine Eq.trans (zY_iast (by exact rfl) (by exact dX2_joyOfChoice_41) (by exact rfl) (by exact rfl) (zcn (by exact rfl))) (zif ?_ rfl)
  · refine Eq.trans (zY_step (by exact rfl) (by exact dX2_joyOfChoice_42) (by exact rfl) (pc' := 43) (S' := [zR (some 0)]) (by exact rfl) (zcn (by exact rfl))) ?_
    refine Eq.trans (zY_getR (by exact rfl) (by exact dX2_joyOfChoice_43) (by exact rfl) (by exact rfl) (t := 6) (by exact rfl) (zcn (by exact rfl))) ?_
    refine Eq.trans (zY_step (by exact rfl) (by exact dX2_joyOfChoice_46) (by exact rfl) (pc' := 48) (S' := [zI x4, zR (some 6)]) (by exact rfl) (zcn (by exact rfl))) ?_
    exact zY_V (by exact rfl) (by exact dX2_joyOfChoice_48) (by exact rfl) (as := [zI x4]) (S' := []) (by exact rfl) (by exact rfl) (by exact zCo_k zCo6) (by exact Nat.le_of_ble_eq_true rfl) (by exact Nat.le_of_ble_eq_true rfl) (by exact Nat.le_of_ble_eq_true rfl) (zcn (by exact rfl))
theorem b_X2_joyOfChoice_51 (d : Nat) (y0 x1 x2 x3 x4 : Int) (σ : zS) : zq d mX2_joyOfChoice 51 [some (zR (some 0)), some (zI x1), some (zI x2), some (zI x3), some (zI x4)] [zI y0] σ = some (some (zI y0), σ) := by
  exact zq_ret (by exact dX2_joyOfChoice_51) (by exact rfl) (rv := some (zI y0)) (by exact rfl)
theorem e_X2_addTip (d : Nat) (x1 x2 x3 : Int) (σ : zS) : zc d mX2_addTip [zR (some 0), zI x1, zI x2, zI x3] σ = zq d mX2_addTip 6 [some (zR (some 0)), some (zI x1), some (zI x2), some (zI x3), some (zI (80 - x1)), none, none] [] σ := by
  refine Eq.trans (zc_zq (L := [some (zR (some 0)), some (zI x1), some (zI x2), some (zI x3), none, none, none]) (by exact rfl)) ?_
  refine Eq.trans (zY_step (by exact rfl) (by exact dX2_addTip_0) (by exact rfl) (pc' := 2) (S' := [zI 80]) (by exact rfl) (zcn (by exact rfl))) ?_
  refine Eq.trans (zY_step (by exact rfl) (by exact dX2_addTip_2) (by exact rfl) (pc' := 3) (S' := [zI x1, zI 80]) (by exact rfl) (zcn (by exact rfl))) ?_
  refine Eq.trans (zY_step (by exact rfl) (by exact dX2_addTip_3) (by exact rfl) (pc' := 4) (S' := [zI (80 - x1)]) (by exact rfl) (zcn (by exact rfl))) ?_
  exact zY_step (by exact rfl) (by exact dX2_addTip_4) (by exact rfl) (pc' := 6) (L' := [some (zR (some 0)), some (zI x1), some (zI x2), some (zI x3), some (zI (80 - x1)), none, none]) (S' := []) (L2 := [some (zR (some 0)), some (zI x1), some (zI x2), some (zI x3), some (zI (80 - x1)), none, none]) (by exact rfl) (by exact rfl)
theorem b_X2_addTip_6 (d : Nat) (x1 x2 x3 x4 : Int) (σ : zS) : zq d mX2_addTip 6 [some (zR (some 0)), some (zI x1), some (zI x2), some (zI x3), some (zI x4), none, none] [] σ = (if nrm x4 < 0 then some (none, σ) else (if zix x4 81 then (if zix x4 81 then (if zix (x4 + x1) 81 then (if zix (x4 + x1) 81 then zq d mX2_addTip 6 [some (zR (some 0)), some (zI x1), some (zI x2), some (zI x3), some (zI (x4 + (-1))), none, none] [] (zup (zup σ 19 (nrm x4).toNat ((σ 19 (nrm x4).toNat) * (nrm x2))) 19 (nrm (x4 + x1)).toNat (((zup σ 19 (nrm x4).toNat ((σ 19 (nrm x4).toNat) * (nrm x2))) 19 (nrm (x4 + x1)).toNat) + ((σ 19 (nrm x4).toNat) * (nrm x3)))) else none) else none) else none) else none)) := by
  refine Eq.trans (zY_step (by exact rfl) (by exact dX2_addTip_6) (by exact rfl) (pc' := 8) (S' := [zI x4]) (by exact rfl) (zcn (by exact rfl))) ?_
  refine Eq.trans (zY_if_lt (by exact rfl) (by exact dX2_addTip_8) (t := 55) (by exact rfl) (a2 := nrm x4) (by exact rfl) (zcn (by exact rfl)) (zcn (by exact rfl))) (zif ?_ ?_)
  · exact zq_ret (by exact dX2_addTip_55) (by exact rfl) (rv := none) (by exact rfl)
  · refine Eq.trans (zY_step (by exact rfl) (by exact dX2_addTip_11) (by exact rfl) (pc' := 12) (S' := [zR (some 0)]) (by exact rfl) (zcn (by exact rfl))) ?_
    refine Eq.trans (zY_getR (by exact rfl) (by exact dX2_addTip_12) (by exact rfl) (by exact rfl) (t := 19) (by exact rfl) (zcn (by exact rfl))) ?_
    refine Eq.trans (zY_step (by exact rfl) (by exact dX2_addTip_15) (by exact rfl) (pc' := 17) (S' := [zI x4, zR (some 19)]) (by exact rfl) (zcn (by exact rfl))) ?_
    refine Eq.trans (zY_lald (by exact rfl) (by exact dX2_addTip_17) (by exact rfl) (by exact rfl) (zcn (by exact rfl))) (zif ?_ rfl)
    · refine Eq.trans (zY_step (by exact rfl) (by exact dX2_addTip_18) (by exact rfl) (pc' := 20) (L' := [some (zR (some 0)), some (zI x1), some (zI x2), some (zI x3), some (zI x4), some (zJ (σ 19 (nrm x4).toNat)), none]) (S' := []) (by exact rfl) (zcn (by exact rfl))) ?_
      refine Eq.trans (zY_step (by exact rfl) (by exact dX2_addTip_20) (by exact rfl) (pc' := 21) (S' := [zR (some 0)]) (by exact rfl) (zcn (by exact rfl))) ?_
      refine Eq.trans (zY_getR (by exact rfl) (by exact dX2_addTip_21) (by exact rfl) (by exact rfl) (t := 19) (by exact rfl) (zcn (by exact rfl))) ?_
      refine Eq.trans (zY_step (by exact rfl) (by exact dX2_addTip_24) (by exact rfl) (pc' := 26) (S' := [zI x4, zR (some 19)]) (by exact rfl) (zcn (by exact rfl))) ?_
      refine Eq.trans (zY_step (by exact rfl) (by exact dX2_addTip_26) (by exact rfl) (pc' := 28) (S' := [zJ (σ 19 (nrm x4).toNat), zI x4, zR (some 19)]) (by exact rfl) (zcn (by exact rfl))) ?_
      refine Eq.trans (zY_step (by exact rfl) (by exact dX2_addTip_28) (by exact rfl) (pc' := 29) (S' := [zI x2, zJ (σ 19 (nrm x4).toNat), zI x4, zR (some 19)]) (by exact rfl) (zcn (by exact rfl))) ?_
      refine Eq.trans (zY_step (by exact rfl) (by exact dX2_addTip_29) (by exact rfl) (pc' := 30) (S' := [zJ (nrm x2), zJ (σ 19 (nrm x4).toNat), zI x4, zR (some 19)]) (by exact rfl) (zcn (by exact rfl))) ?_
      refine Eq.trans (zY_step (by exact rfl) (by exact dX2_addTip_30) (by exact rfl) (pc' := 31) (S' := [zJ ((σ 19 (nrm x4).toNat) * (nrm x2)), zI x4, zR (some 19)]) (by exact rfl) (zcn (by exact rfl))) ?_
      refine Eq.trans (zY_last (by exact rfl) (by exact dX2_addTip_31) (by exact rfl) (by exact rfl) (zcn (by exact rfl))) (zif ?_ rfl)
      · refine Eq.trans (zY_step (by exact rfl) (by exact dX2_addTip_32) (by exact rfl) (pc' := 33) (S' := [zR (some 0)]) (by exact rfl) (zcn (by exact rfl))) ?_
        refine Eq.trans (zY_getR (by exact rfl) (by exact dX2_addTip_33) (by exact rfl) (by exact rfl) (t := 19) (by exact rfl) (zcn (by exact rfl))) ?_
        refine Eq.trans (zY_step (by exact rfl) (by exact dX2_addTip_36) (by exact rfl) (pc' := 38) (S' := [zI x4, zR (some 19)]) (by exact rfl) (zcn (by exact rfl))) ?_
        refine Eq.trans (zY_step (by exact rfl) (by exact dX2_addTip_38) (by exact rfl) (pc' := 39) (S' := [zI x1, zI x4, zR (some 19)]) (by exact rfl) (zcn (by exact rfl))) ?_
        refine Eq.trans (zY_step (by exact rfl) (by exact dX2_addTip_39) (by exact rfl) (pc' := 40) (S' := [zI (x4 + x1), zR (some 19)]) (by exact rfl) (zcn (by exact rfl))) ?_
        refine Eq.trans (zY_step (by exact rfl) (by exact dX2_addTip_40) (by exact rfl) (pc' := 41) (S' := [zI (x4 + x1), zR (some 19), zI (x4 + x1), zR (some 19)]) (by exact rfl) (zcn (by exact rfl))) ?_
        refine Eq.trans (zY_lald (by exact rfl) (by exact dX2_addTip_41) (by exact rfl) (by exact rfl) (zcn (by exact rfl))) (zif ?_ rfl)
        · refine Eq.trans (zY_step (by exact rfl) (by exact dX2_addTip_42) (by exact rfl) (pc' := 44) (S' := [zJ (σ 19 (nrm x4).toNat), zJ ((zup σ 19 (nrm x4).toNat ((σ 19 (nrm x4).toNat) * (nrm x2))) 19 (nrm (x4 + x1)).toNat), zI (x4 + x1), zR (some 19)]) (by exact rfl) (zcn (by exact rfl))) ?_
          refine Eq.trans (zY_step (by exact rfl) (by exact dX2_addTip_44) (by exact rfl) (pc' := 45) (S' := [zI x3, zJ (σ 19 (nrm x4).toNat), zJ ((zup σ 19 (nrm x4).toNat ((σ 19 (nrm x4).toNat) * (nrm x2))) 19 (nrm (x4 + x1)).toNat), zI (x4 + x1), zR (some 19)]) (by exact rfl) (zcn (by exact rfl))) ?_
          refine Eq.trans (zY_step (by exact rfl) (by exact dX2_addTip_45) (by exact rfl) (pc' := 46) (S' := [zJ (nrm x3), zJ (σ 19 (nrm x4).toNat), zJ ((zup σ 19 (nrm x4).toNat ((σ 19 (nrm x4).toNat) * (nrm x2))) 19 (nrm (x4 + x1)).toNat), zI (x4 + x1), zR (some 19)]) (by exact rfl) (zcn (by exact rfl))) ?_
          refine Eq.trans (zY_step (by exact rfl) (by exact dX2_addTip_46) (by exact rfl) (pc' := 47) (S' := [zJ ((σ 19 (nrm x4).toNat) * (nrm x3)), zJ ((zup σ 19 (nrm x4).toNat ((σ 19 (nrm x4).toNat) * (nrm x2))) 19 (nrm (x4 + x1)).toNat), zI (x4 + x1), zR (some 19)]) (by exact rfl) (zcn (by exact rfl))) ?_
          refine Eq.trans (zY_step (by exact rfl) (by exact dX2_addTip_47) (by exact rfl) (pc' := 48) (S' := [zJ (((zup σ 19 (nrm x4).toNat ((σ 19 (nrm x4).toNat) * (nrm x2))) 19 (nrm (x4 + x1)).toNat) + ((σ 19 (nrm x4).toNat) * (nrm x3))), zI (x4 + x1), zR (some 19)]) (by exact rfl) (zcn (by exact rfl))) ?_
          refine Eq.trans (zY_last (by exact rfl) (by exact dX2_addTip_48) (by exact rfl) (by exact rfl) (zcn (by exact rfl))) (zif ?_ rfl)
          · refine Eq.trans (zY_step (by exact rfl) (by exact dX2_addTip_49) (by exact rfl) (pc' := 52) (L' := [some (zR (some 0)), some (zI x1), some (zI x2), some (zI x3), some (zI (x4 + (-1))), some (zJ (σ 19 (nrm x4).toNat)), none]) (S' := []) (by exact rfl) (zcn (by exact rfl))) ?_
            exact zY_step (by exact rfl) (by exact dX2_addTip_52) (by exact rfl) (pc' := 6) (S' := []) (L2 := [some (zR (some 0)), some (zI x1), some (zI x2), some (zI x3), some (zI (x4 + (-1))), none, none]) (by exact rfl) (by exact rfl)
theorem e_X2_partOf (d : Nat) (x0 x2 x4 : Int) (σ : zS) : zc (d + 1) mX2_partOf [zJ x0, zJ x2, zI x4] σ = (zc d mX2_commonDivisor [zJ x0, zJ x2] σ).bind fun r => zq (d + 1) mX2_partOf 5 [some (zJ x0), none, some (zJ x2), none, some (zI x4), none, none] (r.1.toList ++ []) r.2 := by
  refine Eq.trans (zc_zq (L := [some (zJ x0), none, some (zJ x2), none, some (zI x4), none, none]) (by exact rfl)) ?_
  refine Eq.trans (zY_step (by exact rfl) (by exact dX2_partOf_0) (by exact rfl) (pc' := 1) (S' := [zJ x0]) (by exact rfl) (zcn (by exact rfl))) ?_
  refine Eq.trans (zY_step (by exact rfl) (by exact dX2_partOf_1) (by exact rfl) (pc' := 2) (S' := [zJ x2, zJ x0]) (by exact rfl) (zcn (by exact rfl))) ?_
  exact zY_S (by exact rfl) (by exact dX2_partOf_2) (by exact rfl) (by exact Or.inl rfl) (as := [zJ x0, zJ x2]) (S' := []) (by exact rfl) (by exact rfl) (by exact Nat.le_of_ble_eq_true rfl) (by exact Nat.le_of_ble_eq_true rfl) (zcn (by exact rfl))
theorem b_X2_partOf_5 (d : Nat) (y0 x0 x2 x4 : Int) (σ : zS) : zq d mX2_partOf 5 [some (zJ x0), none, some (zJ x2), none, some (zI x4), none, none] [zJ y0] σ = (if ¬ nrm (if nrL y0 < nrL 0 then -1 else if nrL y0 = nrL 0 then 0 else 1) = 0 then (if ¬ nrm x4 = 0 then (if nrL y0 = 0 then none else some (some (zJ ((nrL x2).tdiv (nrL y0))), σ)) else (if nrL y0 = 0 then none else some (some (zJ ((nrL x0).tdiv (nrL y0))), σ))) else some (some (zJ (nrm x4)), σ)) := by
  refine Eq.trans (zY_step (by exact rfl) (by exact dX2_partOf_5) (by exact rfl) (pc' := 7) (L' := [some (zJ x0), none, some (zJ x2), none, some (zI x4), some (zJ y0), none]) (S' := []) (by exact rfl) (zcn (by exact rfl))) ?_
  refine Eq.trans (zY_step (by exact rfl) (by exact dX2_partOf_7) (by exact rfl) (pc' := 9) (S' := [zJ y0]) (by exact rfl) (zcn (by exact rfl))) ?_
  refine Eq.trans (zY_step (by exact rfl) (by exact dX2_partOf_9) (by exact rfl) (pc' := 10) (S' := [zJ 0, zJ y0]) (by exact rfl) (zcn (by exact rfl))) ?_
  refine Eq.trans (zY_step (by exact rfl) (by exact dX2_partOf_10) (by exact rfl) (pc' := 11) (S' := [zI (if nrL y0 < nrL 0 then -1 else if nrL y0 = nrL 0 then 0 else 1)]) (by exact rfl) (zcn (by exact rfl))) ?_
  refine Eq.trans (zY_if_ne (by exact rfl) (by exact dX2_partOf_11) (t := 18) (by exact rfl) (a2 := nrm (if nrL y0 < nrL 0 then -1 else if nrL y0 = nrL 0 then 0 else 1)) (by exact rfl) (zcn (by exact rfl)) (zcn (by exact rfl))) (zif ?_ ?_)
  · refine Eq.trans (zY_step (by exact rfl) (by exact dX2_partOf_18) (by exact rfl) (pc' := 20) (S' := [zI x4]) (by exact rfl) (zcn (by exact rfl))) ?_
    refine Eq.trans (zY_if_ne (by exact rfl) (by exact dX2_partOf_20) (t := 30) (by exact rfl) (a2 := nrm x4) (by exact rfl) (zcn (by exact rfl)) (zcn (by exact rfl))) (zif ?_ ?_)
    · refine Eq.trans (zY_step (by exact rfl) (by exact dX2_partOf_30) (by exact rfl) (pc' := 31) (S' := [zJ x2]) (by exact rfl) (zcn (by exact rfl))) ?_
      refine Eq.trans (zY_step (by exact rfl) (by exact dX2_partOf_31) (by exact rfl) (pc' := 33) (S' := [zJ y0, zJ x2]) (by exact rfl) (zcn (by exact rfl))) ?_
      refine Eq.trans (zY_ldiv (by exact rfl) (by exact dX2_partOf_33) (by exact rfl)) (zif rfl ?_)
      · exact zq_ret (by exact dX2_partOf_34) (by exact rfl) (rv := some (zJ ((nrL x2).tdiv (nrL y0)))) (by exact rfl)
    · refine Eq.trans (zY_step (by exact rfl) (by exact dX2_partOf_23) (by exact rfl) (pc' := 24) (S' := [zJ x0]) (by exact rfl) (zcn (by exact rfl))) ?_
      refine Eq.trans (zY_step (by exact rfl) (by exact dX2_partOf_24) (by exact rfl) (pc' := 26) (S' := [zJ y0, zJ x0]) (by exact rfl) (zcn (by exact rfl))) ?_
      refine Eq.trans (zY_ldiv (by exact rfl) (by exact dX2_partOf_26) (zcn (by exact rfl))) (zif rfl ?_)
      · refine Eq.trans (zY_step (by exact rfl) (by exact dX2_partOf_27) (by exact rfl) (pc' := 34) (S' := [zJ ((nrL x0).tdiv (nrL y0))]) (L2 := [none, none, none, none, none, none, none]) (by exact rfl) (by exact rfl)) ?_
        exact zq_ret (by exact dX2_partOf_34) (by exact rfl) (rv := some (zJ ((nrL x0).tdiv (nrL y0)))) (by exact rfl)
  · refine Eq.trans (zY_step (by exact rfl) (by exact dX2_partOf_14) (by exact rfl) (pc' := 16) (S' := [zI x4]) (by exact rfl) (zcn (by exact rfl))) ?_
    refine Eq.trans (zY_step (by exact rfl) (by exact dX2_partOf_16) (by exact rfl) (pc' := 17) (S' := [zJ (nrm x4)]) (by exact rfl) (zcn (by exact rfl))) ?_
    exact zq_ret (by exact dX2_partOf_17) (by exact rfl) (rv := some (zJ (nrm x4))) (by exact rfl)
theorem e_X2_commonDivisor (d : Nat) (x0 x2 : Int) (σ : zS) : zc d mX2_commonDivisor [zJ x0, zJ x2] σ = zq d mX2_commonDivisor 9 [none, none, none, none, some (zJ x0), none, some (zJ x2), none, some (zI 0), none, none] [] σ := by
  refine Eq.trans (zc_zq (L := [some (zJ x0), none, some (zJ x2), none, none, none, none, none, none, none, none]) (by exact rfl)) ?_
  refine Eq.trans (zY_step (by exact rfl) (by exact dX2_commonDivisor_0) (by exact rfl) (pc' := 1) (S' := [zJ x0]) (by exact rfl) (zcn (by exact rfl))) ?_
  refine Eq.trans (zY_step (by exact rfl) (by exact dX2_commonDivisor_1) (by exact rfl) (pc' := 3) (L' := [some (zJ x0), none, some (zJ x2), none, some (zJ x0), none, none, none, none, none, none]) (S' := []) (by exact rfl) (zcn (by exact rfl))) ?_
  refine Eq.trans (zY_step (by exact rfl) (by exact dX2_commonDivisor_3) (by exact rfl) (pc' := 4) (S' := [zJ x2]) (by exact rfl) (zcn (by exact rfl))) ?_
  refine Eq.trans (zY_step (by exact rfl) (by exact dX2_commonDivisor_4) (by exact rfl) (pc' := 6) (L' := [some (zJ x0), none, some (zJ x2), none, some (zJ x0), none, some (zJ x2), none, none, none, none]) (S' := []) (by exact rfl) (zcn (by exact rfl))) ?_
  refine Eq.trans (zY_step (by exact rfl) (by exact dX2_commonDivisor_6) (by exact rfl) (pc' := 7) (S' := [zI 0]) (by exact rfl) (zcn (by exact rfl))) ?_
  exact zY_step (by exact rfl) (by exact dX2_commonDivisor_7) (by exact rfl) (pc' := 9) (L' := [some (zJ x0), none, some (zJ x2), none, some (zJ x0), none, some (zJ x2), none, some (zI 0), none, none]) (S' := []) (L2 := [none, none, none, none, some (zJ x0), none, some (zJ x2), none, some (zI 0), none, none]) (by exact rfl) (by exact rfl)
theorem b_X2_commonDivisor_9 (d : Nat) (x4 x6 x8 : Int) (σ : zS) : zq d mX2_commonDivisor 9 [none, none, none, none, some (zJ x4), none, some (zJ x6), none, some (zI x8), none, none] [] σ = (if 100 ≤ nrm x8 then some (some (zJ x4), σ) else (if nrm (if nrL x6 < nrL 0 then -1 else if nrL x6 = nrL 0 then 0 else 1) = 0 then some (some (zJ x4), σ) else (if nrL x6 = 0 then none else zq d mX2_commonDivisor 9 [none, none, none, none, some (zJ x6), none, some (zJ ((nrL x4).tmod (nrL x6))), none, some (zI (x8 + 1)), none, none] [] σ))) := by
  refine Eq.trans (zY_step (by exact rfl) (by exact dX2_commonDivisor_9) (by exact rfl) (pc' := 11) (S' := [zI x8]) (by exact rfl) (zcn (by exact rfl))) ?_
  refine Eq.trans (zY_step (by exact rfl) (by exact dX2_commonDivisor_11) (by exact rfl) (pc' := 13) (S' := [zI 100, zI x8]) (by exact rfl) (zcn (by exact rfl))) ?_
  refine Eq.trans (zY_ic_ge (by exact rfl) (by exact dX2_commonDivisor_13) (t := 44) (by exact rfl) (a2 := nrm x8) (b2 := 100) (by exact rfl) (by decide) (L1 := [none, none, none, none, some (zJ x4), none, none, none, none, none, none]) (by exact rfl) (zcn (by exact rfl))) (zif ?_ ?_)
  · refine Eq.trans (zY_step (by exact rfl) (by exact dX2_commonDivisor_44) (by exact rfl) (pc' := 46) (S' := [zJ x4]) (by exact rfl) (zcn (by exact rfl))) ?_
    exact zq_ret (by exact dX2_commonDivisor_46) (by exact rfl) (rv := some (zJ x4)) (by exact rfl)
  · refine Eq.trans (zY_step (by exact rfl) (by exact dX2_commonDivisor_16) (by exact rfl) (pc' := 18) (S' := [zJ x6]) (by exact rfl) (zcn (by exact rfl))) ?_
    refine Eq.trans (zY_step (by exact rfl) (by exact dX2_commonDivisor_18) (by exact rfl) (pc' := 19) (S' := [zJ 0, zJ x6]) (by exact rfl) (zcn (by exact rfl))) ?_
    refine Eq.trans (zY_step (by exact rfl) (by exact dX2_commonDivisor_19) (by exact rfl) (pc' := 20) (S' := [zI (if nrL x6 < nrL 0 then -1 else if nrL x6 = nrL 0 then 0 else 1)]) (by exact rfl) (zcn (by exact rfl))) ?_
    refine Eq.trans (zY_if_eq (by exact rfl) (by exact dX2_commonDivisor_20) (t := 44) (by exact rfl) (a2 := nrm (if nrL x6 < nrL 0 then -1 else if nrL x6 = nrL 0 then 0 else 1)) (by exact rfl) (L1 := [none, none, none, none, some (zJ x4), none, none, none, none, none, none]) (by exact rfl) (zcn (by exact rfl))) (zif ?_ ?_)
    · refine Eq.trans (zY_step (by exact rfl) (by exact dX2_commonDivisor_44) (by exact rfl) (pc' := 46) (S' := [zJ x4]) (by exact rfl) (zcn (by exact rfl))) ?_
      exact zq_ret (by exact dX2_commonDivisor_46) (by exact rfl) (rv := some (zJ x4)) (by exact rfl)
    · refine Eq.trans (zY_step (by exact rfl) (by exact dX2_commonDivisor_23) (by exact rfl) (pc' := 25) (S' := [zJ x4]) (by exact rfl) (zcn (by exact rfl))) ?_
      refine Eq.trans (zY_step (by exact rfl) (by exact dX2_commonDivisor_25) (by exact rfl) (pc' := 27) (S' := [zJ x6, zJ x4]) (by exact rfl) (zcn (by exact rfl))) ?_
      refine Eq.trans (zY_lrem (by exact rfl) (by exact dX2_commonDivisor_27) (zcn (by exact rfl))) (zif rfl ?_)
      · refine Eq.trans (zY_step (by exact rfl) (by exact dX2_commonDivisor_28) (by exact rfl) (pc' := 30) (L' := [none, none, none, none, some (zJ x4), none, some (zJ x6), none, some (zI x8), some (zJ ((nrL x4).tmod (nrL x6))), none]) (S' := []) (by exact rfl) (zcn (by exact rfl))) ?_
        refine Eq.trans (zY_step (by exact rfl) (by exact dX2_commonDivisor_30) (by exact rfl) (pc' := 32) (S' := [zJ x6]) (by exact rfl) (zcn (by exact rfl))) ?_
        refine Eq.trans (zY_step (by exact rfl) (by exact dX2_commonDivisor_32) (by exact rfl) (pc' := 34) (L' := [none, none, none, none, some (zJ x6), none, some (zJ x6), none, some (zI x8), some (zJ ((nrL x4).tmod (nrL x6))), none]) (S' := []) (by exact rfl) (zcn (by exact rfl))) ?_
        refine Eq.trans (zY_step (by exact rfl) (by exact dX2_commonDivisor_34) (by exact rfl) (pc' := 36) (S' := [zJ ((nrL x4).tmod (nrL x6))]) (by exact rfl) (zcn (by exact rfl))) ?_
        refine Eq.trans (zY_step (by exact rfl) (by exact dX2_commonDivisor_36) (by exact rfl) (pc' := 38) (L' := [none, none, none, none, some (zJ x6), none, some (zJ ((nrL x4).tmod (nrL x6))), none, some (zI x8), some (zJ ((nrL x4).tmod (nrL x6))), none]) (S' := []) (by exact rfl) (zcn (by exact rfl))) ?_
        refine Eq.trans (zY_step (by exact rfl) (by exact dX2_commonDivisor_38) (by exact rfl) (pc' := 41) (L' := [none, none, none, none, some (zJ x6), none, some (zJ ((nrL x4).tmod (nrL x6))), none, some (zI (x8 + 1)), some (zJ ((nrL x4).tmod (nrL x6))), none]) (S' := []) (by exact rfl) (zcn (by exact rfl))) ?_
        exact zY_step (by exact rfl) (by exact dX2_commonDivisor_41) (by exact rfl) (pc' := 9) (S' := []) (L2 := [none, none, none, none, some (zJ x6), none, some (zJ ((nrL x4).tmod (nrL x6))), none, some (zI (x8 + 1)), none, none]) (by exact rfl) (by exact rfl)
theorem e_X2_kindsAsTold (d : Nat) (x2 : Int) {q1 : Nat} (hq1 : zSh q1) (σ : zS) : zc d mX2_kindsAsTold [zR (some 0), zR (some q1), zI x2] σ = zq d mX2_kindsAsTold 5 [some (zR (some 0)), some (zR (some q1)), some (zI x2), some (zI 0), some (zI 0)] [] σ := by
  refine Eq.trans (zc_zq (L := [some (zR (some 0)), some (zR (some q1)), some (zI x2), none, none]) (by exact rfl)) ?_
  refine Eq.trans (zY_step (by exact rfl) (by exact dX2_kindsAsTold_0) (by exact rfl) (pc' := 1) (S' := [zI 0]) (by exact rfl) (zcn (by exact rfl))) ?_
  refine Eq.trans (zY_step (by exact rfl) (by exact dX2_kindsAsTold_1) (by exact rfl) (pc' := 2) (L' := [some (zR (some 0)), some (zR (some q1)), some (zI x2), some (zI 0), none]) (S' := []) (by exact rfl) (zcn (by exact rfl))) ?_
  refine Eq.trans (zY_step (by exact rfl) (by exact dX2_kindsAsTold_2) (by exact rfl) (pc' := 3) (S' := [zI 0]) (by exact rfl) (zcn (by exact rfl))) ?_
  exact zY_step (by exact rfl) (by exact dX2_kindsAsTold_3) (by exact rfl) (pc' := 5) (L' := [some (zR (some 0)), some (zR (some q1)), some (zI x2), some (zI 0), some (zI 0)]) (S' := []) (by exact rfl) (zcn (by exact rfl))
theorem b_X2_kindsAsTold_5 (d : Nat) (x2 x3 x4 : Int) {q1 : Nat} (hq1 : zSh q1) (σ : zS) : zq (d + 1) mX2_kindsAsTold 5 [some (zR (some 0)), some (zR (some q1)), some (zI x2), some (zI x3), some (zI x4)] [] σ = (if 8 ≤ nrm x4 then some (some (zI x3), σ) else (if zix x2 8 then (zc d mX2_wouldTipAsTold [zR (some 0), zR (some q1), zI x2, zI x4, zI (σ 3 (nrm x2).toNat)] σ).bind fun r => zq (d + 1) mX2_kindsAsTold 29 [some (zR (some 0)), some (zR (some q1)), some (zI x2), some (zI x3), some (zI x4)] (r.1.toList ++ []) r.2 else none)) := by
  refine Eq.trans (zY_step (by exact rfl) (by exact dX2_kindsAsTold_5) (by exact rfl) (pc' := 7) (S' := [zI x4]) (by exact rfl) (zcn (by exact rfl))) ?_
  refine Eq.trans (zY_step (by exact rfl) (by exact dX2_kindsAsTold_7) (by exact rfl) (pc' := 9) (S' := [zI 8, zI x4]) (by exact rfl) (zcn (by exact rfl))) ?_
  refine Eq.trans (zY_ic_ge (by exact rfl) (by exact dX2_kindsAsTold_9) (t := 45) (by exact rfl) (a2 := nrm x4) (b2 := 8) (by exact rfl) (by decide) (zcn (by exact rfl)) (zcn (by exact rfl))) (zif ?_ ?_)
  · refine Eq.trans (zY_step (by exact rfl) (by exact dX2_kindsAsTold_45) (by exact rfl) (pc' := 46) (S' := [zI x3]) (by exact rfl) (zcn (by exact rfl))) ?_
    exact zq_ret (by exact dX2_kindsAsTold_46) (by exact rfl) (rv := some (zI x3)) (by exact rfl)
  · refine Eq.trans (zY_step (by exact rfl) (by exact dX2_kindsAsTold_12) (by exact rfl) (pc' := 13) (S' := [zR (some 0)]) (by exact rfl) (zcn (by exact rfl))) ?_
    refine Eq.trans (zY_step (by exact rfl) (by exact dX2_kindsAsTold_13) (by exact rfl) (pc' := 14) (S' := [zR (some q1), zR (some 0)]) (by exact rfl) (zcn (by exact rfl))) ?_
    refine Eq.trans (zY_step (by exact rfl) (by exact dX2_kindsAsTold_14) (by exact rfl) (pc' := 15) (S' := [zI x2, zR (some q1), zR (some 0)]) (by exact rfl) (zcn (by exact rfl))) ?_
    refine Eq.trans (zY_step (by exact rfl) (by exact dX2_kindsAsTold_15) (by exact rfl) (pc' := 17) (S' := [zI x4, zI x2, zR (some q1), zR (some 0)]) (by exact rfl) (zcn (by exact rfl))) ?_
    refine Eq.trans (zY_step (by exact rfl) (by exact dX2_kindsAsTold_17) (by exact rfl) (pc' := 18) (S' := [zR (some 0), zI x4, zI x2, zR (some q1), zR (some 0)]) (by exact rfl) (zcn (by exact rfl))) ?_
    refine Eq.trans (zY_getR (by exact rfl) (by exact dX2_kindsAsTold_18) (by exact rfl) (by exact rfl) (t := 1) (by exact rfl) (zcn (by exact rfl))) ?_
    refine Eq.trans (zY_getR (by exact rfl) (by exact dX2_kindsAsTold_21) (by exact rfl) (by exact rfl) (t := 3) (by exact rfl) (zcn (by exact rfl))) ?_
    refine Eq.trans (zY_step (by exact rfl) (by exact dX2_kindsAsTold_24) (by exact rfl) (pc' := 25) (S' := [zI x2, zR (some 3), zI x4, zI x2, zR (some q1), zR (some 0)]) (by exact rfl) (zcn (by exact rfl))) ?_
    refine Eq.trans (zY_iald (by exact rfl) (by exact dX2_kindsAsTold_25) (by exact rfl) (by exact rfl) (zcn (by exact rfl))) (zif ?_ rfl)
    · exact zY_V (by exact rfl) (by exact dX2_kindsAsTold_26) (by exact rfl) (as := [zR (some q1), zI x2, zI x4, zI (σ 3 (nrm x2).toNat)]) (S' := []) (by exact rfl) (by exact rfl) (by exact rfl) (by exact Nat.le_of_ble_eq_true rfl) (by exact Nat.le_of_ble_eq_true rfl) (by exact Nat.le_of_ble_eq_true rfl) (zcn (by exact rfl))
theorem b_X2_kindsAsTold_29 (d : Nat) (y0 x2 x3 x4 : Int) {q1 : Nat} (hq1 : zSh q1) (σ : zS) : zq d mX2_kindsAsTold 29 [some (zR (some 0)), some (zR (some q1)), some (zI x2), some (zI x3), some (zI x4)] [zI y0] σ = (if nrm y0 = 0 then zq d mX2_kindsAsTold 39 [some (zR (some 0)), some (zR (some q1)), some (zI x2), some (zI x3), some (zI x4)] [] σ else zq d mX2_kindsAsTold 39 [some (zR (some 0)), some (zR (some q1)), some (zI x2), some (zI (zor x3 (zshl 1 x4))), some (zI x4)] [] σ) := by
  refine Eq.trans (zY_if_eq (by exact rfl) (by exact dX2_kindsAsTold_29) (t := 39) (by exact rfl) (a2 := nrm y0) (by exact rfl) (zcn (by exact rfl)) (zcn (by exact rfl))) (zif ?_ ?_)
  · exact rfl
  · refine Eq.trans (zY_step (by exact rfl) (by exact dX2_kindsAsTold_32) (by exact rfl) (pc' := 33) (S' := [zI x3]) (by exact rfl) (zcn (by exact rfl))) ?_
    refine Eq.trans (zY_step (by exact rfl) (by exact dX2_kindsAsTold_33) (by exact rfl) (pc' := 34) (S' := [zI 1, zI x3]) (by exact rfl) (zcn (by exact rfl))) ?_
    refine Eq.trans (zY_step (by exact rfl) (by exact dX2_kindsAsTold_34) (by exact rfl) (pc' := 36) (S' := [zI x4, zI 1, zI x3]) (by exact rfl) (zcn (by exact rfl))) ?_
    refine Eq.trans (zY_step (by exact rfl) (by exact dX2_kindsAsTold_36) (by exact rfl) (pc' := 37) (S' := [zI (zshl 1 x4), zI x3]) (by exact rfl) (zcn (by exact rfl))) ?_
    refine Eq.trans (zY_step (by exact rfl) (by exact dX2_kindsAsTold_37) (by exact rfl) (pc' := 38) (S' := [zI (zor x3 (zshl 1 x4))]) (by exact rfl) (zcn (by exact rfl))) ?_
    exact zY_step (by exact rfl) (by exact dX2_kindsAsTold_38) (by exact rfl) (pc' := 39) (L' := [some (zR (some 0)), some (zR (some q1)), some (zI x2), some (zI (zor x3 (zshl 1 x4))), some (zI x4)]) (S' := []) (by exact rfl) (zcn (by exact rfl))
theorem b_X2_kindsAsTold_39 (d : Nat) (x2 x3 x4 : Int) {q1 : Nat} (hq1 : zSh q1) (σ : zS) : zq d mX2_kindsAsTold 39 [some (zR (some 0)), some (zR (some q1)), some (zI x2), some (zI x3), some (zI x4)] [] σ = zq d mX2_kindsAsTold 5 [some (zR (some 0)), some (zR (some q1)), some (zI x2), some (zI x3), some (zI (x4 + 1))] [] σ := by
  refine Eq.trans (zY_step (by exact rfl) (by exact dX2_kindsAsTold_39) (by exact rfl) (pc' := 42) (L' := [some (zR (some 0)), some (zR (some q1)), some (zI x2), some (zI x3), some (zI (x4 + 1))]) (S' := []) (by exact rfl) (zcn (by exact rfl))) ?_
  exact zY_step (by exact rfl) (by exact dX2_kindsAsTold_42) (by exact rfl) (pc' := 5) (S' := []) (by exact rfl) (zcn (by exact rfl))
theorem e_X2_figuresAsTold (d : Nat) (x2 : Int) {q1 : Nat} (hq1 : zSh q1) (σ : zS) : zc d mX2_figuresAsTold [zR (some 0), zR (some q1), zI x2] σ = zq d mX2_figuresAsTold 5 [some (zR (some 0)), some (zR (some q1)), some (zI x2), some (zI 0), some (zI 0)] [] σ := by
  refine Eq.trans (zc_zq (L := [some (zR (some 0)), some (zR (some q1)), some (zI x2), none, none]) (by exact rfl)) ?_
  refine Eq.trans (zY_step (by exact rfl) (by exact dX2_figuresAsTold_0) (by exact rfl) (pc' := 1) (S' := [zI 0]) (by exact rfl) (zcn (by exact rfl))) ?_
  refine Eq.trans (zY_step (by exact rfl) (by exact dX2_figuresAsTold_1) (by exact rfl) (pc' := 2) (L' := [some (zR (some 0)), some (zR (some q1)), some (zI x2), some (zI 0), none]) (S' := []) (by exact rfl) (zcn (by exact rfl))) ?_
  refine Eq.trans (zY_step (by exact rfl) (by exact dX2_figuresAsTold_2) (by exact rfl) (pc' := 3) (S' := [zI 0]) (by exact rfl) (zcn (by exact rfl))) ?_
  exact zY_step (by exact rfl) (by exact dX2_figuresAsTold_3) (by exact rfl) (pc' := 5) (L' := [some (zR (some 0)), some (zR (some q1)), some (zI x2), some (zI 0), some (zI 0)]) (S' := []) (by exact rfl) (zcn (by exact rfl))
theorem b_X2_figuresAsTold_5 (d : Nat) (x2 x3 x4 : Int) {q1 : Nat} (hq1 : zSh q1) (σ : zS) : zq (d + 1) mX2_figuresAsTold 5 [some (zR (some 0)), some (zR (some q1)), some (zI x2), some (zI x3), some (zI x4)] [] σ = (if 10 ≤ nrm x4 then some (some (zI x3), σ) else (if zix x2 8 then (zc d mX2_wouldTipAsTold [zR (some 0), zR (some q1), zI x2, zI (σ 2 (nrm x2).toNat), zI x4] σ).bind fun r => zq (d + 1) mX2_figuresAsTold 29 [some (zR (some 0)), some (zR (some q1)), some (zI x2), some (zI x3), some (zI x4)] (r.1.toList ++ []) r.2 else none)) := by
  refine Eq.trans (zY_step (by exact rfl) (by exact dX2_figuresAsTold_5) (by exact rfl) (pc' := 7) (S' := [zI x4]) (by exact rfl) (zcn (by exact rfl))) ?_
  refine Eq.trans (zY_step (by exact rfl) (by exact dX2_figuresAsTold_7) (by exact rfl) (pc' := 9) (S' := [zI 10, zI x4]) (by exact rfl) (zcn (by exact rfl))) ?_
  refine Eq.trans (zY_ic_ge (by exact rfl) (by exact dX2_figuresAsTold_9) (t := 45) (by exact rfl) (a2 := nrm x4) (b2 := 10) (by exact rfl) (by decide) (zcn (by exact rfl)) (zcn (by exact rfl))) (zif ?_ ?_)
  · refine Eq.trans (zY_step (by exact rfl) (by exact dX2_figuresAsTold_45) (by exact rfl) (pc' := 46) (S' := [zI x3]) (by exact rfl) (zcn (by exact rfl))) ?_
    exact zq_ret (by exact dX2_figuresAsTold_46) (by exact rfl) (rv := some (zI x3)) (by exact rfl)
  · refine Eq.trans (zY_step (by exact rfl) (by exact dX2_figuresAsTold_12) (by exact rfl) (pc' := 13) (S' := [zR (some 0)]) (by exact rfl) (zcn (by exact rfl))) ?_
    refine Eq.trans (zY_step (by exact rfl) (by exact dX2_figuresAsTold_13) (by exact rfl) (pc' := 14) (S' := [zR (some q1), zR (some 0)]) (by exact rfl) (zcn (by exact rfl))) ?_
    refine Eq.trans (zY_step (by exact rfl) (by exact dX2_figuresAsTold_14) (by exact rfl) (pc' := 15) (S' := [zI x2, zR (some q1), zR (some 0)]) (by exact rfl) (zcn (by exact rfl))) ?_
    refine Eq.trans (zY_step (by exact rfl) (by exact dX2_figuresAsTold_15) (by exact rfl) (pc' := 16) (S' := [zR (some 0), zI x2, zR (some q1), zR (some 0)]) (by exact rfl) (zcn (by exact rfl))) ?_
    refine Eq.trans (zY_getR (by exact rfl) (by exact dX2_figuresAsTold_16) (by exact rfl) (by exact rfl) (t := 1) (by exact rfl) (zcn (by exact rfl))) ?_
    refine Eq.trans (zY_getR (by exact rfl) (by exact dX2_figuresAsTold_19) (by exact rfl) (by exact rfl) (t := 2) (by exact rfl) (zcn (by exact rfl))) ?_
    refine Eq.trans (zY_step (by exact rfl) (by exact dX2_figuresAsTold_22) (by exact rfl) (pc' := 23) (S' := [zI x2, zR (some 2), zI x2, zR (some q1), zR (some 0)]) (by exact rfl) (zcn (by exact rfl))) ?_
    refine Eq.trans (zY_iald (by exact rfl) (by exact dX2_figuresAsTold_23) (by exact rfl) (by exact rfl) (zcn (by exact rfl))) (zif ?_ rfl)
    · refine Eq.trans (zY_step (by exact rfl) (by exact dX2_figuresAsTold_24) (by exact rfl) (pc' := 26) (S' := [zI x4, zI (σ 2 (nrm x2).toNat), zI x2, zR (some q1), zR (some 0)]) (by exact rfl) (zcn (by exact rfl))) ?_
      exact zY_V (by exact rfl) (by exact dX2_figuresAsTold_26) (by exact rfl) (as := [zR (some q1), zI x2, zI (σ 2 (nrm x2).toNat), zI x4]) (S' := []) (by exact rfl) (by exact rfl) (by exact rfl) (by exact Nat.le_of_ble_eq_true rfl) (by exact Nat.le_of_ble_eq_true rfl) (by exact Nat.le_of_ble_eq_true rfl) (zcn (by exact rfl))
theorem b_X2_figuresAsTold_29 (d : Nat) (y0 x2 x3 x4 : Int) {q1 : Nat} (hq1 : zSh q1) (σ : zS) : zq d mX2_figuresAsTold 29 [some (zR (some 0)), some (zR (some q1)), some (zI x2), some (zI x3), some (zI x4)] [zI y0] σ = (if nrm y0 = 0 then zq d mX2_figuresAsTold 39 [some (zR (some 0)), some (zR (some q1)), some (zI x2), some (zI x3), some (zI x4)] [] σ else zq d mX2_figuresAsTold 39 [some (zR (some 0)), some (zR (some q1)), some (zI x2), some (zI (zor x3 (zshl 1 x4))), some (zI x4)] [] σ) := by
  refine Eq.trans (zY_if_eq (by exact rfl) (by exact dX2_figuresAsTold_29) (t := 39) (by exact rfl) (a2 := nrm y0) (by exact rfl) (zcn (by exact rfl)) (zcn (by exact rfl))) (zif ?_ ?_)
  · exact rfl
  · refine Eq.trans (zY_step (by exact rfl) (by exact dX2_figuresAsTold_32) (by exact rfl) (pc' := 33) (S' := [zI x3]) (by exact rfl) (zcn (by exact rfl))) ?_
    refine Eq.trans (zY_step (by exact rfl) (by exact dX2_figuresAsTold_33) (by exact rfl) (pc' := 34) (S' := [zI 1, zI x3]) (by exact rfl) (zcn (by exact rfl))) ?_
    refine Eq.trans (zY_step (by exact rfl) (by exact dX2_figuresAsTold_34) (by exact rfl) (pc' := 36) (S' := [zI x4, zI 1, zI x3]) (by exact rfl) (zcn (by exact rfl))) ?_
    refine Eq.trans (zY_step (by exact rfl) (by exact dX2_figuresAsTold_36) (by exact rfl) (pc' := 37) (S' := [zI (zshl 1 x4), zI x3]) (by exact rfl) (zcn (by exact rfl))) ?_
    refine Eq.trans (zY_step (by exact rfl) (by exact dX2_figuresAsTold_37) (by exact rfl) (pc' := 38) (S' := [zI (zor x3 (zshl 1 x4))]) (by exact rfl) (zcn (by exact rfl))) ?_
    exact zY_step (by exact rfl) (by exact dX2_figuresAsTold_38) (by exact rfl) (pc' := 39) (L' := [some (zR (some 0)), some (zR (some q1)), some (zI x2), some (zI (zor x3 (zshl 1 x4))), some (zI x4)]) (S' := []) (by exact rfl) (zcn (by exact rfl))
theorem b_X2_figuresAsTold_39 (d : Nat) (x2 x3 x4 : Int) {q1 : Nat} (hq1 : zSh q1) (σ : zS) : zq d mX2_figuresAsTold 39 [some (zR (some 0)), some (zR (some q1)), some (zI x2), some (zI x3), some (zI x4)] [] σ = zq d mX2_figuresAsTold 5 [some (zR (some 0)), some (zR (some q1)), some (zI x2), some (zI x3), some (zI (x4 + 1))] [] σ := by
  refine Eq.trans (zY_step (by exact rfl) (by exact dX2_figuresAsTold_39) (by exact rfl) (pc' := 42) (L' := [some (zR (some 0)), some (zR (some q1)), some (zI x2), some (zI x3), some (zI (x4 + 1))]) (S' := []) (by exact rfl) (zcn (by exact rfl))) ?_
  exact zY_step (by exact rfl) (by exact dX2_figuresAsTold_42) (by exact rfl) (pc' := 5) (S' := []) (by exact rfl) (zcn (by exact rfl))
theorem e_X2_wouldTipAsTold (d : Nat) (x2 x3 x4 : Int) {q1 : Nat} (hq1 : zSh q1) (σ : zS) : zc (d + 1) mX2_wouldTipAsTold [zR (some 0), zR (some q1), zI x2, zI x3, zI x4] σ = (zc d mX0_copyFrom [zR (some 6), zR (some 1)] σ).bind fun r => zq (d + 1) mX2_wouldTipAsTold 11 [some (zR (some 0)), some (zR (some q1)), some (zI x2), some (zI x3), some (zI x4), none, none] (r.1.toList ++ []) r.2 := by
  refine Eq.trans (zc_zq (L := [some (zR (some 0)), some (zR (some q1)), some (zI x2), some (zI x3), some (zI x4), none, none]) (by exact rfl)) ?_
  refine Eq.trans (zY_step (by exact rfl) (by exact dX2_wouldTipAsTold_0) (by exact rfl) (pc' := 1) (S' := [zR (some 0)]) (by exact rfl) (zcn (by exact rfl))) ?_
  refine Eq.trans (zY_getR (by exact rfl) (by exact dX2_wouldTipAsTold_1) (by exact rfl) (by exact rfl) (t := 6) (by exact rfl) (zcn (by exact rfl))) ?_
  refine Eq.trans (zY_step (by exact rfl) (by exact dX2_wouldTipAsTold_4) (by exact rfl) (pc' := 5) (S' := [zR (some 0), zR (some 6)]) (by exact rfl) (zcn (by exact rfl))) ?_
  refine Eq.trans (zY_getR (by exact rfl) (by exact dX2_wouldTipAsTold_5) (by exact rfl) (by exact rfl) (t := 1) (by exact rfl) (zcn (by exact rfl))) ?_
  exact zY_V (by exact rfl) (by exact dX2_wouldTipAsTold_8) (by exact rfl) (as := [zR (some 1)]) (S' := []) (by exact rfl) (by exact rfl) (by exact zCo_k zCo6) (by exact Nat.le_of_ble_eq_true rfl) (by exact Nat.le_of_ble_eq_true rfl) (by exact Nat.le_of_ble_eq_true rfl) (zcn (by exact rfl))
theorem b_X2_wouldTipAsTold_11 (d : Nat) (x2 x3 x4 : Int) {q1 : Nat} (hq1 : zSh q1) (σ : zS) : zq d mX2_wouldTipAsTold 11 [some (zR (some 0)), some (zR (some q1)), some (zI x2), some (zI x3), some (zI x4), none, none] [] σ = (if zix x2 8 then (if zix x2 8 then zq d mX2_wouldTipAsTold 38 [some (zR (some 0)), some (zR (some q1)), some (zI x2), none, none, some (zI 1), some (zI 0)] [] (zup (zup σ 7 (nrm x2).toNat x3) 8 (nrm x2).toNat x4) else none) else none) := by
  refine Eq.trans (zY_step (by exact rfl) (by exact dX2_wouldTipAsTold_11) (by exact rfl) (pc' := 12) (S' := [zR (some 0)]) (by exact rfl) (zcn (by exact rfl))) ?_
  refine Eq.trans (zY_getR (by exact rfl) (by exact dX2_wouldTipAsTold_12) (by exact rfl) (by exact rfl) (t := 6) (by exact rfl) (zcn (by exact rfl))) ?_
  refine Eq.trans (zY_getR (by exact rfl) (by exact dX2_wouldTipAsTold_15) (by exact rfl) (by exact rfl) (t := 7) (by exact rfl) (zcn (by exact rfl))) ?_
  refine Eq.trans (zY_step (by exact rfl) (by exact dX2_wouldTipAsTold_18) (by exact rfl) (pc' := 19) (S' := [zI x2, zR (some 7)]) (by exact rfl) (zcn (by exact rfl))) ?_
  refine Eq.trans (zY_step (by exact rfl) (by exact dX2_wouldTipAsTold_19) (by exact rfl) (pc' := 20) (S' := [zI x3, zI x2, zR (some 7)]) (by exact rfl) (zcn (by exact rfl))) ?_
  refine Eq.trans (zY_iast (by exact rfl) (by exact dX2_wouldTipAsTold_20) (by exact rfl) (by exact rfl) (zcn (by exact rfl))) (zif ?_ rfl)
  · refine Eq.trans (zY_step (by exact rfl) (by exact dX2_wouldTipAsTold_21) (by exact rfl) (pc' := 22) (S' := [zR (some 0)]) (by exact rfl) (zcn (by exact rfl))) ?_
    refine Eq.trans (zY_getR (by exact rfl) (by exact dX2_wouldTipAsTold_22) (by exact rfl) (by exact rfl) (t := 6) (by exact rfl) (zcn (by exact rfl))) ?_
    refine Eq.trans (zY_getR (by exact rfl) (by exact dX2_wouldTipAsTold_25) (by exact rfl) (by exact rfl) (t := 8) (by exact rfl) (zcn (by exact rfl))) ?_
    refine Eq.trans (zY_step (by exact rfl) (by exact dX2_wouldTipAsTold_28) (by exact rfl) (pc' := 29) (S' := [zI x2, zR (some 8)]) (by exact rfl) (zcn (by exact rfl))) ?_
    refine Eq.trans (zY_step (by exact rfl) (by exact dX2_wouldTipAsTold_29) (by exact rfl) (pc' := 31) (S' := [zI x4, zI x2, zR (some 8)]) (by exact rfl) (zcn (by exact rfl))) ?_
    refine Eq.trans (zY_iast (by exact rfl) (by exact dX2_wouldTipAsTold_31) (by exact rfl) (by exact rfl) (zcn (by exact rfl))) (zif ?_ rfl)
    · refine Eq.trans (zY_step (by exact rfl) (by exact dX2_wouldTipAsTold_32) (by exact rfl) (pc' := 33) (S' := [zI 1]) (by exact rfl) (zcn (by exact rfl))) ?_
      refine Eq.trans (zY_step (by exact rfl) (by exact dX2_wouldTipAsTold_33) (by exact rfl) (pc' := 35) (L' := [some (zR (some 0)), some (zR (some q1)), some (zI x2), some (zI x3), some (zI x4), some (zI 1), none]) (S' := []) (by exact rfl) (zcn (by exact rfl))) ?_
      refine Eq.trans (zY_step (by exact rfl) (by exact dX2_wouldTipAsTold_35) (by exact rfl) (pc' := 36) (S' := [zI 0]) (by exact rfl) (zcn (by exact rfl))) ?_
      exact zY_step (by exact rfl) (by exact dX2_wouldTipAsTold_36) (by exact rfl) (pc' := 38) (L' := [some (zR (some 0)), some (zR (some q1)), some (zI x2), some (zI x3), some (zI x4), some (zI 1), some (zI 0)]) (S' := []) (L2 := [some (zR (some 0)), some (zR (some q1)), some (zI x2), none, none, some (zI 1), some (zI 0)]) (by exact rfl) (by exact rfl)
theorem b_X2_wouldTipAsTold_38 (d : Nat) (x2 x5 x6 : Int) {q1 : Nat} (hq1 : zSh q1) (σ : zS) : zq (d + 1) mX2_wouldTipAsTold 38 [some (zR (some 0)), some (zR (some q1)), some (zI x2), none, none, some (zI x5), some (zI x6)] [] σ = (if nrm (σ q1 4) ≤ nrm x6 then some (some (zI 1), σ) else (if nrm x6 ≤ 0 then zq (d + 1) mX2_wouldTipAsTold 75 [some (zR (some 0)), some (zR (some q1)), some (zI x2), none, none, some (zI x5), some (zI x6)] [] σ else (if nrm x5 = 0 then zq (d + 1) mX2_wouldTipAsTold 75 [some (zR (some 0)), some (zR (some q1)), some (zI x2), none, none, some (zI x5), some (zI x6)] [] σ else (zc d mX0_goOn [zR (some 6), zI 1] σ).bind fun r => zq (d + 1) mX2_wouldTipAsTold 65 [some (zR (some 0)), some (zR (some q1)), some (zI x2), none, none, some (zI x5), some (zI x6)] (r.1.toList ++ []) r.2))) := by
  refine Eq.trans (zY_step (by exact rfl) (by exact dX2_wouldTipAsTold_38) (by exact rfl) (pc' := 40) (S' := [zI x6]) (by exact rfl) (zcn (by exact rfl))) ?_
  refine Eq.trans (zY_step (by exact rfl) (by exact dX2_wouldTipAsTold_40) (by exact rfl) (pc' := 41) (S' := [zR (some q1), zI x6]) (by exact rfl) (zcn (by exact rfl))) ?_
  refine Eq.trans (zY_getI (by exact rfl) (by exact dX2_wouldTipAsTold_41) (by exact rfl) (by exact zSh_k hq1) (by exact zSh_r4 hq1) (zcn (by exact rfl))) ?_
  refine Eq.trans (zY_ic_ge (by exact rfl) (by exact dX2_wouldTipAsTold_44) (t := 111) (by exact rfl) (a2 := nrm x6) (b2 := nrm (σ q1 4)) (by exact rfl) (by exact rfl) (zcn (by exact rfl)) (zcn (by exact rfl))) (zif ?_ ?_)
  · refine Eq.trans (zY_step (by exact rfl) (by exact dX2_wouldTipAsTold_111) (by exact rfl) (pc' := 112) (S' := [zI 1]) (by exact rfl) (zcn (by exact rfl))) ?_
    exact zq_ret (by exact dX2_wouldTipAsTold_112) (by exact rfl) (rv := some (zI 1)) (by exact rfl)
  · refine Eq.trans (zY_step (by exact rfl) (by exact dX2_wouldTipAsTold_47) (by exact rfl) (pc' := 49) (S' := [zI x6]) (by exact rfl) (zcn (by exact rfl))) ?_
    refine Eq.trans (zY_if_le (by exact rfl) (by exact dX2_wouldTipAsTold_49) (t := 75) (by exact rfl) (a2 := nrm x6) (by exact rfl) (zcn (by exact rfl)) (zcn (by exact rfl))) (zif ?_ ?_)
    · exact rfl
    · refine Eq.trans (zY_step (by exact rfl) (by exact dX2_wouldTipAsTold_52) (by exact rfl) (pc' := 54) (S' := [zI x5]) (by exact rfl) (zcn (by exact rfl))) ?_
      refine Eq.trans (zY_if_eq (by exact rfl) (by exact dX2_wouldTipAsTold_54) (t := 75) (by exact rfl) (a2 := nrm x5) (by exact rfl) (zcn (by exact rfl)) (zcn (by exact rfl))) (zif ?_ ?_)
      · exact rfl
      · refine Eq.trans (zY_step (by exact rfl) (by exact dX2_wouldTipAsTold_57) (by exact rfl) (pc' := 58) (S' := [zR (some 0)]) (by exact rfl) (zcn (by exact rfl))) ?_
        refine Eq.trans (zY_getR (by exact rfl) (by exact dX2_wouldTipAsTold_58) (by exact rfl) (by exact rfl) (t := 6) (by exact rfl) (zcn (by exact rfl))) ?_
        refine Eq.trans (zY_step (by exact rfl) (by exact dX2_wouldTipAsTold_61) (by exact rfl) (pc' := 62) (S' := [zI 1, zR (some 6)]) (by exact rfl) (zcn (by exact rfl))) ?_
        exact zY_V (by exact rfl) (by exact dX2_wouldTipAsTold_62) (by exact rfl) (as := [zI 1]) (S' := []) (by exact rfl) (by exact rfl) (by exact zCo_k zCo6) (by exact Nat.le_of_ble_eq_true rfl) (by exact Nat.le_of_ble_eq_true rfl) (by exact Nat.le_of_ble_eq_true rfl) (zcn (by exact rfl))
theorem b_X2_wouldTipAsTold_75 (d : Nat) (x2 x5 x6 : Int) {q1 : Nat} (hq1 : zSh q1) (σ : zS) : zq (d + 1) mX2_wouldTipAsTold 75 [some (zR (some 0)), some (zR (some q1)), some (zI x2), none, none, some (zI x5), some (zI x6)] [] σ = (zc d mX1_isSkipped [zR (some q1), zI x6] σ).bind fun r => zq (d + 1) mX2_wouldTipAsTold 81 [some (zR (some 0)), some (zR (some q1)), some (zI x2), none, none, some (zI x5), some (zI x6)] (r.1.toList ++ []) r.2 := by
  refine Eq.trans (zY_step (by exact rfl) (by exact dX2_wouldTipAsTold_75) (by exact rfl) (pc' := 76) (S' := [zR (some q1)]) (by exact rfl) (zcn (by exact rfl))) ?_
  refine Eq.trans (zY_step (by exact rfl) (by exact dX2_wouldTipAsTold_76) (by exact rfl) (pc' := 78) (S' := [zI x6, zR (some q1)]) (by exact rfl) (zcn (by exact rfl))) ?_
  exact zY_V (by exact rfl) (by exact dX2_wouldTipAsTold_78) (by exact rfl) (as := [zI x6]) (S' := []) (by exact rfl) (by exact rfl) (by exact zSh_k hq1) (by exact Nat.le_of_ble_eq_true rfl) (by exact Nat.le_of_ble_eq_true rfl) (by exact Nat.le_of_ble_eq_true rfl) (zcn (by exact rfl))
theorem b_X2_wouldTipAsTold_65 (d : Nat) (y0 x2 x5 x6 : Int) {q1 : Nat} (hq1 : zSh q1) (σ : zS) : zq d mX2_wouldTipAsTold 65 [some (zR (some 0)), some (zR (some q1)), some (zI x2), none, none, some (zI x5), some (zI x6)] [zI y0] σ = (if nrm y0 ≤ 0 then zq d mX2_wouldTipAsTold 73 [some (zR (some 0)), some (zR (some q1)), some (zI x2), none, none, none, some (zI x6)] [zI 0] σ else zq d mX2_wouldTipAsTold 73 [some (zR (some 0)), some (zR (some q1)), some (zI x2), none, none, none, some (zI x6)] [zI 1] σ) := by
  refine Eq.trans (zY_if_le (by exact rfl) (by exact dX2_wouldTipAsTold_65) (t := 72) (by exact rfl) (a2 := nrm y0) (by exact rfl) (zcn (by exact rfl)) (zcn (by exact rfl))) (zif ?_ ?_)
  · exact zY_step (by exact rfl) (by exact dX2_wouldTipAsTold_72) (by exact rfl) (pc' := 73) (S' := [zI 0]) (L2 := [some (zR (some 0)), some (zR (some q1)), some (zI x2), none, none, none, some (zI x6)]) (by exact rfl) (by exact rfl)
  · refine Eq.trans (zY_step (by exact rfl) (by exact dX2_wouldTipAsTold_68) (by exact rfl) (pc' := 69) (S' := [zI 1]) (by exact rfl) (zcn (by exact rfl))) ?_
    exact zY_step (by exact rfl) (by exact dX2_wouldTipAsTold_69) (by exact rfl) (pc' := 73) (S' := [zI 1]) (L2 := [some (zR (some 0)), some (zR (some q1)), some (zI x2), none, none, none, some (zI x6)]) (by exact rfl) (by exact rfl)
theorem b_X2_wouldTipAsTold_81 (d : Nat) (y0 x2 x5 x6 : Int) {q1 : Nat} (hq1 : zSh q1) (σ : zS) : zq d mX2_wouldTipAsTold 81 [some (zR (some 0)), some (zR (some q1)), some (zI x2), none, none, some (zI x5), some (zI x6)] [zI y0] σ = (if ¬ nrm y0 = 0 then zq d mX2_wouldTipAsTold 105 [some (zR (some 0)), some (zR (some q1)), some (zI x2), none, none, some (zI x5), some (zI x6)] [] σ else (if zix x6 100 then (if zix x2 8 then (if nrm (σ (q1 + 1) (nrm x6).toNat) = nrm (σ 9 (nrm x2).toNat) then zq d mX2_wouldTipAsTold 105 [some (zR (some 0)), some (zR (some q1)), some (zI x2), none, none, some (zI x5), some (zI x6)] [] σ else some (some (zI 0), σ)) else none) else none)) := by
  refine Eq.trans (zY_if_ne (by exact rfl) (by exact dX2_wouldTipAsTold_81) (t := 105) (by exact rfl) (a2 := nrm y0) (by exact rfl) (zcn (by exact rfl)) (zcn (by exact rfl))) (zif ?_ ?_)
  · exact rfl
  · refine Eq.trans (zY_step (by exact rfl) (by exact dX2_wouldTipAsTold_84) (by exact rfl) (pc' := 85) (S' := [zR (some q1)]) (by exact rfl) (zcn (by exact rfl))) ?_
    refine Eq.trans (zY_getR (by exact rfl) (by exact dX2_wouldTipAsTold_85) (by exact rfl) (by exact zSh_k hq1) (by exact zSh_r5 hq1) (zcn (by exact rfl))) ?_
    refine Eq.trans (zY_step (by exact rfl) (by exact dX2_wouldTipAsTold_88) (by exact rfl) (pc' := 90) (S' := [zI x6, zR (some (q1 + 1))]) (by exact rfl) (zcn (by exact rfl))) ?_
    refine Eq.trans (zY_iald (by exact rfl) (by exact dX2_wouldTipAsTold_90) (by exact zSh_a1 hq1) (by exact zSh_n1 hq1) (zcn (by exact rfl))) (zif ?_ rfl)
    · refine Eq.trans (zY_step (by exact rfl) (by exact dX2_wouldTipAsTold_91) (by exact rfl) (pc' := 92) (S' := [zR (some 0), zI (σ (q1 + 1) (nrm x6).toNat)]) (by exact rfl) (zcn (by exact rfl))) ?_
      refine Eq.trans (zY_getR (by exact rfl) (by exact dX2_wouldTipAsTold_92) (by exact rfl) (by exact rfl) (t := 6) (by exact rfl) (zcn (by exact rfl))) ?_
      refine Eq.trans (zY_getR (by exact rfl) (by exact dX2_wouldTipAsTold_95) (by exact rfl) (by exact rfl) (t := 9) (by exact rfl) (zcn (by exact rfl))) ?_
      refine Eq.trans (zY_step (by exact rfl) (by exact dX2_wouldTipAsTold_98) (by exact rfl) (pc' := 99) (S' := [zI x2, zR (some 9), zI (σ (q1 + 1) (nrm x6).toNat)]) (by exact rfl) (zcn (by exact rfl))) ?_
      refine Eq.trans (zY_iald (by exact rfl) (by exact dX2_wouldTipAsTold_99) (by exact rfl) (by exact rfl) (zcn (by exact rfl))) (zif ?_ rfl)
      · refine Eq.trans (zY_ic_eq (by exact rfl) (by exact dX2_wouldTipAsTold_100) (t := 105) (by exact rfl) (a2 := nrm (σ (q1 + 1) (nrm x6).toNat)) (b2 := nrm (σ 9 (nrm x2).toNat)) (by exact rfl) (by exact rfl) (zcn (by exact rfl)) (zcn (by exact rfl))) (zif ?_ ?_)
        · exact rfl
        · refine Eq.trans (zY_step (by exact rfl) (by exact dX2_wouldTipAsTold_103) (by exact rfl) (pc' := 104) (S' := [zI 0]) (by exact rfl) (zcn (by exact rfl))) ?_
          exact zq_ret (by exact dX2_wouldTipAsTold_104) (by exact rfl) (rv := some (zI 0)) (by exact rfl)
theorem b_X2_wouldTipAsTold_73 (d : Nat) (y0 x2 x6 : Int) {q1 : Nat} (hq1 : zSh q1) (σ : zS) : zq d mX2_wouldTipAsTold 73 [some (zR (some 0)), some (zR (some q1)), some (zI x2), none, none, none, some (zI x6)] [zI y0] σ = zq d mX2_wouldTipAsTold 75 [some (zR (some 0)), some (zR (some q1)), some (zI x2), none, none, some (zI y0), some (zI x6)] [] σ := by
  exact zY_step (by exact rfl) (by exact dX2_wouldTipAsTold_73) (by exact rfl) (pc' := 75) (L' := [some (zR (some 0)), some (zR (some q1)), some (zI x2), none, none, some (zI y0), some (zI x6)]) (S' := []) (by exact rfl) (zcn (by exact rfl))
theorem b_X2_wouldTipAsTold_105 (d : Nat) (x2 x5 x6 : Int) {q1 : Nat} (hq1 : zSh q1) (σ : zS) : zq d mX2_wouldTipAsTold 105 [some (zR (some 0)), some (zR (some q1)), some (zI x2), none, none, some (zI x5), some (zI x6)] [] σ = zq d mX2_wouldTipAsTold 38 [some (zR (some 0)), some (zR (some q1)), some (zI x2), none, none, some (zI x5), some (zI (x6 + 1))] [] σ := by
  refine Eq.trans (zY_step (by exact rfl) (by exact dX2_wouldTipAsTold_105) (by exact rfl) (pc' := 108) (L' := [some (zR (some 0)), some (zR (some q1)), some (zI x2), none, none, some (zI x5), some (zI (x6 + 1))]) (S' := []) (by exact rfl) (zcn (by exact rfl))) ?_
  exact zY_step (by exact rfl) (by exact dX2_wouldTipAsTold_108) (by exact rfl) (pc' := 38) (S' := []) (L2 := [some (zR (some 0)), some (zR (some q1)), some (zI x2), none, none, some (zI x5), some (zI (x6 + 1))]) (by exact rfl) (by exact rfl)
theorem e_X2_drawTrip (d : Nat) (x1 : Int) (σ : zS) : zc (d + 1) mX2_drawTrip [zR (some 0), zI x1] σ = (zc d mX0_sitUp [zR (some 6)] σ).bind fun r => zq (d + 1) mX2_drawTrip 7 [some (zR (some 0)), some (zI x1), none, none] (r.1.toList ++ []) r.2 := by
  refine Eq.trans (zc_zq (L := [some (zR (some 0)), some (zI x1), none, none]) (by exact rfl)) ?_
  refine Eq.trans (zY_step (by exact rfl) (by exact dX2_drawTrip_0) (by exact rfl) (pc' := 1) (S' := [zR (some 0)]) (by exact rfl) (zcn (by exact rfl))) ?_
  refine Eq.trans (zY_getR (by exact rfl) (by exact dX2_drawTrip_1) (by exact rfl) (by exact rfl) (t := 6) (by exact rfl) (zcn (by exact rfl))) ?_
  exact zY_V (by exact rfl) (by exact dX2_drawTrip_4) (by exact rfl) (as := []) (S' := []) (by exact rfl) (by exact rfl) (by exact zCo_k zCo6) (by exact Nat.le_of_ble_eq_true rfl) (by exact Nat.le_of_ble_eq_true rfl) (by exact Nat.le_of_ble_eq_true rfl) (zcn (by exact rfl))
theorem b_X2_drawTrip_7 (d : Nat) (x1 : Int) (σ : zS) : zq (d + 1) mX2_drawTrip 7 [some (zR (some 0)), some (zI x1), none, none] [] σ = (zc d mX2_nextSeed [zI x1] σ).bind fun r => zq (d + 1) mX2_drawTrip 11 [some (zR (some 0)), some (zI x1), none, none] (r.1.toList ++ []) r.2 := by
  refine Eq.trans (zY_step (by exact rfl) (by exact dX2_drawTrip_7) (by exact rfl) (pc' := 8) (S' := [zI x1]) (by exact rfl) (zcn (by exact rfl))) ?_
  exact zY_S (by exact rfl) (by exact dX2_drawTrip_8) (by exact rfl) (by exact Or.inl rfl) (as := [zI x1]) (S' := []) (by exact rfl) (by exact rfl) (by exact Nat.le_of_ble_eq_true rfl) (by exact Nat.le_of_ble_eq_true rfl) (zcn (by exact rfl))
theorem b_X2_drawTrip_11 (d : Nat) (y0 x1 : Int) (σ : zS) : zq (d + 1) mX2_drawTrip 11 [some (zR (some 0)), some (zI x1), none, none] [zI y0] σ = (zc d mX2_drawn [zI y0] σ).bind fun r => zq (d + 1) mX2_drawTrip 20 [some (zR (some 0)), some (zI x1), some (zI y0), none] (r.1.toList ++ [zR (some 6)]) r.2 := by
  refine Eq.trans (zY_step (by exact rfl) (by exact dX2_drawTrip_11) (by exact rfl) (pc' := 12) (L' := [some (zR (some 0)), some (zI x1), some (zI y0), none]) (S' := []) (by exact rfl) (zcn (by exact rfl))) ?_
  refine Eq.trans (zY_step (by exact rfl) (by exact dX2_drawTrip_12) (by exact rfl) (pc' := 13) (S' := [zR (some 0)]) (by exact rfl) (zcn (by exact rfl))) ?_
  refine Eq.trans (zY_getR (by exact rfl) (by exact dX2_drawTrip_13) (by exact rfl) (by exact rfl) (t := 6) (by exact rfl) (zcn (by exact rfl))) ?_
  refine Eq.trans (zY_step (by exact rfl) (by exact dX2_drawTrip_16) (by exact rfl) (pc' := 17) (S' := [zI y0, zR (some 6)]) (by exact rfl) (zcn (by exact rfl))) ?_
  exact zY_S (by exact rfl) (by exact dX2_drawTrip_17) (by exact rfl) (by exact Or.inl rfl) (as := [zI y0]) (S' := [zR (some 6)]) (by exact rfl) (by exact rfl) (by exact Nat.le_of_ble_eq_true rfl) (by exact Nat.le_of_ble_eq_true rfl) (zcn (by exact rfl))
theorem b_X2_drawTrip_20 (d : Nat) (y0 x1 x2 : Int) (σ : zS) : zq d mX2_drawTrip 20 [some (zR (some 0)), some (zI x1), some (zI x2), none] [zI y0, zR (some 6)] σ = zq d mX2_drawTrip 36 [some (zR (some 0)), none, some (zI x2), some (zI 0)] [] (zup (zup σ 6 1 ((nrm y0).tmod 24)) 6 3 0) := by
  refine Eq.trans (zY_step (by exact rfl) (by exact dX2_drawTrip_20) (by exact rfl) (pc' := 22) (S' := [zI 24, zI y0, zR (some 6)]) (by exact rfl) (zcn (by exact rfl))) ?_
  refine Eq.trans (zY_remc (by exact rfl) (by exact dX2_drawTrip_22) (c := 24) (by decide) (by decide) (zcn (by exact rfl))) ?_
  refine Eq.trans (zY_putI (by exact rfl) (by exact dX2_drawTrip_23) (by exact rfl) (by exact zCo_k zCo6) (by exact zCo_r1 zCo6) (by exact fun h => absurd h (by decide)) (zcn (by exact rfl))) ?_
  refine Eq.trans (zY_step (by exact rfl) (by exact dX2_drawTrip_26) (by exact rfl) (pc' := 27) (S' := [zR (some 0)]) (by exact rfl) (zcn (by exact rfl))) ?_
  refine Eq.trans (zY_getR (by exact rfl) (by exact dX2_drawTrip_27) (by exact rfl) (by exact rfl) (t := 6) (by exact rfl) (zcn (by exact rfl))) ?_
  refine Eq.trans (zY_step (by exact rfl) (by exact dX2_drawTrip_30) (by exact rfl) (pc' := 31) (S' := [zI 0, zR (some 6)]) (by exact rfl) (zcn (by exact rfl))) ?_
  refine Eq.trans (zY_putI (by exact rfl) (by exact dX2_drawTrip_31) (by exact rfl) (by exact zCo_k zCo6) (by exact zCo_r3 zCo6) (by exact fun h => absurd h (by decide)) (zcn (by exact rfl))) ?_
  refine Eq.trans (zY_step (by exact rfl) (by exact dX2_drawTrip_34) (by exact rfl) (pc' := 35) (S' := [zI 0]) (by exact rfl) (zcn (by exact rfl))) ?_
  exact zY_step (by exact rfl) (by exact dX2_drawTrip_35) (by exact rfl) (pc' := 36) (L' := [some (zR (some 0)), some (zI x1), some (zI x2), some (zI 0)]) (S' := []) (L2 := [some (zR (some 0)), none, some (zI x2), some (zI 0)]) (by exact rfl) (by exact rfl)
theorem b_X2_drawTrip_36 (d : Nat) (x2 x3 : Int) (σ : zS) : zq (d + 1) mX2_drawTrip 36 [some (zR (some 0)), none, some (zI x2), some (zI x3)] [] σ = (if nrm (σ 6 0) ≤ nrm x3 then some (some (zI x2), σ) else (zc d mX2_nextSeed [zI x2] σ).bind fun r => zq (d + 1) mX2_drawTrip 51 [some (zR (some 0)), none, some (zI x2), some (zI x3)] (r.1.toList ++ []) r.2) := by
  refine Eq.trans (zY_step (by exact rfl) (by exact dX2_drawTrip_36) (by exact rfl) (pc' := 37) (S' := [zI x3]) (by exact rfl) (zcn (by exact rfl))) ?_
  refine Eq.trans (zY_step (by exact rfl) (by exact dX2_drawTrip_37) (by exact rfl) (pc' := 38) (S' := [zR (some 0), zI x3]) (by exact rfl) (zcn (by exact rfl))) ?_
  refine Eq.trans (zY_getR (by exact rfl) (by exact dX2_drawTrip_38) (by exact rfl) (by exact rfl) (t := 6) (by exact rfl) (zcn (by exact rfl))) ?_
  refine Eq.trans (zY_getI (by exact rfl) (by exact dX2_drawTrip_41) (by exact rfl) (by exact zCo_k zCo6) (by exact zCo_r0 zCo6) (zcn (by exact rfl))) ?_
  refine Eq.trans (zY_ic_ge (by exact rfl) (by exact dX2_drawTrip_44) (t := 77) (by exact rfl) (a2 := nrm x3) (b2 := nrm (σ 6 0)) (by exact rfl) (by exact rfl) (zcn (by exact rfl)) (zcn (by exact rfl))) (zif ?_ ?_)
  · refine Eq.trans (zY_step (by exact rfl) (by exact dX2_drawTrip_77) (by exact rfl) (pc' := 78) (S' := [zI x2]) (by exact rfl) (zcn (by exact rfl))) ?_
    exact zq_ret (by exact dX2_drawTrip_78) (by exact rfl) (rv := some (zI x2)) (by exact rfl)
  · refine Eq.trans (zY_step (by exact rfl) (by exact dX2_drawTrip_47) (by exact rfl) (pc' := 48) (S' := [zI x2]) (by exact rfl) (zcn (by exact rfl))) ?_
    exact zY_S (by exact rfl) (by exact dX2_drawTrip_48) (by exact rfl) (by exact Or.inl rfl) (as := [zI x2]) (S' := []) (by exact rfl) (by exact rfl) (by exact Nat.le_of_ble_eq_true rfl) (by exact Nat.le_of_ble_eq_true rfl) (zcn (by exact rfl))
theorem b_X2_drawTrip_51 (d : Nat) (y0 x2 x3 : Int) (σ : zS) : zq (d + 1) mX2_drawTrip 51 [some (zR (some 0)), none, some (zI x2), some (zI x3)] [zI y0] σ = (zc d mX2_drawn [zI y0] σ).bind fun r => zq (d + 1) mX2_drawTrip 56 [some (zR (some 0)), none, some (zI y0), some (zI x3)] (r.1.toList ++ []) r.2 := by
  refine Eq.trans (zY_step (by exact rfl) (by exact dX2_drawTrip_51) (by exact rfl) (pc' := 52) (L' := [some (zR (some 0)), none, some (zI y0), some (zI x3)]) (S' := []) (by exact rfl) (zcn (by exact rfl))) ?_
  refine Eq.trans (zY_step (by exact rfl) (by exact dX2_drawTrip_52) (by exact rfl) (pc' := 53) (S' := [zI y0]) (by exact rfl) (zcn (by exact rfl))) ?_
  exact zY_S (by exact rfl) (by exact dX2_drawTrip_53) (by exact rfl) (by exact Or.inl rfl) (as := [zI y0]) (S' := []) (by exact rfl) (by exact rfl) (by exact Nat.le_of_ble_eq_true rfl) (by exact Nat.le_of_ble_eq_true rfl) (zcn (by exact rfl))
theorem b_X2_drawTrip_56 (d : Nat) (y0 x2 x3 : Int) (σ : zS) : zq (d + 1) mX2_drawTrip 56 [some (zR (some 0)), none, some (zI x2), some (zI x3)] [zI y0] σ = (if ¬ nrm ((nrm y0).tmod 5) = 0 then zq (d + 1) mX2_drawTrip 71 [some (zR (some 0)), none, some (zI x2), some (zI x3)] [] σ else (zc d mX0_block [zR (some 6), zI (zshl 1 x3)] σ).bind fun r => zq (d + 1) mX2_drawTrip 71 [some (zR (some 0)), none, some (zI x2), some (zI x3)] (r.1.toList ++ []) r.2) := by
  refine Eq.trans (zY_step (by exact rfl) (by exact dX2_drawTrip_56) (by exact rfl) (pc' := 57) (S' := [zI 5, zI y0]) (by exact rfl) (zcn (by exact rfl))) ?_
  refine Eq.trans (zY_remc (by exact rfl) (by exact dX2_drawTrip_57) (c := 5) (by decide) (by decide) (zcn (by exact rfl))) ?_
  refine Eq.trans (zY_if_ne (by exact rfl) (by exact dX2_drawTrip_58) (t := 71) (by exact rfl) (a2 := nrm ((nrm y0).tmod 5)) (by exact rfl) (zcn (by exact rfl)) (zcn (by exact rfl))) (zif ?_ ?_)
  · exact rfl
  · refine Eq.trans (zY_step (by exact rfl) (by exact dX2_drawTrip_61) (by exact rfl) (pc' := 62) (S' := [zR (some 0)]) (by exact rfl) (zcn (by exact rfl))) ?_
    refine Eq.trans (zY_getR (by exact rfl) (by exact dX2_drawTrip_62) (by exact rfl) (by exact rfl) (t := 6) (by exact rfl) (zcn (by exact rfl))) ?_
    refine Eq.trans (zY_step (by exact rfl) (by exact dX2_drawTrip_65) (by exact rfl) (pc' := 66) (S' := [zI 1, zR (some 6)]) (by exact rfl) (zcn (by exact rfl))) ?_
    refine Eq.trans (zY_step (by exact rfl) (by exact dX2_drawTrip_66) (by exact rfl) (pc' := 67) (S' := [zI x3, zI 1, zR (some 6)]) (by exact rfl) (zcn (by exact rfl))) ?_
    refine Eq.trans (zY_step (by exact rfl) (by exact dX2_drawTrip_67) (by exact rfl) (pc' := 68) (S' := [zI (zshl 1 x3), zR (some 6)]) (by exact rfl) (zcn (by exact rfl))) ?_
    exact zY_V (by exact rfl) (by exact dX2_drawTrip_68) (by exact rfl) (as := [zI (zshl 1 x3)]) (S' := []) (by exact rfl) (by exact rfl) (by exact zCo_k zCo6) (by exact Nat.le_of_ble_eq_true rfl) (by exact Nat.le_of_ble_eq_true rfl) (by exact Nat.le_of_ble_eq_true rfl) (zcn (by exact rfl))
theorem b_X2_drawTrip_71 (d : Nat) (x2 x3 : Int) (σ : zS) : zq d mX2_drawTrip 71 [some (zR (some 0)), none, some (zI x2), some (zI x3)] [] σ = zq d mX2_drawTrip 36 [some (zR (some 0)), none, some (zI x2), some (zI (x3 + 1))] [] σ := by
  refine Eq.trans (zY_step (by exact rfl) (by exact dX2_drawTrip_71) (by exact rfl) (pc' := 74) (L' := [some (zR (some 0)), none, some (zI x2), some (zI (x3 + 1))]) (S' := []) (by exact rfl) (zcn (by exact rfl))) ?_
  exact zY_step (by exact rfl) (by exact dX2_drawTrip_74) (by exact rfl) (pc' := 36) (S' := []) (L2 := [some (zR (some 0)), none, some (zI x2), some (zI (x3 + 1))]) (by exact rfl) (by exact rfl)
theorem e_X2_nextSeed (d : Nat) (x0 : Int) (σ : zS) : zc d mX2_nextSeed [zI x0] σ = some (some (zI ((x0 * 1103515245) + 12345)), σ) := by
  refine Eq.trans (zc_zq (L := [some (zI x0)]) (by exact rfl)) ?_
  refine Eq.trans (zY_step (by exact rfl) (by exact dX2_nextSeed_0) (by exact rfl) (pc' := 1) (S' := [zI x0]) (by exact rfl) (zcn (by exact rfl))) ?_
  refine Eq.trans (zY_step (by exact rfl) (by exact dX2_nextSeed_1) (by exact rfl) (pc' := 4) (S' := [zI 1103515245, zI x0]) (by exact rfl) (zcn (by exact rfl))) ?_
  refine Eq.trans (zY_step (by exact rfl) (by exact dX2_nextSeed_4) (by exact rfl) (pc' := 5) (S' := [zI (x0 * 1103515245)]) (by exact rfl) (zcn (by exact rfl))) ?_
  refine Eq.trans (zY_step (by exact rfl) (by exact dX2_nextSeed_5) (by exact rfl) (pc' := 8) (S' := [zI 12345, zI (x0 * 1103515245)]) (by exact rfl) (zcn (by exact rfl))) ?_
  refine Eq.trans (zY_step (by exact rfl) (by exact dX2_nextSeed_8) (by exact rfl) (pc' := 9) (S' := [zI ((x0 * 1103515245) + 12345)]) (by exact rfl) (zcn (by exact rfl))) ?_
  exact zq_ret (by exact dX2_nextSeed_9) (by exact rfl) (rv := some (zI ((x0 * 1103515245) + 12345))) (by exact rfl)
theorem e_X2_drawn (d : Nat) (x0 : Int) (σ : zS) : zc d mX2_drawn [zI x0] σ = some (some (zI ((nrm (zand x0 2147483647)).tdiv 65536)), σ) := by
  refine Eq.trans (zc_zq (L := [some (zI x0)]) (by exact rfl)) ?_
  refine Eq.trans (zY_step (by exact rfl) (by exact dX2_drawn_0) (by exact rfl) (pc' := 1) (S' := [zI x0]) (by exact rfl) (zcn (by exact rfl))) ?_
  refine Eq.trans (zY_step (by exact rfl) (by exact dX2_drawn_1) (by exact rfl) (pc' := 4) (S' := [zI 2147483647, zI x0]) (by exact rfl) (zcn (by exact rfl))) ?_
  refine Eq.trans (zY_step (by exact rfl) (by exact dX2_drawn_4) (by exact rfl) (pc' := 5) (S' := [zI (zand x0 2147483647)]) (by exact rfl) (zcn (by exact rfl))) ?_
  refine Eq.trans (zY_step (by exact rfl) (by exact dX2_drawn_5) (by exact rfl) (pc' := 8) (S' := [zI 65536, zI (zand x0 2147483647)]) (by exact rfl) (zcn (by exact rfl))) ?_
  refine Eq.trans (zY_divc (by exact rfl) (by exact dX2_drawn_8) (c := 65536) (by decide) (by decide) (zcn (by exact rfl))) ?_
  exact zq_ret (by exact dX2_drawn_9) (by exact rfl) (rv := some (zI ((nrm (zand x0 2147483647)).tdiv 65536))) (by exact rfl)
theorem e_X2_lowestBits (d : Nat) (x0 x1 : Int) (σ : zS) : zc d mX2_lowestBits [zI x0, zI x1] σ = (if 0 = nrm x0 then some (some (zI (zi2b x1)), σ) else (if 1 = nrm x0 then some (some (zI (zi2s x1)), σ) else some (some (zI x1), σ))) := by
  refine Eq.trans (zc_zq (L := [some (zI x0), some (zI x1)]) (by exact rfl)) ?_
  refine Eq.trans (zY_step (by exact rfl) (by exact dX2_lowestBits_0) (by exact rfl) (pc' := 1) (S' := [zI x0]) (by exact rfl) (zcn (by exact rfl))) ?_
  refine Eq.trans (zY_lsw (by exact rfl) (by exact dX2_lowestBits_1) (by exact rfl) (dt := 34) (by exact rfl) (ts := [(0, 28), (1, 31)]) (by exact rfl)) ?_
  refine zif ?_ (zif ?_ (?_))
  · refine Eq.trans (zY_at (L2 := [some (zI x0), some (zI x1)]) (zcn (by exact rfl))) ?_
    refine Eq.trans (zY_step (by exact rfl) (by exact dX2_lowestBits_28) (by exact rfl) (pc' := 29) (S' := [zI x1]) (by exact rfl) (zcn (by exact rfl))) ?_
    refine Eq.trans (zY_step (by exact rfl) (by exact dX2_lowestBits_29) (by exact rfl) (pc' := 30) (S' := [zI (zi2b x1)]) (by exact rfl) (zcn (by exact rfl))) ?_
    exact zq_ret (by exact dX2_lowestBits_30) (by exact rfl) (rv := some (zI (zi2b x1))) (by exact rfl)
  · refine Eq.trans (zY_at (L2 := [some (zI x0), some (zI x1)]) (zcn (by exact rfl))) ?_
    refine Eq.trans (zY_step (by exact rfl) (by exact dX2_lowestBits_31) (by exact rfl) (pc' := 32) (S' := [zI x1]) (by exact rfl) (zcn (by exact rfl))) ?_
    refine Eq.trans (zY_step (by exact rfl) (by exact dX2_lowestBits_32) (by exact rfl) (pc' := 33) (S' := [zI (zi2s x1)]) (by exact rfl) (zcn (by exact rfl))) ?_
    exact zq_ret (by exact dX2_lowestBits_33) (by exact rfl) (rv := some (zI (zi2s x1))) (by exact rfl)
  · refine Eq.trans (zY_at (L2 := [some (zI x0), some (zI x1)]) (zcn (by exact rfl))) ?_
    refine Eq.trans (zY_step (by exact rfl) (by exact dX2_lowestBits_34) (by exact rfl) (pc' := 35) (S' := [zI x1]) (by exact rfl) (zcn (by exact rfl))) ?_
    exact zq_ret (by exact dX2_lowestBits_35) (by exact rfl) (rv := some (zI x1)) (by exact rfl)
theorem e_X2_leastOf (d : Nat) (x0 : Int) (σ : zS) : zc d mX2_leastOf [zI x0] σ = (if 0 = nrm x0 then some (some (zI ((-128))), σ) else (if 1 = nrm x0 then some (some (zI ((-32768))), σ) else some (some (zI ((-2147483648))), σ))) := by
  refine Eq.trans (zc_zq (L := [some (zI x0)]) (by exact rfl)) ?_
  refine Eq.trans (zY_step (by exact rfl) (by exact dX2_leastOf_0) (by exact rfl) (pc' := 1) (S' := [zI x0]) (by exact rfl) (zcn (by exact rfl))) ?_
  refine Eq.trans (zY_lsw (by exact rfl) (by exact dX2_leastOf_1) (by exact rfl) (dt := 35) (by exact rfl) (ts := [(0, 28), (1, 31)]) (by exact rfl)) ?_
  refine zif ?_ (zif ?_ (?_))
  · refine Eq.trans (zY_at (L2 := [some (zI x0)]) (zcn (by exact rfl))) ?_
    refine Eq.trans (zY_step (by exact rfl) (by exact dX2_leastOf_28) (by exact rfl) (pc' := 30) (S' := [zI ((-128))]) (by exact rfl) (zcn (by exact rfl))) ?_
    exact zq_ret (by exact dX2_leastOf_30) (by exact rfl) (rv := some (zI ((-128)))) (by exact rfl)
  · refine Eq.trans (zY_at (L2 := [some (zI x0)]) (zcn (by exact rfl))) ?_
    refine Eq.trans (zY_step (by exact rfl) (by exact dX2_leastOf_31) (by exact rfl) (pc' := 34) (S' := [zI ((-32768))]) (by exact rfl) (zcn (by exact rfl))) ?_
    exact zq_ret (by exact dX2_leastOf_34) (by exact rfl) (rv := some (zI ((-32768)))) (by exact rfl)
  · refine Eq.trans (zY_at (L2 := [some (zI x0)]) (zcn (by exact rfl))) ?_
    refine Eq.trans (zY_step (by exact rfl) (by exact dX2_leastOf_35) (by exact rfl) (pc' := 38) (S' := [zI ((-2147483648))]) (by exact rfl) (zcn (by exact rfl))) ?_
    exact zq_ret (by exact dX2_leastOf_38) (by exact rfl) (rv := some (zI ((-2147483648)))) (by exact rfl)
theorem e_X2_kneesOf (d : Nat) (x0 x1 : Int) (σ : zS) : zc d mX2_kneesOf [zI x0, zI x1] σ = (if nrm x0 = 2 then some (some (zI (6 + ((nrm x1).tdiv 3))), σ) else (if nrm x0 = 3 then some (some (zI 1), σ) else (if nrm x0 = 4 then some (some (zI 2), σ) else (if nrm x0 = 5 then some (some (zI 2), σ) else (if nrm x0 = 6 then some (some (zI 0), σ) else (if nrm x0 = 7 then some (some (zI (7 + ((nrm x1).tdiv 3))), σ) else some (some (zI 2), σ))))))) := by
  refine Eq.trans (zc_zq (L := [some (zI x0), some (zI x1)]) (by exact rfl)) ?_
  refine Eq.trans (zY_step (by exact rfl) (by exact dX2_kneesOf_0) (by exact rfl) (pc' := 1) (S' := [zI x0]) (by exact rfl) (zcn (by exact rfl))) ?_
  refine Eq.trans (zY_tsw (by exact rfl) (by exact dX2_kneesOf_1) (by exact rfl) (dt := 58) (by exact rfl) (ts := [(2, 40), (3, 54), (4, 58), (5, 58), (6, 56), (7, 47)]) (by exact rfl)) ?_
  refine zif ?_ (zif ?_ (zif ?_ (zif ?_ (zif ?_ (zif ?_ (?_))))))
  · refine Eq.trans (zY_at (L2 := [some (zI x0), some (zI x1)]) (zcn (by exact rfl))) ?_
    refine Eq.trans (zY_step (by exact rfl) (by exact dX2_kneesOf_40) (by exact rfl) (pc' := 42) (S' := [zI 6]) (by exact rfl) (zcn (by exact rfl))) ?_
    refine Eq.trans (zY_step (by exact rfl) (by exact dX2_kneesOf_42) (by exact rfl) (pc' := 43) (S' := [zI x1, zI 6]) (by exact rfl) (zcn (by exact rfl))) ?_
    refine Eq.trans (zY_step (by exact rfl) (by exact dX2_kneesOf_43) (by exact rfl) (pc' := 44) (S' := [zI 3, zI x1, zI 6]) (by exact rfl) (zcn (by exact rfl))) ?_
    refine Eq.trans (zY_divc (by exact rfl) (by exact dX2_kneesOf_44) (c := 3) (by decide) (by decide) (zcn (by exact rfl))) ?_
    refine Eq.trans (zY_step (by exact rfl) (by exact dX2_kneesOf_45) (by exact rfl) (pc' := 46) (S' := [zI (6 + ((nrm x1).tdiv 3))]) (by exact rfl) (zcn (by exact rfl))) ?_
    exact zq_ret (by exact dX2_kneesOf_46) (by exact rfl) (rv := some (zI (6 + ((nrm x1).tdiv 3)))) (by exact rfl)
  · refine Eq.trans (zY_at (L2 := [some (zI x0), some (zI x1)]) (zcn (by exact rfl))) ?_
    refine Eq.trans (zY_step (by exact rfl) (by exact dX2_kneesOf_54) (by exact rfl) (pc' := 55) (S' := [zI 1]) (by exact rfl) (zcn (by exact rfl))) ?_
    exact zq_ret (by exact dX2_kneesOf_55) (by exact rfl) (rv := some (zI 1)) (by exact rfl)
  · refine Eq.trans (zY_at (L2 := [none, none]) (by exact rfl)) ?_
    refine Eq.trans (zY_step (by exact rfl) (by exact dX2_kneesOf_58) (by exact rfl) (pc' := 59) (S' := [zI 2]) (by exact rfl) (zcn (by exact rfl))) ?_
    exact zq_ret (by exact dX2_kneesOf_59) (by exact rfl) (rv := some (zI 2)) (by exact rfl)
  · refine Eq.trans (zY_at (L2 := [none, none]) (by exact rfl)) ?_
    refine Eq.trans (zY_step (by exact rfl) (by exact dX2_kneesOf_58) (by exact rfl) (pc' := 59) (S' := [zI 2]) (by exact rfl) (zcn (by exact rfl))) ?_
    exact zq_ret (by exact dX2_kneesOf_59) (by exact rfl) (rv := some (zI 2)) (by exact rfl)
  · refine Eq.trans (zY_at (L2 := [some (zI x0), some (zI x1)]) (zcn (by exact rfl))) ?_
    refine Eq.trans (zY_step (by exact rfl) (by exact dX2_kneesOf_56) (by exact rfl) (pc' := 57) (S' := [zI 0]) (by exact rfl) (zcn (by exact rfl))) ?_
    exact zq_ret (by exact dX2_kneesOf_57) (by exact rfl) (rv := some (zI 0)) (by exact rfl)
  · refine Eq.trans (zY_at (L2 := [some (zI x0), some (zI x1)]) (zcn (by exact rfl))) ?_
    refine Eq.trans (zY_step (by exact rfl) (by exact dX2_kneesOf_47) (by exact rfl) (pc' := 49) (S' := [zI 7]) (by exact rfl) (zcn (by exact rfl))) ?_
    refine Eq.trans (zY_step (by exact rfl) (by exact dX2_kneesOf_49) (by exact rfl) (pc' := 50) (S' := [zI x1, zI 7]) (by exact rfl) (zcn (by exact rfl))) ?_
    refine Eq.trans (zY_step (by exact rfl) (by exact dX2_kneesOf_50) (by exact rfl) (pc' := 51) (S' := [zI 3, zI x1, zI 7]) (by exact rfl) (zcn (by exact rfl))) ?_
    refine Eq.trans (zY_divc (by exact rfl) (by exact dX2_kneesOf_51) (c := 3) (by decide) (by decide) (zcn (by exact rfl))) ?_
    refine Eq.trans (zY_step (by exact rfl) (by exact dX2_kneesOf_52) (by exact rfl) (pc' := 53) (S' := [zI (7 + ((nrm x1).tdiv 3))]) (by exact rfl) (zcn (by exact rfl))) ?_
    exact zq_ret (by exact dX2_kneesOf_53) (by exact rfl) (rv := some (zI (7 + ((nrm x1).tdiv 3)))) (by exact rfl)
  · refine Eq.trans (zY_at (L2 := [none, none]) (by exact rfl)) ?_
    refine Eq.trans (zY_step (by exact rfl) (by exact dX2_kneesOf_58) (by exact rfl) (pc' := 59) (S' := [zI 2]) (by exact rfl) (zcn (by exact rfl))) ?_
    exact zq_ret (by exact dX2_kneesOf_59) (by exact rfl) (rv := some (zI 2)) (by exact rfl)
theorem e_X2_wantOf (d : Nat) (x0 x1 x2 x3 : Int) (σ : zS) : zc (d + 1) mX2_wantOf [zI x0, zI x1, zI x2, zI x3] σ = (if nrm x0 = 1 then (if nrm x3 = 0 then some (some (zI x2), σ) else some (some (zI 10), σ)) else (if nrm x0 = 2 then some (some (zI (x2 + 2)), σ) else (if nrm x0 = 3 then some (some (zI x1), σ) else (if nrm x0 = 4 then some (some (zI ((nrm x2).tdiv 2)), σ) else (if nrm x0 = 5 then some (some (zI (if nrm (((nrm x2).tdiv 2) - 1) < nrm 0 then 0 else ((nrm x2).tdiv 2) - 1)), σ) else (if nrm x0 = 6 then some (some (zI 0), σ) else (if nrm x0 = 7 then some (some (zI 0), σ) else some (some (zI x2), σ)))))))) := by
  refine Eq.trans (zc_zq (L := [some (zI x0), some (zI x1), some (zI x2), some (zI x3)]) (by exact rfl)) ?_
  refine Eq.trans (zY_step (by exact rfl) (by exact dX2_wantOf_0) (by exact rfl) (pc' := 1) (S' := [zI x0]) (by exact rfl) (zcn (by exact rfl))) ?_
  refine Eq.trans (zY_tsw (by exact rfl) (by exact dX2_wantOf_1) (by exact rfl) (dt := 77) (by exact rfl) (ts := [(1, 44), (2, 55), (3, 59), (4, 61), (5, 65), (6, 75), (7, 75)]) (by exact rfl)) ?_
  refine zif ?_ (zif ?_ (zif ?_ (zif ?_ (zif ?_ (zif ?_ (zif ?_ (?_)))))))
  · refine Eq.trans (zY_at (L2 := [some (zI x0), some (zI x1), some (zI x2), some (zI x3)]) (zcn (by exact rfl))) ?_
    refine Eq.trans (zY_step (by exact rfl) (by exact dX2_wantOf_44) (by exact rfl) (pc' := 45) (S' := [zI x3]) (by exact rfl) (zcn (by exact rfl))) ?_
    refine Eq.trans (zY_if_eq (by exact rfl) (by exact dX2_wantOf_45) (t := 53) (by exact rfl) (a2 := nrm x3) (by exact rfl) (zcn (by exact rfl)) (zcn (by exact rfl))) (zif ?_ ?_)
    · refine Eq.trans (zY_step (by exact rfl) (by exact dX2_wantOf_53) (by exact rfl) (pc' := 54) (S' := [zI x2]) (L2 := [none, none, none, none]) (by exact rfl) (by exact rfl)) ?_
      exact zq_ret (by exact dX2_wantOf_54) (by exact rfl) (rv := some (zI x2)) (by exact rfl)
    · refine Eq.trans (zY_step (by exact rfl) (by exact dX2_wantOf_48) (by exact rfl) (pc' := 50) (S' := [zI 10]) (by exact rfl) (zcn (by exact rfl))) ?_
      refine Eq.trans (zY_step (by exact rfl) (by exact dX2_wantOf_50) (by exact rfl) (pc' := 54) (S' := [zI 10]) (L2 := [none, none, none, none]) (by exact rfl) (by exact rfl)) ?_
      exact zq_ret (by exact dX2_wantOf_54) (by exact rfl) (rv := some (zI 10)) (by exact rfl)
  · refine Eq.trans (zY_at (L2 := [some (zI x0), some (zI x1), some (zI x2), some (zI x3)]) (zcn (by exact rfl))) ?_
    refine Eq.trans (zY_step (by exact rfl) (by exact dX2_wantOf_55) (by exact rfl) (pc' := 56) (S' := [zI x2]) (by exact rfl) (zcn (by exact rfl))) ?_
    refine Eq.trans (zY_step (by exact rfl) (by exact dX2_wantOf_56) (by exact rfl) (pc' := 57) (S' := [zI 2, zI x2]) (by exact rfl) (zcn (by exact rfl))) ?_
    refine Eq.trans (zY_step (by exact rfl) (by exact dX2_wantOf_57) (by exact rfl) (pc' := 58) (S' := [zI (x2 + 2)]) (by exact rfl) (zcn (by exact rfl))) ?_
    exact zq_ret (by exact dX2_wantOf_58) (by exact rfl) (rv := some (zI (x2 + 2))) (by exact rfl)
  · refine Eq.trans (zY_at (L2 := [some (zI x0), some (zI x1), some (zI x2), some (zI x3)]) (zcn (by exact rfl))) ?_
    refine Eq.trans (zY_step (by exact rfl) (by exact dX2_wantOf_59) (by exact rfl) (pc' := 60) (S' := [zI x1]) (by exact rfl) (zcn (by exact rfl))) ?_
    exact zq_ret (by exact dX2_wantOf_60) (by exact rfl) (rv := some (zI x1)) (by exact rfl)
  · refine Eq.trans (zY_at (L2 := [some (zI x0), some (zI x1), some (zI x2), some (zI x3)]) (zcn (by exact rfl))) ?_
    refine Eq.trans (zY_step (by exact rfl) (by exact dX2_wantOf_61) (by exact rfl) (pc' := 62) (S' := [zI x2]) (by exact rfl) (zcn (by exact rfl))) ?_
    refine Eq.trans (zY_step (by exact rfl) (by exact dX2_wantOf_62) (by exact rfl) (pc' := 63) (S' := [zI 2, zI x2]) (by exact rfl) (zcn (by exact rfl))) ?_
    refine Eq.trans (zY_divc (by exact rfl) (by exact dX2_wantOf_63) (c := 2) (by decide) (by decide) (zcn (by exact rfl))) ?_
    exact zq_ret (by exact dX2_wantOf_64) (by exact rfl) (rv := some (zI ((nrm x2).tdiv 2))) (by exact rfl)
  · refine Eq.trans (zY_at (L2 := [some (zI x0), some (zI x1), some (zI x2), some (zI x3)]) (zcn (by exact rfl))) ?_
    refine Eq.trans (zY_step (by exact rfl) (by exact dX2_wantOf_65) (by exact rfl) (pc' := 66) (S' := [zI x2]) (by exact rfl) (zcn (by exact rfl))) ?_
    refine Eq.trans (zY_step (by exact rfl) (by exact dX2_wantOf_66) (by exact rfl) (pc' := 67) (S' := [zI 2, zI x2]) (by exact rfl) (zcn (by exact rfl))) ?_
    refine Eq.trans (zY_divc (by exact rfl) (by exact dX2_wantOf_67) (c := 2) (by decide) (by decide) (zcn (by exact rfl))) ?_
    refine Eq.trans (zY_step (by exact rfl) (by exact dX2_wantOf_68) (by exact rfl) (pc' := 69) (S' := [zI 1, zI ((nrm x2).tdiv 2)]) (by exact rfl) (zcn (by exact rfl))) ?_
    refine Eq.trans (zY_step (by exact rfl) (by exact dX2_wantOf_69) (by exact rfl) (pc' := 70) (S' := [zI (((nrm x2).tdiv 2) - 1)]) (by exact rfl) (zcn (by exact rfl))) ?_
    refine Eq.trans (zY_step (by exact rfl) (by exact dX2_wantOf_70) (by exact rfl) (pc' := 71) (S' := [zI 0, zI (((nrm x2).tdiv 2) - 1)]) (by exact rfl) (zcn (by exact rfl))) ?_
    refine Eq.trans (zY_max (by exact rfl) (by exact dX2_wantOf_71) (by exact rfl) (by exact Nat.le_of_ble_eq_true rfl) (zcn (by exact rfl))) ?_
    exact zq_ret (by exact dX2_wantOf_74) (by exact rfl) (rv := some (zI (if nrm (((nrm x2).tdiv 2) - 1) < nrm 0 then 0 else ((nrm x2).tdiv 2) - 1))) (by exact rfl)
  · refine Eq.trans (zY_at (L2 := [none, none, none, none]) (by exact rfl)) ?_
    refine Eq.trans (zY_step (by exact rfl) (by exact dX2_wantOf_75) (by exact rfl) (pc' := 76) (S' := [zI 0]) (by exact rfl) (zcn (by exact rfl))) ?_
    exact zq_ret (by exact dX2_wantOf_76) (by exact rfl) (rv := some (zI 0)) (by exact rfl)
  · refine Eq.trans (zY_at (L2 := [none, none, none, none]) (by exact rfl)) ?_
    refine Eq.trans (zY_step (by exact rfl) (by exact dX2_wantOf_75) (by exact rfl) (pc' := 76) (S' := [zI 0]) (by exact rfl) (zcn (by exact rfl))) ?_
    exact zq_ret (by exact dX2_wantOf_76) (by exact rfl) (rv := some (zI 0)) (by exact rfl)
  · refine Eq.trans (zY_at (L2 := [some (zI x0), some (zI x1), some (zI x2), some (zI x3)]) (zcn (by exact rfl))) ?_
    refine Eq.trans (zY_step (by exact rfl) (by exact dX2_wantOf_77) (by exact rfl) (pc' := 78) (S' := [zI x2]) (by exact rfl) (zcn (by exact rfl))) ?_
    exact zq_ret (by exact dX2_wantOf_78) (by exact rfl) (rv := some (zI x2)) (by exact rfl)
theorem e_X2_worthOf (d : Nat) (x0 x1 x2 : Int) (σ : zS) : zc d mX2_worthOf [zI x0, zI x1, zI x2] σ = (if nrm x0 = 1 then (if nrm x2 = 0 then some (some (zI 1), σ) else some (some (zI 3), σ)) else (if nrm x0 = 2 then some (some (zI (((nrm x1).tdiv 2) + 1)), σ) else (if nrm x0 = 3 then some (some (zI 0), σ) else (if nrm x0 = 4 then some (some (zI 1), σ) else (if nrm x0 = 5 then some (some (zI 1), σ) else (if nrm x0 = 6 then some (some (zI 0), σ) else (if nrm x0 = 7 then some (some (zI ((nrm x1).tdiv 2)), σ) else some (some (zI 1), σ)))))))) := by
  refine Eq.trans (zc_zq (L := [some (zI x0), some (zI x1), some (zI x2)]) (by exact rfl)) ?_
  refine Eq.trans (zY_step (by exact rfl) (by exact dX2_worthOf_0) (by exact rfl) (pc' := 1) (S' := [zI x0]) (by exact rfl) (zcn (by exact rfl))) ?_
  refine Eq.trans (zY_tsw (by exact rfl) (by exact dX2_worthOf_1) (by exact rfl) (dt := 66) (by exact rfl) (ts := [(1, 44), (2, 54), (3, 64), (4, 66), (5, 66), (6, 64), (7, 60)]) (by exact rfl)) ?_
  refine zif ?_ (zif ?_ (zif ?_ (zif ?_ (zif ?_ (zif ?_ (zif ?_ (?_)))))))
  · refine Eq.trans (zY_at (L2 := [some (zI x0), some (zI x1), some (zI x2)]) (zcn (by exact rfl))) ?_
    refine Eq.trans (zY_step (by exact rfl) (by exact dX2_worthOf_44) (by exact rfl) (pc' := 45) (S' := [zI x2]) (by exact rfl) (zcn (by exact rfl))) ?_
    refine Eq.trans (zY_if_eq (by exact rfl) (by exact dX2_worthOf_45) (t := 52) (by exact rfl) (a2 := nrm x2) (by exact rfl) (zcn (by exact rfl)) (zcn (by exact rfl))) (zif ?_ ?_)
    · refine Eq.trans (zY_step (by exact rfl) (by exact dX2_worthOf_52) (by exact rfl) (pc' := 53) (S' := [zI 1]) (L2 := [none, none, none]) (by exact rfl) (by exact rfl)) ?_
      exact zq_ret (by exact dX2_worthOf_53) (by exact rfl) (rv := some (zI 1)) (by exact rfl)
    · refine Eq.trans (zY_step (by exact rfl) (by exact dX2_worthOf_48) (by exact rfl) (pc' := 49) (S' := [zI 3]) (by exact rfl) (zcn (by exact rfl))) ?_
      refine Eq.trans (zY_step (by exact rfl) (by exact dX2_worthOf_49) (by exact rfl) (pc' := 53) (S' := [zI 3]) (L2 := [none, none, none]) (by exact rfl) (by exact rfl)) ?_
      exact zq_ret (by exact dX2_worthOf_53) (by exact rfl) (rv := some (zI 3)) (by exact rfl)
  · refine Eq.trans (zY_at (L2 := [some (zI x0), some (zI x1), some (zI x2)]) (zcn (by exact rfl))) ?_
    refine Eq.trans (zY_step (by exact rfl) (by exact dX2_worthOf_54) (by exact rfl) (pc' := 55) (S' := [zI x1]) (by exact rfl) (zcn (by exact rfl))) ?_
    refine Eq.trans (zY_step (by exact rfl) (by exact dX2_worthOf_55) (by exact rfl) (pc' := 56) (S' := [zI 2, zI x1]) (by exact rfl) (zcn (by exact rfl))) ?_
    refine Eq.trans (zY_divc (by exact rfl) (by exact dX2_worthOf_56) (c := 2) (by decide) (by decide) (zcn (by exact rfl))) ?_
    refine Eq.trans (zY_step (by exact rfl) (by exact dX2_worthOf_57) (by exact rfl) (pc' := 58) (S' := [zI 1, zI ((nrm x1).tdiv 2)]) (by exact rfl) (zcn (by exact rfl))) ?_
    refine Eq.trans (zY_step (by exact rfl) (by exact dX2_worthOf_58) (by exact rfl) (pc' := 59) (S' := [zI (((nrm x1).tdiv 2) + 1)]) (by exact rfl) (zcn (by exact rfl))) ?_
    exact zq_ret (by exact dX2_worthOf_59) (by exact rfl) (rv := some (zI (((nrm x1).tdiv 2) + 1))) (by exact rfl)
  · refine Eq.trans (zY_at (L2 := [none, none, none]) (by exact rfl)) ?_
    refine Eq.trans (zY_step (by exact rfl) (by exact dX2_worthOf_64) (by exact rfl) (pc' := 65) (S' := [zI 0]) (by exact rfl) (zcn (by exact rfl))) ?_
    exact zq_ret (by exact dX2_worthOf_65) (by exact rfl) (rv := some (zI 0)) (by exact rfl)
  · refine Eq.trans (zY_at (L2 := [none, none, none]) (by exact rfl)) ?_
    refine Eq.trans (zY_step (by exact rfl) (by exact dX2_worthOf_66) (by exact rfl) (pc' := 67) (S' := [zI 1]) (by exact rfl) (zcn (by exact rfl))) ?_
    exact zq_ret (by exact dX2_worthOf_67) (by exact rfl) (rv := some (zI 1)) (by exact rfl)
  · refine Eq.trans (zY_at (L2 := [none, none, none]) (by exact rfl)) ?_
    refine Eq.trans (zY_step (by exact rfl) (by exact dX2_worthOf_66) (by exact rfl) (pc' := 67) (S' := [zI 1]) (by exact rfl) (zcn (by exact rfl))) ?_
    exact zq_ret (by exact dX2_worthOf_67) (by exact rfl) (rv := some (zI 1)) (by exact rfl)
  · refine Eq.trans (zY_at (L2 := [none, none, none]) (by exact rfl)) ?_
    refine Eq.trans (zY_step (by exact rfl) (by exact dX2_worthOf_64) (by exact rfl) (pc' := 65) (S' := [zI 0]) (by exact rfl) (zcn (by exact rfl))) ?_
    exact zq_ret (by exact dX2_worthOf_65) (by exact rfl) (rv := some (zI 0)) (by exact rfl)
  · refine Eq.trans (zY_at (L2 := [some (zI x0), some (zI x1), some (zI x2)]) (zcn (by exact rfl))) ?_
    refine Eq.trans (zY_step (by exact rfl) (by exact dX2_worthOf_60) (by exact rfl) (pc' := 61) (S' := [zI x1]) (by exact rfl) (zcn (by exact rfl))) ?_
    refine Eq.trans (zY_step (by exact rfl) (by exact dX2_worthOf_61) (by exact rfl) (pc' := 62) (S' := [zI 2, zI x1]) (by exact rfl) (zcn (by exact rfl))) ?_
    refine Eq.trans (zY_divc (by exact rfl) (by exact dX2_worthOf_62) (c := 2) (by decide) (by decide) (zcn (by exact rfl))) ?_
    exact zq_ret (by exact dX2_worthOf_63) (by exact rfl) (rv := some (zI ((nrm x1).tdiv 2))) (by exact rfl)
  · refine Eq.trans (zY_at (L2 := [none, none, none]) (by exact rfl)) ?_
    refine Eq.trans (zY_step (by exact rfl) (by exact dX2_worthOf_66) (by exact rfl) (pc' := 67) (S' := [zI 1]) (by exact rfl) (zcn (by exact rfl))) ?_
    exact zq_ret (by exact dX2_worthOf_67) (by exact rfl) (rv := some (zI 1)) (by exact rfl)
theorem e_X2_costOf (d : Nat) (x0 x1 : Int) (σ : zS) : zc d mX2_costOf [zI x0, zI x1] σ = (if nrm x0 = 1 then some (some (zI (3 + x1)), σ) else (if nrm x0 = 2 then some (some (zI 5), σ) else (if nrm x0 = 3 then some (some (zI 1), σ) else (if nrm x0 = 4 then some (some (zI 1), σ) else (if nrm x0 = 5 then some (some (zI 7), σ) else (if nrm x0 = 6 then some (some (zI (1 + x1)), σ) else (if nrm x0 = 7 then some (some (zI 10), σ) else some (some (zI 3), σ)))))))) := by
  refine Eq.trans (zc_zq (L := [some (zI x0), some (zI x1)]) (by exact rfl)) ?_
  refine Eq.trans (zY_step (by exact rfl) (by exact dX2_costOf_0) (by exact rfl) (pc' := 1) (S' := [zI x0]) (by exact rfl) (zcn (by exact rfl))) ?_
  refine Eq.trans (zY_tsw (by exact rfl) (by exact dX2_costOf_1) (by exact rfl) (dt := 64) (by exact rfl) (ts := [(1, 44), (2, 48), (3, 50), (4, 52), (5, 54), (6, 57), (7, 61)]) (by exact rfl)) ?_
  refine zif ?_ (zif ?_ (zif ?_ (zif ?_ (zif ?_ (zif ?_ (zif ?_ (?_)))))))
  · refine Eq.trans (zY_at (L2 := [some (zI x0), some (zI x1)]) (zcn (by exact rfl))) ?_
    refine Eq.trans (zY_step (by exact rfl) (by exact dX2_costOf_44) (by exact rfl) (pc' := 45) (S' := [zI 3]) (by exact rfl) (zcn (by exact rfl))) ?_
    refine Eq.trans (zY_step (by exact rfl) (by exact dX2_costOf_45) (by exact rfl) (pc' := 46) (S' := [zI x1, zI 3]) (by exact rfl) (zcn (by exact rfl))) ?_
    refine Eq.trans (zY_step (by exact rfl) (by exact dX2_costOf_46) (by exact rfl) (pc' := 47) (S' := [zI (3 + x1)]) (by exact rfl) (zcn (by exact rfl))) ?_
    exact zq_ret (by exact dX2_costOf_47) (by exact rfl) (rv := some (zI (3 + x1))) (by exact rfl)
  · refine Eq.trans (zY_at (L2 := [some (zI x0), some (zI x1)]) (zcn (by exact rfl))) ?_
    refine Eq.trans (zY_step (by exact rfl) (by exact dX2_costOf_48) (by exact rfl) (pc' := 49) (S' := [zI 5]) (by exact rfl) (zcn (by exact rfl))) ?_
    exact zq_ret (by exact dX2_costOf_49) (by exact rfl) (rv := some (zI 5)) (by exact rfl)
  · refine Eq.trans (zY_at (L2 := [some (zI x0), some (zI x1)]) (zcn (by exact rfl))) ?_
    refine Eq.trans (zY_step (by exact rfl) (by exact dX2_costOf_50) (by exact rfl) (pc' := 51) (S' := [zI 1]) (by exact rfl) (zcn (by exact rfl))) ?_
    exact zq_ret (by exact dX2_costOf_51) (by exact rfl) (rv := some (zI 1)) (by exact rfl)
  · refine Eq.trans (zY_at (L2 := [some (zI x0), some (zI x1)]) (zcn (by exact rfl))) ?_
    refine Eq.trans (zY_step (by exact rfl) (by exact dX2_costOf_52) (by exact rfl) (pc' := 53) (S' := [zI 1]) (by exact rfl) (zcn (by exact rfl))) ?_
    exact zq_ret (by exact dX2_costOf_53) (by exact rfl) (rv := some (zI 1)) (by exact rfl)
  · refine Eq.trans (zY_at (L2 := [some (zI x0), some (zI x1)]) (zcn (by exact rfl))) ?_
    refine Eq.trans (zY_step (by exact rfl) (by exact dX2_costOf_54) (by exact rfl) (pc' := 56) (S' := [zI 7]) (by exact rfl) (zcn (by exact rfl))) ?_
    exact zq_ret (by exact dX2_costOf_56) (by exact rfl) (rv := some (zI 7)) (by exact rfl)
  · refine Eq.trans (zY_at (L2 := [some (zI x0), some (zI x1)]) (zcn (by exact rfl))) ?_
    refine Eq.trans (zY_step (by exact rfl) (by exact dX2_costOf_57) (by exact rfl) (pc' := 58) (S' := [zI 1]) (by exact rfl) (zcn (by exact rfl))) ?_
    refine Eq.trans (zY_step (by exact rfl) (by exact dX2_costOf_58) (by exact rfl) (pc' := 59) (S' := [zI x1, zI 1]) (by exact rfl) (zcn (by exact rfl))) ?_
    refine Eq.trans (zY_step (by exact rfl) (by exact dX2_costOf_59) (by exact rfl) (pc' := 60) (S' := [zI (1 + x1)]) (by exact rfl) (zcn (by exact rfl))) ?_
    exact zq_ret (by exact dX2_costOf_60) (by exact rfl) (rv := some (zI (1 + x1))) (by exact rfl)
  · refine Eq.trans (zY_at (L2 := [some (zI x0), some (zI x1)]) (zcn (by exact rfl))) ?_
    refine Eq.trans (zY_step (by exact rfl) (by exact dX2_costOf_61) (by exact rfl) (pc' := 63) (S' := [zI 10]) (by exact rfl) (zcn (by exact rfl))) ?_
    exact zq_ret (by exact dX2_costOf_63) (by exact rfl) (rv := some (zI 10)) (by exact rfl)
  · refine Eq.trans (zY_at (L2 := [some (zI x0), some (zI x1)]) (zcn (by exact rfl))) ?_
    refine Eq.trans (zY_step (by exact rfl) (by exact dX2_costOf_64) (by exact rfl) (pc' := 65) (S' := [zI 3]) (by exact rfl) (zcn (by exact rfl))) ?_
    exact zq_ret (by exact dX2_costOf_65) (by exact rfl) (rv := some (zI 3)) (by exact rfl)
