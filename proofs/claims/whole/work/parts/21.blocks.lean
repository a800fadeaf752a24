theorem e_X2_coach (d : Nat) (x1 : Int) (σ : zS) : zc (d + 1) mX2_coach [zR (some 0), zI x1] σ = (zc d mX2_shelfAt [zR (some 0), zI x1] σ).bind fun r => zq (d + 1) mX2_coach 5 [some (zR (some 0)), some (zI x1), none, none, none] (r.1.toList ++ []) r.2 := by
  refine Eq.trans (zc_zq (L := [some (zR (some 0)), some (zI x1), none, none, none]) (by exact rfl)) ?_
  refine Eq.trans (zY_step (by exact rfl) (by exact dX2_coach_0) (by exact rfl) (pc' := 1) (S' := [zR (some 0)]) (by exact rfl) (zcn (by exact rfl))) ?_
  refine Eq.trans (zY_step (by exact rfl) (by exact dX2_coach_1) (by exact rfl) (pc' := 2) (S' := [zI x1, zR (some 0)]) (by exact rfl) (zcn (by exact rfl))) ?_
  exact zY_V (by exact rfl) (by exact dX2_coach_2) (by exact rfl) (as := [zI x1]) (S' := []) (by exact rfl) (by exact rfl) (by exact rfl) (by exact Nat.le_of_ble_eq_true rfl) (by exact Nat.le_of_ble_eq_true rfl) (by exact Nat.le_of_ble_eq_true rfl) (zcn (by exact rfl))
theorem b_X2_coach_5 (d : Nat) (x1 : Int) {q5 : Nat} (hq5 : zSh q5) (σ : zS) : zq (d + 1) mX2_coach 5 [some (zR (some 0)), some (zI x1), none, none, none] [zR (some q5)] σ = (if ¬ nrm (σ q5 0) = 0 then (if ¬ nrm (σ q5 0) = 2 then some (some (zI ((-12))), σ) else (if nrm (σ q5 3) = 0 then (zc d mX2_firstWrongByte [zR (some q5)] σ).bind fun r => zq (d + 1) mX2_coach 44 [some (zR (some 0)), some (zI x1), some (zR (some q5)), none, none] (r.1.toList ++ []) r.2 else some (some (zI ((-12))), σ))) else some (some (zI ((-11))), σ)) := by
  refine Eq.trans (zY_step (by exact rfl) (by exact dX2_coach_5) (by exact rfl) (pc' := 6) (L' := [some (zR (some 0)), some (zI x1), some (zR (some q5)), none, none]) (S' := []) (by exact rfl) (zcn (by exact rfl))) ?_
  refine Eq.trans (zY_step (by exact rfl) (by exact dX2_coach_6) (by exact rfl) (pc' := 7) (S' := [zR (some q5)]) (by exact rfl) (zcn (by exact rfl))) ?_
  refine Eq.trans (zY_step (by exact rfl) (by exact dX2_coach_7) (by exact rfl) (pc' := 12) (S' := []) (by exact rfl) (zcn (by exact rfl))) ?_
  refine Eq.trans (zY_step (by exact rfl) (by exact dX2_coach_12) (by exact rfl) (pc' := 13) (S' := [zR (some q5)]) (by exact rfl) (zcn (by exact rfl))) ?_
  refine Eq.trans (zY_getI (by exact rfl) (by exact dX2_coach_13) (by exact rfl) (by exact zSh_k hq5) (by exact zSh_r0 hq5) (zcn (by exact rfl))) ?_
  refine Eq.trans (zY_if_ne (by exact rfl) (by exact dX2_coach_16) (t := 22) (by exact rfl) (a2 := nrm (σ q5 0)) (by exact rfl) (zcn (by exact rfl)) (zcn (by exact rfl))) (zif ?_ ?_)
  · refine Eq.trans (zY_step (by exact rfl) (by exact dX2_coach_22) (by exact rfl) (pc' := 23) (S' := [zR (some q5)]) (by exact rfl) (zcn (by exact rfl))) ?_
    refine Eq.trans (zY_getI (by exact rfl) (by exact dX2_coach_23) (by exact rfl) (by exact zSh_k hq5) (by exact zSh_r0 hq5) (zcn (by exact rfl))) ?_
    refine Eq.trans (zY_step (by exact rfl) (by exact dX2_coach_26) (by exact rfl) (pc' := 27) (S' := [zI 2, zI (σ q5 0)]) (by exact rfl) (zcn (by exact rfl))) ?_
    refine Eq.trans (zY_ic_ne (by exact rfl) (by exact dX2_coach_27) (t := 37) (by exact rfl) (a2 := nrm (σ q5 0)) (b2 := 2) (by exact rfl) (by decide) (L1 := [none, none, none, none, none]) (by exact rfl) (zcn (by exact rfl))) (zif ?_ ?_)
    · refine Eq.trans (zY_step (by exact rfl) (by exact dX2_coach_37) (by exact rfl) (pc' := 39) (S' := [zI ((-12))]) (by exact rfl) (zcn (by exact rfl))) ?_
      exact zq_ret (by exact dX2_coach_39) (by exact rfl) (rv := some (zI ((-12)))) (by exact rfl)
    · refine Eq.trans (zY_step (by exact rfl) (by exact dX2_coach_30) (by exact rfl) (pc' := 31) (S' := [zR (some q5)]) (by exact rfl) (zcn (by exact rfl))) ?_
      refine Eq.trans (zY_getI (by exact rfl) (by exact dX2_coach_31) (by exact rfl) (by exact zSh_k hq5) (by exact zSh_r3 hq5) (zcn (by exact rfl))) ?_
      refine Eq.trans (zY_if_eq (by exact rfl) (by exact dX2_coach_34) (t := 40) (by exact rfl) (a2 := nrm (σ q5 3)) (by exact rfl) (L2 := [none, none, none, none, none]) (zcn (by exact rfl)) (by exact rfl)) (zif ?_ ?_)
      · refine Eq.trans (zY_step (by exact rfl) (by exact dX2_coach_40) (by exact rfl) (pc' := 41) (S' := [zR (some q5)]) (by exact rfl) (zcn (by exact rfl))) ?_
        exact zY_S (by exact rfl) (by exact dX2_coach_41) (by exact rfl) (by exact Or.inl rfl) (as := [zR (some q5)]) (S' := []) (by exact rfl) (by exact rfl) (by exact Nat.le_of_ble_eq_true rfl) (by exact Nat.le_of_ble_eq_true rfl) (zcn (by exact rfl))
      · refine Eq.trans (zY_step (by exact rfl) (by exact dX2_coach_37) (by exact rfl) (pc' := 39) (S' := [zI ((-12))]) (by exact rfl) (zcn (by exact rfl))) ?_
        exact zq_ret (by exact dX2_coach_39) (by exact rfl) (rv := some (zI ((-12)))) (by exact rfl)
  · refine Eq.trans (zY_step (by exact rfl) (by exact dX2_coach_19) (by exact rfl) (pc' := 21) (S' := [zI ((-11))]) (by exact rfl) (zcn (by exact rfl))) ?_
    exact zq_ret (by exact dX2_coach_21) (by exact rfl) (rv := some (zI ((-11)))) (by exact rfl)
theorem b_X2_coach_5_2 (d : Nat) (x1 : Int) (σ : zS) : zq d mX2_coach 5 [some (zR (some 0)), some (zI x1), none, none, none] [zR none] σ = some (some (zI ((-1))), σ) := by
  refine Eq.trans (zY_step (by exact rfl) (by exact dX2_coach_5) (by exact rfl) (pc' := 6) (L' := [some (zR (some 0)), some (zI x1), some (zR none), none, none]) (S' := []) (by exact rfl) (zcn (by exact rfl))) ?_
  refine Eq.trans (zY_step (by exact rfl) (by exact dX2_coach_6) (by exact rfl) (pc' := 7) (S' := [zR none]) (by exact rfl) (zcn (by exact rfl))) ?_
  refine Eq.trans (zY_step (by exact rfl) (by exact dX2_coach_7) (by exact rfl) (pc' := 10) (S' := []) (by exact rfl) (zcn (by exact rfl))) ?_
  refine Eq.trans (zY_step (by exact rfl) (by exact dX2_coach_10) (by exact rfl) (pc' := 11) (S' := [zI ((-1))]) (by exact rfl) (zcn (by exact rfl))) ?_
  exact zq_ret (by exact dX2_coach_11) (by exact rfl) (rv := some (zI ((-1)))) (by exact rfl)
theorem b_X2_coach_44 (d : Nat) (y0 x1 : Int) {q5 : Nat} (hq5 : zSh q5) (σ : zS) : zq (d + 1) mX2_coach 44 [some (zR (some 0)), some (zI x1), some (zR (some q5)), none, none] [zI y0] σ = (if nrm y0 < 0 then (zc d mX0_copyFrom [zR (some 6), zR (some 1)] σ).bind fun r => zq (d + 1) mX2_coach 66 [some (zR (some 0)), some (zI x1), some (zR (some q5)), some (zI y0), none] (r.1.toList ++ []) r.2 else some (some (zI (((-1000)) - y0)), σ)) := by
  refine Eq.trans (zY_step (by exact rfl) (by exact dX2_coach_44) (by exact rfl) (pc' := 45) (L' := [some (zR (some 0)), some (zI x1), some (zR (some q5)), some (zI y0), none]) (S' := []) (by exact rfl) (zcn (by exact rfl))) ?_
  refine Eq.trans (zY_step (by exact rfl) (by exact dX2_coach_45) (by exact rfl) (pc' := 46) (S' := [zI y0]) (by exact rfl) (zcn (by exact rfl))) ?_
  refine Eq.trans (zY_if_lt (by exact rfl) (by exact dX2_coach_46) (t := 55) (by exact rfl) (a2 := nrm y0) (by exact rfl) (zcn (by exact rfl)) (zcn (by exact rfl))) (zif ?_ ?_)
  · refine Eq.trans (zY_step (by exact rfl) (by exact dX2_coach_55) (by exact rfl) (pc' := 56) (S' := [zR (some 0)]) (by exact rfl) (zcn (by exact rfl))) ?_
    refine Eq.trans (zY_getR (by exact rfl) (by exact dX2_coach_56) (by exact rfl) (by exact rfl) (t := 6) (by exact rfl) (zcn (by exact rfl))) ?_
    refine Eq.trans (zY_step (by exact rfl) (by exact dX2_coach_59) (by exact rfl) (pc' := 60) (S' := [zR (some 0), zR (some 6)]) (by exact rfl) (zcn (by exact rfl))) ?_
    refine Eq.trans (zY_getR (by exact rfl) (by exact dX2_coach_60) (by exact rfl) (by exact rfl) (t := 1) (by exact rfl) (zcn (by exact rfl))) ?_
    exact zY_V (by exact rfl) (by exact dX2_coach_63) (by exact rfl) (as := [zR (some 1)]) (S' := []) (by exact rfl) (by exact rfl) (by exact zCo_k zCo6) (by exact Nat.le_of_ble_eq_true rfl) (by exact Nat.le_of_ble_eq_true rfl) (by exact Nat.le_of_ble_eq_true rfl) (zcn (by exact rfl))
  · refine Eq.trans (zY_step (by exact rfl) (by exact dX2_coach_49) (by exact rfl) (pc' := 52) (S' := [zI ((-1000))]) (by exact rfl) (zcn (by exact rfl))) ?_
    refine Eq.trans (zY_step (by exact rfl) (by exact dX2_coach_52) (by exact rfl) (pc' := 53) (S' := [zI y0, zI ((-1000))]) (by exact rfl) (zcn (by exact rfl))) ?_
    refine Eq.trans (zY_step (by exact rfl) (by exact dX2_coach_53) (by exact rfl) (pc' := 54) (S' := [zI (((-1000)) - y0)]) (by exact rfl) (zcn (by exact rfl))) ?_
    exact zq_ret (by exact dX2_coach_54) (by exact rfl) (rv := some (zI (((-1000)) - y0))) (by exact rfl)
theorem b_X2_coach_66 (d : Nat) (x1 x3 : Int) {q5 : Nat} (hq5 : zSh q5) (σ : zS) : zq (d + 1) mX2_coach 66 [some (zR (some 0)), some (zI x1), some (zR (some q5)), some (zI x3), none] [] σ = (zc d mX2_doStatements [zR (some 6), zR (some q5)] σ).bind fun r => zq (d + 1) mX2_coach 74 [some (zR (some 0)), some (zI x1), some (zR (some q5)), some (zI x3), none] (r.1.toList ++ []) r.2 := by
  refine Eq.trans (zY_step (by exact rfl) (by exact dX2_coach_66) (by exact rfl) (pc' := 67) (S' := [zR (some 0)]) (by exact rfl) (zcn (by exact rfl))) ?_
  refine Eq.trans (zY_getR (by exact rfl) (by exact dX2_coach_67) (by exact rfl) (by exact rfl) (t := 6) (by exact rfl) (zcn (by exact rfl))) ?_
  refine Eq.trans (zY_step (by exact rfl) (by exact dX2_coach_70) (by exact rfl) (pc' := 71) (S' := [zR (some q5), zR (some 6)]) (by exact rfl) (zcn (by exact rfl))) ?_
  exact zY_S (by exact rfl) (by exact dX2_coach_71) (by exact rfl) (by exact Or.inl rfl) (as := [zR (some 6), zR (some q5)]) (S' := []) (by exact rfl) (by exact rfl) (by exact Nat.le_of_ble_eq_true rfl) (by exact Nat.le_of_ble_eq_true rfl) (zcn (by exact rfl))
theorem b_X2_coach_74 (d : Nat) (y0 x1 x3 : Int) {q5 : Nat} (hq5 : zSh q5) (σ : zS) : zq (d + 1) mX2_coach 74 [some (zR (some 0)), some (zI x1), some (zR (some q5)), some (zI x3), none] [zI y0] σ = (if nrm y0 < 0 then some (some (zI y0), σ) else (zc d mX0_copyFrom [zR (some 1), zR (some 6)] σ).bind fun r => zq (d + 1) mX2_coach 92 [none, none, none, none, some (zI y0)] (r.1.toList ++ []) r.2) := by
  refine Eq.trans (zY_step (by exact rfl) (by exact dX2_coach_74) (by exact rfl) (pc' := 76) (L' := [some (zR (some 0)), some (zI x1), some (zR (some q5)), some (zI x3), some (zI y0)]) (S' := []) (by exact rfl) (zcn (by exact rfl))) ?_
  refine Eq.trans (zY_step (by exact rfl) (by exact dX2_coach_76) (by exact rfl) (pc' := 78) (S' := [zI y0]) (by exact rfl) (zcn (by exact rfl))) ?_
  refine Eq.trans (zY_if_lt (by exact rfl) (by exact dX2_coach_78) (t := 92) (by exact rfl) (a2 := nrm y0) (by exact rfl) (L1 := [none, none, none, none, some (zI y0)]) (by exact rfl) (zcn (by exact rfl))) (zif ?_ ?_)
  · refine Eq.trans (zY_step (by exact rfl) (by exact dX2_coach_92) (by exact rfl) (pc' := 94) (S' := [zI y0]) (by exact rfl) (zcn (by exact rfl))) ?_
    exact zq_ret (by exact dX2_coach_94) (by exact rfl) (rv := some (zI y0)) (by exact rfl)
  · refine Eq.trans (zY_step (by exact rfl) (by exact dX2_coach_81) (by exact rfl) (pc' := 82) (S' := [zR (some 0)]) (by exact rfl) (zcn (by exact rfl))) ?_
    refine Eq.trans (zY_getR (by exact rfl) (by exact dX2_coach_82) (by exact rfl) (by exact rfl) (t := 1) (by exact rfl) (zcn (by exact rfl))) ?_
    refine Eq.trans (zY_step (by exact rfl) (by exact dX2_coach_85) (by exact rfl) (pc' := 86) (S' := [zR (some 0), zR (some 1)]) (by exact rfl) (zcn (by exact rfl))) ?_
    refine Eq.trans (zY_getR (by exact rfl) (by exact dX2_coach_86) (by exact rfl) (by exact rfl) (t := 6) (by exact rfl) (zcn (by exact rfl))) ?_
    exact zY_V (by exact rfl) (by exact dX2_coach_89) (by exact rfl) (as := [zR (some 6)]) (S' := []) (by exact rfl) (by exact rfl) (by exact zCo_k zCo1) (by exact Nat.le_of_ble_eq_true rfl) (by exact Nat.le_of_ble_eq_true rfl) (by exact Nat.le_of_ble_eq_true rfl) (L2 := [none, none, none, none, some (zI y0)]) (by exact rfl)
theorem b_X2_coach_92 (d : Nat) (x4 : Int) (σ : zS) : zq d mX2_coach 92 [none, none, none, none, some (zI x4)] [] σ = some (some (zI x4), σ) := by
  refine Eq.trans (zY_step (by exact rfl) (by exact dX2_coach_92) (by exact rfl) (pc' := 94) (S' := [zI x4]) (by exact rfl) (zcn (by exact rfl))) ?_
  exact zq_ret (by exact dX2_coach_94) (by exact rfl) (rv := some (zI x4)) (by exact rfl)
theorem e_X2_seat (d : Nat) (x1 x2 : Int) (σ : zS) : zc (d + 1) mX2_seat [zR (some 0), zI x1, zI x2] σ = (zc d mX0_isRow [zR (some 1), zI x1] σ).bind fun r => zq (d + 1) mX2_seat 8 [some (zR (some 0)), some (zI x1), some (zI x2)] (r.1.toList ++ []) r.2 := by
  refine Eq.trans (zc_zq (L := [some (zR (some 0)), some (zI x1), some (zI x2)]) (by exact rfl)) ?_
  refine Eq.trans (zY_step (by exact rfl) (by exact dX2_seat_0) (by exact rfl) (pc' := 1) (S' := [zR (some 0)]) (by exact rfl) (zcn (by exact rfl))) ?_
  refine Eq.trans (zY_getR (by exact rfl) (by exact dX2_seat_1) (by exact rfl) (by exact rfl) (t := 1) (by exact rfl) (zcn (by exact rfl))) ?_
  refine Eq.trans (zY_step (by exact rfl) (by exact dX2_seat_4) (by exact rfl) (pc' := 5) (S' := [zI x1, zR (some 1)]) (by exact rfl) (zcn (by exact rfl))) ?_
  exact zY_V (by exact rfl) (by exact dX2_seat_5) (by exact rfl) (as := [zI x1]) (S' := []) (by exact rfl) (by exact rfl) (by exact zCo_k zCo1) (by exact Nat.le_of_ble_eq_true rfl) (by exact Nat.le_of_ble_eq_true rfl) (by exact Nat.le_of_ble_eq_true rfl) (zcn (by exact rfl))
theorem b_X2_seat_8 (d : Nat) (y0 x1 x2 : Int) (σ : zS) : zq (d + 1) mX2_seat 8 [some (zR (some 0)), some (zI x1), some (zI x2)] [zI y0] σ = (if ¬ nrm y0 = 0 then (if nrm x2 = 0 then (if zix x1 8 then some (some (zI (σ 2 (nrm x1).toNat)), σ) else none) else (if nrm x2 = 1 then (if zix x1 8 then some (some (zI (σ 3 (nrm x1).toNat)), σ) else none) else (if nrm x2 = 2 then (if zix x1 8 then some (some (zI (σ 4 (nrm x1).toNat)), σ) else none) else (if nrm x2 = 3 then (zc d mX0_isBlocked [zR (some 1), zI x1] σ).bind fun r => zq (d + 1) mX2_seat 98 [some (zR (some 0)), some (zI x1), some (zI x2)] (r.1.toList ++ []) r.2 else (if nrm x2 = 4 then (zc d mX0_canAt [zR (some 1), zI x1] σ).bind fun r => zq (d + 1) mX2_seat 115 [some (zR (some 0)), some (zI x1), some (zI x2)] (r.1.toList ++ []) r.2 else (if nrm x2 = 5 then (if zix x1 8 then (if zix x1 8 then (zc d mX2_kneesOf [zI (σ 2 (nrm x1).toNat), zI (σ 3 (nrm x1).toNat)] σ).bind fun r => zq (d + 1) mX2_seat 137 [some (zR (some 0)), some (zI x1), some (zI x2)] (r.1.toList ++ []) r.2 else none) else none) else (if nrm x2 = 6 then (zc d mX0_worthAt [zR (some 1), zI x1] σ).bind fun r => zq (d + 1) mX2_seat 146 [some (zR (some 0)), some (zI x1), some (zI x2)] (r.1.toList ++ []) r.2 else (if nrm x2 = 7 then (zc d mX0_roomAt [zR (some 1), zI x1] σ).bind fun r => zq (d + 1) mX2_seat 155 [some (zR (some 0)), some (zI x1), some (zI x2)] (r.1.toList ++ []) r.2 else some (some (zI ((-1))), σ))))))))) else some (some (zI ((-1))), σ)) := by
  refine Eq.trans (zY_if_ne (by exact rfl) (by exact dX2_seat_8) (t := 13) (by exact rfl) (a2 := nrm y0) (by exact rfl) (zcn (by exact rfl)) (zcn (by exact rfl))) (zif ?_ ?_)
  · refine Eq.trans (zY_step (by exact rfl) (by exact dX2_seat_13) (by exact rfl) (pc' := 14) (S' := [zI x2]) (by exact rfl) (zcn (by exact rfl))) ?_
    refine Eq.trans (zY_tsw (by exact rfl) (by exact dX2_seat_14) (by exact rfl) (dt := 156) (by exact rfl) (ts := [(0, 60), (1, 70), (2, 80), (3, 90), (4, 107), (5, 116), (6, 138), (7, 147)]) (by exact rfl)) ?_
    refine zif ?_ (zif ?_ (zif ?_ (zif ?_ (zif ?_ (zif ?_ (zif ?_ (zif ?_ (?_))))))))
    · refine Eq.trans (zY_at (L2 := [some (zR (some 0)), some (zI x1), some (zI x2)]) (zcn (by exact rfl))) ?_
      refine Eq.trans (zY_step (by exact rfl) (by exact dX2_seat_60) (by exact rfl) (pc' := 61) (S' := [zR (some 0)]) (by exact rfl) (zcn (by exact rfl))) ?_
      refine Eq.trans (zY_getR (by exact rfl) (by exact dX2_seat_61) (by exact rfl) (by exact rfl) (t := 1) (by exact rfl) (zcn (by exact rfl))) ?_
      refine Eq.trans (zY_getR (by exact rfl) (by exact dX2_seat_64) (by exact rfl) (by exact rfl) (t := 2) (by exact rfl) (zcn (by exact rfl))) ?_
      refine Eq.trans (zY_step (by exact rfl) (by exact dX2_seat_67) (by exact rfl) (pc' := 68) (S' := [zI x1, zR (some 2)]) (by exact rfl) (zcn (by exact rfl))) ?_
      refine Eq.trans (zY_iald (by exact rfl) (by exact dX2_seat_68) (by exact rfl) (by exact rfl) (zcn (by exact rfl))) (zif ?_ rfl)
      · exact zq_ret (by exact dX2_seat_69) (by exact rfl) (rv := some (zI (σ 2 (nrm x1).toNat))) (by exact rfl)
    · refine Eq.trans (zY_at (L2 := [some (zR (some 0)), some (zI x1), some (zI x2)]) (zcn (by exact rfl))) ?_
      refine Eq.trans (zY_step (by exact rfl) (by exact dX2_seat_70) (by exact rfl) (pc' := 71) (S' := [zR (some 0)]) (by exact rfl) (zcn (by exact rfl))) ?_
      refine Eq.trans (zY_getR (by exact rfl) (by exact dX2_seat_71) (by exact rfl) (by exact rfl) (t := 1) (by exact rfl) (zcn (by exact rfl))) ?_
      refine Eq.trans (zY_getR (by exact rfl) (by exact dX2_seat_74) (by exact rfl) (by exact rfl) (t := 3) (by exact rfl) (zcn (by exact rfl))) ?_
      refine Eq.trans (zY_step (by exact rfl) (by exact dX2_seat_77) (by exact rfl) (pc' := 78) (S' := [zI x1, zR (some 3)]) (by exact rfl) (zcn (by exact rfl))) ?_
      refine Eq.trans (zY_iald (by exact rfl) (by exact dX2_seat_78) (by exact rfl) (by exact rfl) (zcn (by exact rfl))) (zif ?_ rfl)
      · exact zq_ret (by exact dX2_seat_79) (by exact rfl) (rv := some (zI (σ 3 (nrm x1).toNat))) (by exact rfl)
    · refine Eq.trans (zY_at (L2 := [some (zR (some 0)), some (zI x1), some (zI x2)]) (zcn (by exact rfl))) ?_
      refine Eq.trans (zY_step (by exact rfl) (by exact dX2_seat_80) (by exact rfl) (pc' := 81) (S' := [zR (some 0)]) (by exact rfl) (zcn (by exact rfl))) ?_
      refine Eq.trans (zY_getR (by exact rfl) (by exact dX2_seat_81) (by exact rfl) (by exact rfl) (t := 1) (by exact rfl) (zcn (by exact rfl))) ?_
      refine Eq.trans (zY_getR (by exact rfl) (by exact dX2_seat_84) (by exact rfl) (by exact rfl) (t := 4) (by exact rfl) (zcn (by exact rfl))) ?_
      refine Eq.trans (zY_step (by exact rfl) (by exact dX2_seat_87) (by exact rfl) (pc' := 88) (S' := [zI x1, zR (some 4)]) (by exact rfl) (zcn (by exact rfl))) ?_
      refine Eq.trans (zY_iald (by exact rfl) (by exact dX2_seat_88) (by exact rfl) (by exact rfl) (zcn (by exact rfl))) (zif ?_ rfl)
      · exact zq_ret (by exact dX2_seat_89) (by exact rfl) (rv := some (zI (σ 4 (nrm x1).toNat))) (by exact rfl)
    · refine Eq.trans (zY_at (L2 := [some (zR (some 0)), some (zI x1), some (zI x2)]) (zcn (by exact rfl))) ?_
      refine Eq.trans (zY_step (by exact rfl) (by exact dX2_seat_90) (by exact rfl) (pc' := 91) (S' := [zR (some 0)]) (by exact rfl) (zcn (by exact rfl))) ?_
      refine Eq.trans (zY_getR (by exact rfl) (by exact dX2_seat_91) (by exact rfl) (by exact rfl) (t := 1) (by exact rfl) (zcn (by exact rfl))) ?_
      refine Eq.trans (zY_step (by exact rfl) (by exact dX2_seat_94) (by exact rfl) (pc' := 95) (S' := [zI x1, zR (some 1)]) (by exact rfl) (zcn (by exact rfl))) ?_
      exact zY_V (by exact rfl) (by exact dX2_seat_95) (by exact rfl) (as := [zI x1]) (S' := []) (by exact rfl) (by exact rfl) (by exact zCo_k zCo1) (by exact Nat.le_of_ble_eq_true rfl) (by exact Nat.le_of_ble_eq_true rfl) (by exact Nat.le_of_ble_eq_true rfl) (zcn (by exact rfl))
    · refine Eq.trans (zY_at (L2 := [some (zR (some 0)), some (zI x1), some (zI x2)]) (zcn (by exact rfl))) ?_
      refine Eq.trans (zY_step (by exact rfl) (by exact dX2_seat_107) (by exact rfl) (pc' := 108) (S' := [zR (some 0)]) (by exact rfl) (zcn (by exact rfl))) ?_
      refine Eq.trans (zY_getR (by exact rfl) (by exact dX2_seat_108) (by exact rfl) (by exact rfl) (t := 1) (by exact rfl) (zcn (by exact rfl))) ?_
      refine Eq.trans (zY_step (by exact rfl) (by exact dX2_seat_111) (by exact rfl) (pc' := 112) (S' := [zI x1, zR (some 1)]) (by exact rfl) (zcn (by exact rfl))) ?_
      exact zY_V (by exact rfl) (by exact dX2_seat_112) (by exact rfl) (as := [zI x1]) (S' := []) (by exact rfl) (by exact rfl) (by exact zCo_k zCo1) (by exact Nat.le_of_ble_eq_true rfl) (by exact Nat.le_of_ble_eq_true rfl) (by exact Nat.le_of_ble_eq_true rfl) (zcn (by exact rfl))
    · refine Eq.trans (zY_at (L2 := [some (zR (some 0)), some (zI x1), some (zI x2)]) (zcn (by exact rfl))) ?_
      refine Eq.trans (zY_step (by exact rfl) (by exact dX2_seat_116) (by exact rfl) (pc' := 117) (S' := [zR (some 0)]) (by exact rfl) (zcn (by exact rfl))) ?_
      refine Eq.trans (zY_getR (by exact rfl) (by exact dX2_seat_117) (by exact rfl) (by exact rfl) (t := 1) (by exact rfl) (zcn (by exact rfl))) ?_
      refine Eq.trans (zY_getR (by exact rfl) (by exact dX2_seat_120) (by exact rfl) (by exact rfl) (t := 2) (by exact rfl) (zcn (by exact rfl))) ?_
      refine Eq.trans (zY_step (by exact rfl) (by exact dX2_seat_123) (by exact rfl) (pc' := 124) (S' := [zI x1, zR (some 2)]) (by exact rfl) (zcn (by exact rfl))) ?_
      refine Eq.trans (zY_iald (by exact rfl) (by exact dX2_seat_124) (by exact rfl) (by exact rfl) (zcn (by exact rfl))) (zif ?_ rfl)
      · refine Eq.trans (zY_step (by exact rfl) (by exact dX2_seat_125) (by exact rfl) (pc' := 126) (S' := [zR (some 0), zI (σ 2 (nrm x1).toNat)]) (by exact rfl) (zcn (by exact rfl))) ?_
        refine Eq.trans (zY_getR (by exact rfl) (by exact dX2_seat_126) (by exact rfl) (by exact rfl) (t := 1) (by exact rfl) (zcn (by exact rfl))) ?_
        refine Eq.trans (zY_getR (by exact rfl) (by exact dX2_seat_129) (by exact rfl) (by exact rfl) (t := 3) (by exact rfl) (zcn (by exact rfl))) ?_
        refine Eq.trans (zY_step (by exact rfl) (by exact dX2_seat_132) (by exact rfl) (pc' := 133) (S' := [zI x1, zR (some 3), zI (σ 2 (nrm x1).toNat)]) (by exact rfl) (zcn (by exact rfl))) ?_
        refine Eq.trans (zY_iald (by exact rfl) (by exact dX2_seat_133) (by exact rfl) (by exact rfl) (zcn (by exact rfl))) (zif ?_ rfl)
        · exact zY_S (by exact rfl) (by exact dX2_seat_134) (by exact rfl) (by exact Or.inl rfl) (as := [zI (σ 2 (nrm x1).toNat), zI (σ 3 (nrm x1).toNat)]) (S' := []) (by exact rfl) (by exact rfl) (by exact Nat.le_of_ble_eq_true rfl) (by exact Nat.le_of_ble_eq_true rfl) (zcn (by exact rfl))
    · refine Eq.trans (zY_at (L2 := [some (zR (some 0)), some (zI x1), some (zI x2)]) (zcn (by exact rfl))) ?_
      refine Eq.trans (zY_step (by exact rfl) (by exact dX2_seat_138) (by exact rfl) (pc' := 139) (S' := [zR (some 0)]) (by exact rfl) (zcn (by exact rfl))) ?_
      refine Eq.trans (zY_getR (by exact rfl) (by exact dX2_seat_139) (by exact rfl) (by exact rfl) (t := 1) (by exact rfl) (zcn (by exact rfl))) ?_
      refine Eq.trans (zY_step (by exact rfl) (by exact dX2_seat_142) (by exact rfl) (pc' := 143) (S' := [zI x1, zR (some 1)]) (by exact rfl) (zcn (by exact rfl))) ?_
      exact zY_V (by exact rfl) (by exact dX2_seat_143) (by exact rfl) (as := [zI x1]) (S' := []) (by exact rfl) (by exact rfl) (by exact zCo_k zCo1) (by exact Nat.le_of_ble_eq_true rfl) (by exact Nat.le_of_ble_eq_true rfl) (by exact Nat.le_of_ble_eq_true rfl) (zcn (by exact rfl))
    · refine Eq.trans (zY_at (L2 := [some (zR (some 0)), some (zI x1), some (zI x2)]) (zcn (by exact rfl))) ?_
      refine Eq.trans (zY_step (by exact rfl) (by exact dX2_seat_147) (by exact rfl) (pc' := 148) (S' := [zR (some 0)]) (by exact rfl) (zcn (by exact rfl))) ?_
      refine Eq.trans (zY_getR (by exact rfl) (by exact dX2_seat_148) (by exact rfl) (by exact rfl) (t := 1) (by exact rfl) (zcn (by exact rfl))) ?_
      refine Eq.trans (zY_step (by exact rfl) (by exact dX2_seat_151) (by exact rfl) (pc' := 152) (S' := [zI x1, zR (some 1)]) (by exact rfl) (zcn (by exact rfl))) ?_
      exact zY_V (by exact rfl) (by exact dX2_seat_152) (by exact rfl) (as := [zI x1]) (S' := []) (by exact rfl) (by exact rfl) (by exact zCo_k zCo1) (by exact Nat.le_of_ble_eq_true rfl) (by exact Nat.le_of_ble_eq_true rfl) (by exact Nat.le_of_ble_eq_true rfl) (zcn (by exact rfl))
    · refine Eq.trans (zY_at (L2 := [some (zR (some 0)), some (zI x1), some (zI x2)]) (zcn (by exact rfl))) ?_
      refine Eq.trans (zY_step (by exact rfl) (by exact dX2_seat_156) (by exact rfl) (pc' := 157) (S' := [zI ((-1))]) (by exact rfl) (zcn (by exact rfl))) ?_
      exact zq_ret (by exact dX2_seat_157) (by exact rfl) (rv := some (zI ((-1)))) (by exact rfl)
  · refine Eq.trans (zY_step (by exact rfl) (by exact dX2_seat_11) (by exact rfl) (pc' := 12) (S' := [zI ((-1))]) (by exact rfl) (zcn (by exact rfl))) ?_
    exact zq_ret (by exact dX2_seat_12) (by exact rfl) (rv := some (zI ((-1)))) (by exact rfl)
theorem b_X2_seat_98 (d : Nat) (y0 x1 x2 : Int) (σ : zS) : zq d mX2_seat 98 [some (zR (some 0)), some (zI x1), some (zI x2)] [zI y0] σ = (if nrm y0 = 0 then some (some (zI 0), σ) else some (some (zI 1), σ)) := by
  refine Eq.trans (zY_if_eq (by exact rfl) (by exact dX2_seat_98) (t := 105) (by exact rfl) (a2 := nrm y0) (by exact rfl) (zcn (by exact rfl)) (zcn (by exact rfl))) (zif ?_ ?_)
  · refine Eq.trans (zY_step (by exact rfl) (by exact dX2_seat_105) (by exact rfl) (pc' := 106) (S' := [zI 0]) (L2 := [none, none, none]) (by exact rfl) (by exact rfl)) ?_
    exact zq_ret (by exact dX2_seat_106) (by exact rfl) (rv := some (zI 0)) (by exact rfl)
  · refine Eq.trans (zY_step (by exact rfl) (by exact dX2_seat_101) (by exact rfl) (pc' := 102) (S' := [zI 1]) (by exact rfl) (zcn (by exact rfl))) ?_
    refine Eq.trans (zY_step (by exact rfl) (by exact dX2_seat_102) (by exact rfl) (pc' := 106) (S' := [zI 1]) (L2 := [none, none, none]) (by exact rfl) (by exact rfl)) ?_
    exact zq_ret (by exact dX2_seat_106) (by exact rfl) (rv := some (zI 1)) (by exact rfl)
theorem b_X2_seat_115 (d : Nat) (y0 x1 x2 : Int) (σ : zS) : zq d mX2_seat 115 [some (zR (some 0)), some (zI x1), some (zI x2)] [zI y0] σ = some (some (zI y0), σ) := by
  exact zq_ret (by exact dX2_seat_115) (by exact rfl) (rv := some (zI y0)) (by exact rfl)
theorem b_X2_seat_137 (d : Nat) (y0 x1 x2 : Int) (σ : zS) : zq d mX2_seat 137 [some (zR (some 0)), some (zI x1), some (zI x2)] [zI y0] σ = some (some (zI y0), σ) := by
  exact zq_ret (by exact dX2_seat_137) (by exact rfl) (rv := some (zI y0)) (by exact rfl)
theorem b_X2_seat_146 (d : Nat) (y0 x1 x2 : Int) (σ : zS) : zq d mX2_seat 146 [some (zR (some 0)), some (zI x1), some (zI x2)] [zI y0] σ = some (some (zI y0), σ) := by
  exact zq_ret (by exact dX2_seat_146) (by exact rfl) (rv := some (zI y0)) (by exact rfl)
theorem b_X2_seat_155 (d : Nat) (y0 x1 x2 : Int) (σ : zS) : zq d mX2_seat 155 [some (zR (some 0)), some (zI x1), some (zI x2)] [zI y0] σ = some (some (zI y0), σ) := by
  exact zq_ret (by exact dX2_seat_155) (by exact rfl) (rv := some (zI y0)) (by exact rfl)
theorem e_X2_comes (d : Nat) (x1 : Int) (σ : zS) : zc (d + 1) mX2_comes [zR (some 0), zI x1] σ = (zc d mX2_shelfAt [zR (some 0), zI x1] σ).bind fun r => zq (d + 1) mX2_comes 5 [some (zR (some 0)), some (zI x1), none, none] (r.1.toList ++ []) r.2 := by
  refine Eq.trans (zc_zq (L := [some (zR (some 0)), some (zI x1), none, none]) (by exact rfl)) ?_
  refine Eq.trans (zY_step (by exact rfl) (by exact dX2_comes_0) (by exact rfl) (pc' := 1) (S' := [zR (some 0)]) (by exact rfl) (zcn (by exact rfl))) ?_
  refine Eq.trans (zY_step (by exact rfl) (by exact dX2_comes_1) (by exact rfl) (pc' := 2) (S' := [zI x1, zR (some 0)]) (by exact rfl) (zcn (by exact rfl))) ?_
  exact zY_V (by exact rfl) (by exact dX2_comes_2) (by exact rfl) (as := [zI x1]) (S' := []) (by exact rfl) (by exact rfl) (by exact rfl) (by exact Nat.le_of_ble_eq_true rfl) (by exact Nat.le_of_ble_eq_true rfl) (by exact Nat.le_of_ble_eq_true rfl) (zcn (by exact rfl))
theorem b_X2_comes_5 (d : Nat) (x1 : Int) {q5 : Nat} (hq5 : zSh q5) (σ : zS) : zq (d + 1) mX2_comes 5 [some (zR (some 0)), some (zI x1), none, none] [zR (some q5)] σ = (zc d mX1_refusalUnless [zR (some q5), zI 1] σ).bind fun r => zq (d + 1) mX2_comes 17 [some (zR (some 0)), some (zI x1), some (zR (some q5)), none] (r.1.toList ++ []) r.2 := by
  refine Eq.trans (zY_step (by exact rfl) (by exact dX2_comes_5) (by exact rfl) (pc' := 6) (L' := [some (zR (some 0)), some (zI x1), some (zR (some q5)), none]) (S' := []) (by exact rfl) (zcn (by exact rfl))) ?_
  refine Eq.trans (zY_step (by exact rfl) (by exact dX2_comes_6) (by exact rfl) (pc' := 7) (S' := [zR (some q5)]) (by exact rfl) (zcn (by exact rfl))) ?_
  refine Eq.trans (zY_step (by exact rfl) (by exact dX2_comes_7) (by exact rfl) (pc' := 12) (S' := []) (by exact rfl) (zcn (by exact rfl))) ?_
  refine Eq.trans (zY_step (by exact rfl) (by exact dX2_comes_12) (by exact rfl) (pc' := 13) (S' := [zR (some q5)]) (by exact rfl) (zcn (by exact rfl))) ?_
  refine Eq.trans (zY_step (by exact rfl) (by exact dX2_comes_13) (by exact rfl) (pc' := 14) (S' := [zI 1, zR (some q5)]) (by exact rfl) (zcn (by exact rfl))) ?_
  exact zY_V (by exact rfl) (by exact dX2_comes_14) (by exact rfl) (as := [zI 1]) (S' := []) (by exact rfl) (by exact rfl) (by exact zSh_k hq5) (by exact Nat.le_of_ble_eq_true rfl) (by exact Nat.le_of_ble_eq_true rfl) (by exact Nat.le_of_ble_eq_true rfl) (zcn (by exact rfl))
theorem b_X2_comes_5_2 (d : Nat) (x1 : Int) (σ : zS) : zq d mX2_comes 5 [some (zR (some 0)), some (zI x1), none, none] [zR none] σ = some (some (zI ((-1))), σ) := by
  refine Eq.trans (zY_step (by exact rfl) (by exact dX2_comes_5) (by exact rfl) (pc' := 6) (L' := [some (zR (some 0)), some (zI x1), some (zR none), none]) (S' := []) (by exact rfl) (zcn (by exact rfl))) ?_
  refine Eq.trans (zY_step (by exact rfl) (by exact dX2_comes_6) (by exact rfl) (pc' := 7) (S' := [zR none]) (by exact rfl) (zcn (by exact rfl))) ?_
  refine Eq.trans (zY_step (by exact rfl) (by exact dX2_comes_7) (by exact rfl) (pc' := 10) (S' := []) (by exact rfl) (zcn (by exact rfl))) ?_
  refine Eq.trans (zY_step (by exact rfl) (by exact dX2_comes_10) (by exact rfl) (pc' := 11) (S' := [zI ((-1))]) (by exact rfl) (zcn (by exact rfl))) ?_
  exact zq_ret (by exact dX2_comes_11) (by exact rfl) (rv := some (zI ((-1)))) (by exact rfl)
theorem b_X2_comes_17 (d : Nat) (y0 x1 : Int) {q5 : Nat} (hq5 : zSh q5) (σ : zS) : zq (d + 1) mX2_comes 17 [some (zR (some 0)), some (zI x1), some (zR (some q5)), none] [zI y0] σ = (if nrm y0 = 0 then (zc d mX0_sitDown [zR (some 1), zI (σ q5 1), zI (σ q5 2)] σ).bind fun r => zq (d + 1) mX2_comes 39 [some (zR (some 0)), some (zI x1), some (zR (some q5)), some (zI y0)] (r.1.toList ++ []) r.2 else some (some (zI y0), σ)) := by
  refine Eq.trans (zY_step (by exact rfl) (by exact dX2_comes_17) (by exact rfl) (pc' := 18) (L' := [some (zR (some 0)), some (zI x1), some (zR (some q5)), some (zI y0)]) (S' := []) (by exact rfl) (zcn (by exact rfl))) ?_
  refine Eq.trans (zY_step (by exact rfl) (by exact dX2_comes_18) (by exact rfl) (pc' := 19) (S' := [zI y0]) (by exact rfl) (zcn (by exact rfl))) ?_
  refine Eq.trans (zY_if_eq (by exact rfl) (by exact dX2_comes_19) (t := 24) (by exact rfl) (a2 := nrm y0) (by exact rfl) (zcn (by exact rfl)) (zcn (by exact rfl))) (zif ?_ ?_)
  · refine Eq.trans (zY_step (by exact rfl) (by exact dX2_comes_24) (by exact rfl) (pc' := 25) (S' := [zR (some 0)]) (by exact rfl) (zcn (by exact rfl))) ?_
    refine Eq.trans (zY_getR (by exact rfl) (by exact dX2_comes_25) (by exact rfl) (by exact rfl) (t := 1) (by exact rfl) (zcn (by exact rfl))) ?_
    refine Eq.trans (zY_step (by exact rfl) (by exact dX2_comes_28) (by exact rfl) (pc' := 29) (S' := [zR (some q5), zR (some 1)]) (by exact rfl) (zcn (by exact rfl))) ?_
    refine Eq.trans (zY_getI (by exact rfl) (by exact dX2_comes_29) (by exact rfl) (by exact zSh_k hq5) (by exact zSh_r1 hq5) (zcn (by exact rfl))) ?_
    refine Eq.trans (zY_step (by exact rfl) (by exact dX2_comes_32) (by exact rfl) (pc' := 33) (S' := [zR (some q5), zI (σ q5 1), zR (some 1)]) (by exact rfl) (zcn (by exact rfl))) ?_
    refine Eq.trans (zY_getI (by exact rfl) (by exact dX2_comes_33) (by exact rfl) (by exact zSh_k hq5) (by exact zSh_r2 hq5) (zcn (by exact rfl))) ?_
    exact zY_V (by exact rfl) (by exact dX2_comes_36) (by exact rfl) (as := [zI (σ q5 1), zI (σ q5 2)]) (S' := []) (by exact rfl) (by exact rfl) (by exact zCo_k zCo1) (by exact Nat.le_of_ble_eq_true rfl) (by exact Nat.le_of_ble_eq_true rfl) (by exact Nat.le_of_ble_eq_true rfl) (zcn (by exact rfl))
  · refine Eq.trans (zY_step (by exact rfl) (by exact dX2_comes_22) (by exact rfl) (pc' := 23) (S' := [zI y0]) (by exact rfl) (zcn (by exact rfl))) ?_
    exact zq_ret (by exact dX2_comes_23) (by exact rfl) (rv := some (zI y0)) (by exact rfl)
theorem b_X2_comes_39 (d : Nat) (y0 x1 x3 : Int) {q5 : Nat} (hq5 : zSh q5) (σ : zS) : zq d mX2_comes 39 [some (zR (some 0)), some (zI x1), some (zR (some q5)), some (zI x3)] [zI y0] σ = (if nrm y0 = 0 then some (some (zI ((-2))), σ) else some (some (zI ((σ 1 0) - 1)), σ)) := by
  refine Eq.trans (zY_if_eq (by exact rfl) (by exact dX2_comes_39) (t := 54) (by exact rfl) (a2 := nrm y0) (by exact rfl) (zcn (by exact rfl)) (zcn (by exact rfl))) (zif ?_ ?_)
  · refine Eq.trans (zY_step (by exact rfl) (by exact dX2_comes_54) (by exact rfl) (pc' := 56) (S' := [zI ((-2))]) (L2 := [none, none, none, none]) (by exact rfl) (by exact rfl)) ?_
    exact zq_ret (by exact dX2_comes_56) (by exact rfl) (rv := some (zI ((-2)))) (by exact rfl)
  · refine Eq.trans (zY_step (by exact rfl) (by exact dX2_comes_42) (by exact rfl) (pc' := 43) (S' := [zR (some 0)]) (by exact rfl) (zcn (by exact rfl))) ?_
    refine Eq.trans (zY_getR (by exact rfl) (by exact dX2_comes_43) (by exact rfl) (by exact rfl) (t := 1) (by exact rfl) (zcn (by exact rfl))) ?_
    refine Eq.trans (zY_getI (by exact rfl) (by exact dX2_comes_46) (by exact rfl) (by exact zCo_k zCo1) (by exact zCo_r0 zCo1) (zcn (by exact rfl))) ?_
    refine Eq.trans (zY_step (by exact rfl) (by exact dX2_comes_49) (by exact rfl) (pc' := 50) (S' := [zI 1, zI (σ 1 0)]) (by exact rfl) (zcn (by exact rfl))) ?_
    refine Eq.trans (zY_step (by exact rfl) (by exact dX2_comes_50) (by exact rfl) (pc' := 51) (S' := [zI ((σ 1 0) - 1)]) (by exact rfl) (zcn (by exact rfl))) ?_
    refine Eq.trans (zY_step (by exact rfl) (by exact dX2_comes_51) (by exact rfl) (pc' := 56) (S' := [zI ((σ 1 0) - 1)]) (L2 := [none, none, none, none]) (by exact rfl) (by exact rfl)) ?_
    exact zq_ret (by exact dX2_comes_56) (by exact rfl) (rv := some (zI ((σ 1 0) - 1))) (by exact rfl)
theorem e_X2_tips (d : Nat) (x1 x2 : Int) (σ : zS) : zc (d + 1) mX2_tips [zR (some 0), zI x1, zI x2] σ = (zc d mX0_isRow [zR (some 1), zI x1] σ).bind fun r => zq (d + 1) mX2_tips 8 [some (zR (some 0)), some (zI x1), some (zI x2), none] (r.1.toList ++ []) r.2 := by
  refine Eq.trans (zc_zq (L := [some (zR (some 0)), some (zI x1), some (zI x2), none]) (by exact rfl)) ?_
  refine Eq.trans (zY_step (by exact rfl) (by exact dX2_tips_0) (by exact rfl) (pc' := 1) (S' := [zR (some 0)]) (by exact rfl) (zcn (by exact rfl))) ?_
  refine Eq.trans (zY_getR (by exact rfl) (by exact dX2_tips_1) (by exact rfl) (by exact rfl) (t := 1) (by exact rfl) (zcn (by exact rfl))) ?_
  refine Eq.trans (zY_step (by exact rfl) (by exact dX2_tips_4) (by exact rfl) (pc' := 5) (S' := [zI x1, zR (some 1)]) (by exact rfl) (zcn (by exact rfl))) ?_
  exact zY_V (by exact rfl) (by exact dX2_tips_5) (by exact rfl) (as := [zI x1]) (S' := []) (by exact rfl) (by exact rfl) (by exact zCo_k zCo1) (by exact Nat.le_of_ble_eq_true rfl) (by exact Nat.le_of_ble_eq_true rfl) (by exact Nat.le_of_ble_eq_true rfl) (zcn (by exact rfl))
theorem b_X2_tips_8 (d : Nat) (y0 x1 x2 : Int) (σ : zS) : zq (d + 1) mX2_tips 8 [some (zR (some 0)), some (zI x1), some (zI x2), none] [zI y0] σ = (if nrm y0 = 0 then some (some (zI ((-1))), σ) else (if nrm x2 < 0 then some (some (zI ((-1))), σ) else (if nrm x2 ≤ 10 then (if zix x1 8 then (zc d mX0_setTip [zR (some 1), zI x1, zI x2] σ).bind fun r => zq (d + 1) mX2_tips 42 [some (zR (some 0)), some (zI x1), some (zI x2), some (zI (σ 4 (nrm x1).toNat))] (r.1.toList ++ []) r.2 else none) else some (some (zI ((-1))), σ)))) := by
  refine Eq.trans (zY_if_eq (by exact rfl) (by exact dX2_tips_8) (t := 21) (by exact rfl) (a2 := nrm y0) (by exact rfl) (L1 := [none, none, none, none]) (by exact rfl) (zcn (by exact rfl))) (zif ?_ ?_)
  · refine Eq.trans (zY_step (by exact rfl) (by exact dX2_tips_21) (by exact rfl) (pc' := 22) (S' := [zI ((-1))]) (by exact rfl) (zcn (by exact rfl))) ?_
    exact zq_ret (by exact dX2_tips_22) (by exact rfl) (rv := some (zI ((-1)))) (by exact rfl)
  · refine Eq.trans (zY_step (by exact rfl) (by exact dX2_tips_11) (by exact rfl) (pc' := 12) (S' := [zI x2]) (by exact rfl) (zcn (by exact rfl))) ?_
    refine Eq.trans (zY_if_lt (by exact rfl) (by exact dX2_tips_12) (t := 21) (by exact rfl) (a2 := nrm x2) (by exact rfl) (L1 := [none, none, none, none]) (by exact rfl) (zcn (by exact rfl))) (zif ?_ ?_)
    · refine Eq.trans (zY_step (by exact rfl) (by exact dX2_tips_21) (by exact rfl) (pc' := 22) (S' := [zI ((-1))]) (by exact rfl) (zcn (by exact rfl))) ?_
      exact zq_ret (by exact dX2_tips_22) (by exact rfl) (rv := some (zI ((-1)))) (by exact rfl)
    · refine Eq.trans (zY_step (by exact rfl) (by exact dX2_tips_15) (by exact rfl) (pc' := 16) (S' := [zI x2]) (by exact rfl) (zcn (by exact rfl))) ?_
      refine Eq.trans (zY_step (by exact rfl) (by exact dX2_tips_16) (by exact rfl) (pc' := 18) (S' := [zI 10, zI x2]) (by exact rfl) (zcn (by exact rfl))) ?_
      refine Eq.trans (zY_ic_le (by exact rfl) (by exact dX2_tips_18) (t := 23) (by exact rfl) (a2 := nrm x2) (b2 := 10) (by exact rfl) (by decide) (L2 := [none, none, none, none]) (zcn (by exact rfl)) (by exact rfl)) (zif ?_ ?_)
      · refine Eq.trans (zY_step (by exact rfl) (by exact dX2_tips_23) (by exact rfl) (pc' := 24) (S' := [zR (some 0)]) (by exact rfl) (zcn (by exact rfl))) ?_
        refine Eq.trans (zY_getR (by exact rfl) (by exact dX2_tips_24) (by exact rfl) (by exact rfl) (t := 1) (by exact rfl) (zcn (by exact rfl))) ?_
        refine Eq.trans (zY_getR (by exact rfl) (by exact dX2_tips_27) (by exact rfl) (by exact rfl) (t := 4) (by exact rfl) (zcn (by exact rfl))) ?_
        refine Eq.trans (zY_step (by exact rfl) (by exact dX2_tips_30) (by exact rfl) (pc' := 31) (S' := [zI x1, zR (some 4)]) (by exact rfl) (zcn (by exact rfl))) ?_
        refine Eq.trans (zY_iald (by exact rfl) (by exact dX2_tips_31) (by exact rfl) (by exact rfl) (zcn (by exact rfl))) (zif ?_ rfl)
        · refine Eq.trans (zY_step (by exact rfl) (by exact dX2_tips_32) (by exact rfl) (pc' := 33) (L' := [some (zR (some 0)), some (zI x1), some (zI x2), some (zI (σ 4 (nrm x1).toNat))]) (S' := []) (by exact rfl) (zcn (by exact rfl))) ?_
          refine Eq.trans (zY_step (by exact rfl) (by exact dX2_tips_33) (by exact rfl) (pc' := 34) (S' := [zR (some 0)]) (by exact rfl) (zcn (by exact rfl))) ?_
          refine Eq.trans (zY_getR (by exact rfl) (by exact dX2_tips_34) (by exact rfl) (by exact rfl) (t := 1) (by exact rfl) (zcn (by exact rfl))) ?_
          refine Eq.trans (zY_step (by exact rfl) (by exact dX2_tips_37) (by exact rfl) (pc' := 38) (S' := [zI x1, zR (some 1)]) (by exact rfl) (zcn (by exact rfl))) ?_
          refine Eq.trans (zY_step (by exact rfl) (by exact dX2_tips_38) (by exact rfl) (pc' := 39) (S' := [zI x2, zI x1, zR (some 1)]) (by exact rfl) (zcn (by exact rfl))) ?_
          exact zY_V (by exact rfl) (by exact dX2_tips_39) (by exact rfl) (as := [zI x1, zI x2]) (S' := []) (by exact rfl) (by exact rfl) (by exact zCo_k zCo1) (by exact Nat.le_of_ble_eq_true rfl) (by exact Nat.le_of_ble_eq_true rfl) (by exact Nat.le_of_ble_eq_true rfl) (zcn (by exact rfl))
      · refine Eq.trans (zY_step (by exact rfl) (by exact dX2_tips_21) (by exact rfl) (pc' := 22) (S' := [zI ((-1))]) (by exact rfl) (zcn (by exact rfl))) ?_
        exact zq_ret (by exact dX2_tips_22) (by exact rfl) (rv := some (zI ((-1)))) (by exact rfl)
theorem b_X2_tips_42 (d : Nat) (y0 x1 x2 x3 : Int) (σ : zS) : zq d mX2_tips 42 [some (zR (some 0)), some (zI x1), some (zI x2), some (zI x3)] [zI y0] σ = (if nrm y0 = 0 then some (some (zI ((-3))), σ) else some (some (zI x3), σ)) := by
  refine Eq.trans (zY_if_eq (by exact rfl) (by exact dX2_tips_42) (t := 49) (by exact rfl) (a2 := nrm y0) (by exact rfl) (zcn (by exact rfl)) (zcn (by exact rfl))) (zif ?_ ?_)
  · refine Eq.trans (zY_step (by exact rfl) (by exact dX2_tips_49) (by exact rfl) (pc' := 51) (S' := [zI ((-3))]) (L2 := [none, none, none, none]) (by exact rfl) (by exact rfl)) ?_
    exact zq_ret (by exact dX2_tips_51) (by exact rfl) (rv := some (zI ((-3)))) (by exact rfl)
  · refine Eq.trans (zY_step (by exact rfl) (by exact dX2_tips_45) (by exact rfl) (pc' := 46) (S' := [zI x3]) (by exact rfl) (zcn (by exact rfl))) ?_
    refine Eq.trans (zY_step (by exact rfl) (by exact dX2_tips_46) (by exact rfl) (pc' := 51) (S' := [zI x3]) (L2 := [none, none, none, none]) (by exact rfl) (by exact rfl)) ?_
    exact zq_ret (by exact dX2_tips_51) (by exact rfl) (rv := some (zI x3)) (by exact rfl)
theorem e_X2_blocks (d : Nat) (x1 : Int) (σ : zS) : zc (d + 1) mX2_blocks [zR (some 0), zI x1] σ = (zc d mX0_blockOrFree [zR (some 1), zI x1] σ).bind fun r => zq (d + 1) mX2_blocks 8 [some (zR (some 0)), some (zI x1)] (r.1.toList ++ []) r.2 := by
  refine Eq.trans (zc_zq (L := [some (zR (some 0)), some (zI x1)]) (by exact rfl)) ?_
  refine Eq.trans (zY_step (by exact rfl) (by exact dX2_blocks_0) (by exact rfl) (pc' := 1) (S' := [zR (some 0)]) (by exact rfl) (zcn (by exact rfl))) ?_
  refine Eq.trans (zY_getR (by exact rfl) (by exact dX2_blocks_1) (by exact rfl) (by exact rfl) (t := 1) (by exact rfl) (zcn (by exact rfl))) ?_
  refine Eq.trans (zY_step (by exact rfl) (by exact dX2_blocks_4) (by exact rfl) (pc' := 5) (S' := [zI x1, zR (some 1)]) (by exact rfl) (zcn (by exact rfl))) ?_
  exact zY_V (by exact rfl) (by exact dX2_blocks_5) (by exact rfl) (as := [zI x1]) (S' := []) (by exact rfl) (by exact rfl) (by exact zCo_k zCo1) (by exact Nat.le_of_ble_eq_true rfl) (by exact Nat.le_of_ble_eq_true rfl) (by exact Nat.le_of_ble_eq_true rfl) (zcn (by exact rfl))
theorem b_X2_blocks_8 (d : Nat) (y0 x1 : Int) (σ : zS) : zq (d + 1) mX2_blocks 8 [some (zR (some 0)), some (zI x1)] [zI y0] σ = (if ¬ nrm y0 = 0 then (zc d mX0_isBlocked [zR (some 1), zI x1] σ).bind fun r => zq (d + 1) mX2_blocks 21 [some (zR (some 0)), some (zI x1)] (r.1.toList ++ []) r.2 else some (some (zI ((-1))), σ)) := by
  refine Eq.trans (zY_if_ne (by exact rfl) (by exact dX2_blocks_8) (t := 13) (by exact rfl) (a2 := nrm y0) (by exact rfl) (zcn (by exact rfl)) (zcn (by exact rfl))) (zif ?_ ?_)
  · refine Eq.trans (zY_step (by exact rfl) (by exact dX2_blocks_13) (by exact rfl) (pc' := 14) (S' := [zR (some 0)]) (by exact rfl) (zcn (by exact rfl))) ?_
    refine Eq.trans (zY_getR (by exact rfl) (by exact dX2_blocks_14) (by exact rfl) (by exact rfl) (t := 1) (by exact rfl) (zcn (by exact rfl))) ?_
    refine Eq.trans (zY_step (by exact rfl) (by exact dX2_blocks_17) (by exact rfl) (pc' := 18) (S' := [zI x1, zR (some 1)]) (by exact rfl) (zcn (by exact rfl))) ?_
    exact zY_V (by exact rfl) (by exact dX2_blocks_18) (by exact rfl) (as := [zI x1]) (S' := []) (by exact rfl) (by exact rfl) (by exact zCo_k zCo1) (by exact Nat.le_of_ble_eq_true rfl) (by exact Nat.le_of_ble_eq_true rfl) (by exact Nat.le_of_ble_eq_true rfl) (zcn (by exact rfl))
  · refine Eq.trans (zY_step (by exact rfl) (by exact dX2_blocks_11) (by exact rfl) (pc' := 12) (S' := [zI ((-1))]) (by exact rfl) (zcn (by exact rfl))) ?_
    exact zq_ret (by exact dX2_blocks_12) (by exact rfl) (rv := some (zI ((-1)))) (by exact rfl)
theorem b_X2_blocks_21 (d : Nat) (y0 x1 : Int) (σ : zS) : zq d mX2_blocks 21 [some (zR (some 0)), some (zI x1)] [zI y0] σ = (if nrm y0 = 0 then some (some (zI 0), σ) else some (some (zI 1), σ)) := by
  refine Eq.trans (zY_if_eq (by exact rfl) (by exact dX2_blocks_21) (t := 28) (by exact rfl) (a2 := nrm y0) (by exact rfl) (zcn (by exact rfl)) (zcn (by exact rfl))) (zif ?_ ?_)
  · refine Eq.trans (zY_step (by exact rfl) (by exact dX2_blocks_28) (by exact rfl) (pc' := 29) (S' := [zI 0]) (L2 := [none, none]) (by exact rfl) (by exact rfl)) ?_
    exact zq_ret (by exact dX2_blocks_29) (by exact rfl) (rv := some (zI 0)) (by exact rfl)
  · refine Eq.trans (zY_step (by exact rfl) (by exact dX2_blocks_24) (by exact rfl) (pc' := 25) (S' := [zI 1]) (by exact rfl) (zcn (by exact rfl))) ?_
    refine Eq.trans (zY_step (by exact rfl) (by exact dX2_blocks_25) (by exact rfl) (pc' := 29) (S' := [zI 1]) (L2 := [none, none]) (by exact rfl) (by exact rfl)) ?_
    exact zq_ret (by exact dX2_blocks_29) (by exact rfl) (rv := some (zI 1)) (by exact rfl)
theorem e_X2_hour (d : Nat) (x1 : Int) (σ : zS) : zc (d + 1) mX2_hour [zR (some 0), zI x1] σ = (zc d mX0_setClock [zR (some 1), zI x1] σ).bind fun r => zq (d + 1) mX2_hour 16 [some (zR (some 0)), some (zI x1), some (zI (σ 1 1))] (r.1.toList ++ []) r.2 := by
  refine Eq.trans (zc_zq (L := [some (zR (some 0)), some (zI x1), none]) (by exact rfl)) ?_
  refine Eq.trans (zY_step (by exact rfl) (by exact dX2_hour_0) (by exact rfl) (pc' := 1) (S' := [zR (some 0)]) (by exact rfl) (zcn (by exact rfl))) ?_
  refine Eq.trans (zY_getR (by exact rfl) (by exact dX2_hour_1) (by exact rfl) (by exact rfl) (t := 1) (by exact rfl) (zcn (by exact rfl))) ?_
  refine Eq.trans (zY_getI (by exact rfl) (by exact dX2_hour_4) (by exact rfl) (by exact zCo_k zCo1) (by exact zCo_r1 zCo1) (zcn (by exact rfl))) ?_
  refine Eq.trans (zY_step (by exact rfl) (by exact dX2_hour_7) (by exact rfl) (pc' := 8) (L' := [some (zR (some 0)), some (zI x1), some (zI (σ 1 1))]) (S' := []) (by exact rfl) (zcn (by exact rfl))) ?_
  refine Eq.trans (zY_step (by exact rfl) (by exact dX2_hour_8) (by exact rfl) (pc' := 9) (S' := [zR (some 0)]) (by exact rfl) (zcn (by exact rfl))) ?_
  refine Eq.trans (zY_getR (by exact rfl) (by exact dX2_hour_9) (by exact rfl) (by exact rfl) (t := 1) (by exact rfl) (zcn (by exact rfl))) ?_
  refine Eq.trans (zY_step (by exact rfl) (by exact dX2_hour_12) (by exact rfl) (pc' := 13) (S' := [zI x1, zR (some 1)]) (by exact rfl) (zcn (by exact rfl))) ?_
  exact zY_V (by exact rfl) (by exact dX2_hour_13) (by exact rfl) (as := [zI x1]) (S' := []) (by exact rfl) (by exact rfl) (by exact zCo_k zCo1) (by exact Nat.le_of_ble_eq_true rfl) (by exact Nat.le_of_ble_eq_true rfl) (by exact Nat.le_of_ble_eq_true rfl) (zcn (by exact rfl))
theorem b_X2_hour_16 (d : Nat) (y0 x1 x2 : Int) (σ : zS) : zq d mX2_hour 16 [some (zR (some 0)), some (zI x1), some (zI x2)] [zI y0] σ = (if nrm y0 = 0 then some (some (zI ((-1))), σ) else some (some (zI x2), σ)) := by
  refine Eq.trans (zY_if_eq (by exact rfl) (by exact dX2_hour_16) (t := 23) (by exact rfl) (a2 := nrm y0) (by exact rfl) (zcn (by exact rfl)) (zcn (by exact rfl))) (zif ?_ ?_)
  · refine Eq.trans (zY_step (by exact rfl) (by exact dX2_hour_23) (by exact rfl) (pc' := 24) (S' := [zI ((-1))]) (L2 := [none, none, none]) (by exact rfl) (by exact rfl)) ?_
    exact zq_ret (by exact dX2_hour_24) (by exact rfl) (rv := some (zI ((-1)))) (by exact rfl)
  · refine Eq.trans (zY_step (by exact rfl) (by exact dX2_hour_19) (by exact rfl) (pc' := 20) (S' := [zI x2]) (by exact rfl) (zcn (by exact rfl))) ?_
    refine Eq.trans (zY_step (by exact rfl) (by exact dX2_hour_20) (by exact rfl) (pc' := 24) (S' := [zI x2]) (L2 := [none, none, none]) (by exact rfl) (by exact rfl)) ?_
    exact zq_ret (by exact dX2_hour_24) (by exact rfl) (rv := some (zI x2)) (by exact rfl)
theorem e_X2_change (d : Nat) (x1 x2 : Int) (σ : zS) : zc (d + 1) mX2_change [zR (some 0), zI x1, zI x2] σ = (zc d mX0_changePlaces [zR (some 1), zI x1, zI x2] σ).bind fun r => zq (d + 1) mX2_change 9 [some (zR (some 0)), some (zI x1), some (zI x2)] (r.1.toList ++ []) r.2 := by
  refine Eq.trans (zc_zq (L := [some (zR (some 0)), some (zI x1), some (zI x2)]) (by exact rfl)) ?_
  refine Eq.trans (zY_step (by exact rfl) (by exact dX2_change_0) (by exact rfl) (pc' := 1) (S' := [zR (some 0)]) (by exact rfl) (zcn (by exact rfl))) ?_
  refine Eq.trans (zY_getR (by exact rfl) (by exact dX2_change_1) (by exact rfl) (by exact rfl) (t := 1) (by exact rfl) (zcn (by exact rfl))) ?_
  refine Eq.trans (zY_step (by exact rfl) (by exact dX2_change_4) (by exact rfl) (pc' := 5) (S' := [zI x1, zR (some 1)]) (by exact rfl) (zcn (by exact rfl))) ?_
  refine Eq.trans (zY_step (by exact rfl) (by exact dX2_change_5) (by exact rfl) (pc' := 6) (S' := [zI x2, zI x1, zR (some 1)]) (by exact rfl) (zcn (by exact rfl))) ?_
  exact zY_V (by exact rfl) (by exact dX2_change_6) (by exact rfl) (as := [zI x1, zI x2]) (S' := []) (by exact rfl) (by exact rfl) (by exact zCo_k zCo1) (by exact Nat.le_of_ble_eq_true rfl) (by exact Nat.le_of_ble_eq_true rfl) (by exact Nat.le_of_ble_eq_true rfl) (zcn (by exact rfl))
theorem b_X2_change_9 (d : Nat) (y0 x1 x2 : Int) (σ : zS) : zq d mX2_change 9 [some (zR (some 0)), some (zI x1), some (zI x2)] [zI y0] σ = (if nrm y0 = 0 then some (some (zI ((-1))), σ) else some (some (zI 1), σ)) := by
  refine Eq.trans (zY_if_eq (by exact rfl) (by exact dX2_change_9) (t := 16) (by exact rfl) (a2 := nrm y0) (by exact rfl) (zcn (by exact rfl)) (zcn (by exact rfl))) (zif ?_ ?_)
  · refine Eq.trans (zY_step (by exact rfl) (by exact dX2_change_16) (by exact rfl) (pc' := 17) (S' := [zI ((-1))]) (L2 := [none, none, none]) (by exact rfl) (by exact rfl)) ?_
    exact zq_ret (by exact dX2_change_17) (by exact rfl) (rv := some (zI ((-1)))) (by exact rfl)
  · refine Eq.trans (zY_step (by exact rfl) (by exact dX2_change_12) (by exact rfl) (pc' := 13) (S' := [zI 1]) (by exact rfl) (zcn (by exact rfl))) ?_
    refine Eq.trans (zY_step (by exact rfl) (by exact dX2_change_13) (by exact rfl) (pc' := 17) (S' := [zI 1]) (L2 := [none, none, none]) (by exact rfl) (by exact rfl)) ?_
    exact zq_ret (by exact dX2_change_17) (by exact rfl) (rv := some (zI 1)) (by exact rfl)
theorem e_X2_rounds (d : Nat) (x1 : Int) (σ : zS) : zc (d + 1) mX2_rounds [zR (some 0), zI x1] σ = (if nrm x1 < 1 then some (some (zI ((-1))), σ) else (if nrm x1 ≤ 60 then (zc d mX0_travel [zR (some 1), zI x1] σ).bind fun r => zq (d + 1) mX2_rounds 21 [some (zR (some 0)), some (zI x1)] (r.1.toList ++ []) r.2 else some (some (zI ((-1))), σ))) := by
  refine Eq.trans (zc_zq (L := [some (zR (some 0)), some (zI x1)]) (by exact rfl)) ?_
  refine Eq.trans (zY_step (by exact rfl) (by exact dX2_rounds_0) (by exact rfl) (pc' := 1) (S' := [zI x1]) (by exact rfl) (zcn (by exact rfl))) ?_
  refine Eq.trans (zY_step (by exact rfl) (by exact dX2_rounds_1) (by exact rfl) (pc' := 2) (S' := [zI 1, zI x1]) (by exact rfl) (zcn (by exact rfl))) ?_
  refine Eq.trans (zY_ic_lt (by exact rfl) (by exact dX2_rounds_2) (t := 11) (by exact rfl) (a2 := nrm x1) (b2 := 1) (by exact rfl) (by decide) (L1 := [none, none]) (by exact rfl) (zcn (by exact rfl))) (zif ?_ ?_)
  · refine Eq.trans (zY_step (by exact rfl) (by exact dX2_rounds_11) (by exact rfl) (pc' := 12) (S' := [zI ((-1))]) (by exact rfl) (zcn (by exact rfl))) ?_
    exact zq_ret (by exact dX2_rounds_12) (by exact rfl) (rv := some (zI ((-1)))) (by exact rfl)
  · refine Eq.trans (zY_step (by exact rfl) (by exact dX2_rounds_5) (by exact rfl) (pc' := 6) (S' := [zI x1]) (by exact rfl) (zcn (by exact rfl))) ?_
    refine Eq.trans (zY_step (by exact rfl) (by exact dX2_rounds_6) (by exact rfl) (pc' := 8) (S' := [zI 60, zI x1]) (by exact rfl) (zcn (by exact rfl))) ?_
    refine Eq.trans (zY_ic_le (by exact rfl) (by exact dX2_rounds_8) (t := 13) (by exact rfl) (a2 := nrm x1) (b2 := 60) (by exact rfl) (by decide) (L2 := [none, none]) (zcn (by exact rfl)) (by exact rfl)) (zif ?_ ?_)
    · refine Eq.trans (zY_step (by exact rfl) (by exact dX2_rounds_13) (by exact rfl) (pc' := 14) (S' := [zR (some 0)]) (by exact rfl) (zcn (by exact rfl))) ?_
      refine Eq.trans (zY_getR (by exact rfl) (by exact dX2_rounds_14) (by exact rfl) (by exact rfl) (t := 1) (by exact rfl) (zcn (by exact rfl))) ?_
      refine Eq.trans (zY_step (by exact rfl) (by exact dX2_rounds_17) (by exact rfl) (pc' := 18) (S' := [zI x1, zR (some 1)]) (by exact rfl) (zcn (by exact rfl))) ?_
      exact zY_V (by exact rfl) (by exact dX2_rounds_18) (by exact rfl) (as := [zI x1]) (S' := []) (by exact rfl) (by exact rfl) (by exact zCo_k zCo1) (by exact Nat.le_of_ble_eq_true rfl) (by exact Nat.le_of_ble_eq_true rfl) (by exact Nat.le_of_ble_eq_true rfl) (zcn (by exact rfl))
    · refine Eq.trans (zY_step (by exact rfl) (by exact dX2_rounds_11) (by exact rfl) (pc' := 12) (S' := [zI ((-1))]) (by exact rfl) (zcn (by exact rfl))) ?_
      exact zq_ret (by exact dX2_rounds_12) (by exact rfl) (rv := some (zI ((-1)))) (by exact rfl)
theorem b_X2_rounds_21 (d : Nat) (y0 x1 : Int) (σ : zS) : zq (d + 1) mX2_rounds 21 [some (zR (some 0)), some (zI x1)] [zI y0] σ = (if nrm y0 = 0 then some (some (zI ((-3))), σ) else (zc d mX0_allTips [zR (some 1)] σ).bind fun r => zq (d + 1) mX2_rounds 31 [some (zR (some 0)), some (zI x1)] (r.1.toList ++ []) r.2) := by
  refine Eq.trans (zY_if_eq (by exact rfl) (by exact dX2_rounds_21) (t := 34) (by exact rfl) (a2 := nrm y0) (by exact rfl) (zcn (by exact rfl)) (zcn (by exact rfl))) (zif ?_ ?_)
  · refine Eq.trans (zY_step (by exact rfl) (by exact dX2_rounds_34) (by exact rfl) (pc' := 36) (S' := [zI ((-3))]) (L2 := [none, none]) (by exact rfl) (by exact rfl)) ?_
    exact zq_ret (by exact dX2_rounds_36) (by exact rfl) (rv := some (zI ((-3)))) (by exact rfl)
  · refine Eq.trans (zY_step (by exact rfl) (by exact dX2_rounds_24) (by exact rfl) (pc' := 25) (S' := [zR (some 0)]) (by exact rfl) (zcn (by exact rfl))) ?_
    refine Eq.trans (zY_getR (by exact rfl) (by exact dX2_rounds_25) (by exact rfl) (by exact rfl) (t := 1) (by exact rfl) (zcn (by exact rfl))) ?_
    exact zY_V (by exact rfl) (by exact dX2_rounds_28) (by exact rfl) (as := []) (S' := []) (by exact rfl) (by exact rfl) (by exact zCo_k zCo1) (by exact Nat.le_of_ble_eq_true rfl) (by exact Nat.le_of_ble_eq_true rfl) (by exact Nat.le_of_ble_eq_true rfl) (zcn (by exact rfl))
theorem b_X2_rounds_31 (d : Nat) (y0 x1 : Int) (σ : zS) : zq d mX2_rounds 31 [some (zR (some 0)), some (zI x1)] [zI y0] σ = some (some (zI y0), σ) := by
  refine Eq.trans (zY_step (by exact rfl) (by exact dX2_rounds_31) (by exact rfl) (pc' := 36) (S' := [zI y0]) (L2 := [none, none]) (by exact rfl) (by exact rfl)) ?_
  exact zq_ret (by exact dX2_rounds_36) (by exact rfl) (rv := some (zI y0)) (by exact rfl)
theorem e_X2_behind (d : Nat) (x1 x2 x3 : Int) (σ : zS) : zc (d + 1) mX2_behind [zR (some 0), zI x1, zI x2, zI x3] σ = (zc d mX0_isRow [zR (some 1), zI x1] σ).bind fun r => zq (d + 1) mX2_behind 8 [some (zR (some 0)), some (zI x1), some (zI x2), some (zI x3)] (r.1.toList ++ []) r.2 := by
  refine Eq.trans (zc_zq (L := [some (zR (some 0)), some (zI x1), some (zI x2), some (zI x3)]) (by exact rfl)) ?_
  refine Eq.trans (zY_step (by exact rfl) (by exact dX2_behind_0) (by exact rfl) (pc' := 1) (S' := [zR (some 0)]) (by exact rfl) (zcn (by exact rfl))) ?_
  refine Eq.trans (zY_getR (by exact rfl) (by exact dX2_behind_1) (by exact rfl) (by exact rfl) (t := 1) (by exact rfl) (zcn (by exact rfl))) ?_
  refine Eq.trans (zY_step (by exact rfl) (by exact dX2_behind_4) (by exact rfl) (pc' := 5) (S' := [zI x1, zR (some 1)]) (by exact rfl) (zcn (by exact rfl))) ?_
  exact zY_V (by exact rfl) (by exact dX2_behind_5) (by exact rfl) (as := [zI x1]) (S' := []) (by exact rfl) (by exact rfl) (by exact zCo_k zCo1) (by exact Nat.le_of_ble_eq_true rfl) (by exact Nat.le_of_ble_eq_true rfl) (by exact Nat.le_of_ble_eq_true rfl) (zcn (by exact rfl))
theorem b_X2_behind_8 (d : Nat) (y0 x1 x2 x3 : Int) (σ : zS) : zq (d + 1) mX2_behind 8 [some (zR (some 0)), some (zI x1), some (zI x2), some (zI x3)] [zI y0] σ = (if nrm y0 = 0 then some (some (zI ((-1))), σ) else (zc d mX2_isMindRounds [zI x2] σ).bind fun r => zq (d + 1) mX2_behind 15 [some (zR (some 0)), some (zI x1), some (zI x2), some (zI x3)] (r.1.toList ++ []) r.2) := by
  refine Eq.trans (zY_if_eq (by exact rfl) (by exact dX2_behind_8) (t := 27) (by exact rfl) (a2 := nrm y0) (by exact rfl) (L1 := [none, none, none, none]) (by exact rfl) (zcn (by exact rfl))) (zif ?_ ?_)
  · refine Eq.trans (zY_step (by exact rfl) (by exact dX2_behind_27) (by exact rfl) (pc' := 28) (S' := [zI ((-1))]) (by exact rfl) (zcn (by exact rfl))) ?_
    exact zq_ret (by exact dX2_behind_28) (by exact rfl) (rv := some (zI ((-1)))) (by exact rfl)
  · refine Eq.trans (zY_step (by exact rfl) (by exact dX2_behind_11) (by exact rfl) (pc' := 12) (S' := [zI x2]) (by exact rfl) (zcn (by exact rfl))) ?_
    exact zY_S (by exact rfl) (by exact dX2_behind_12) (by exact rfl) (by exact Or.inl rfl) (as := [zI x2]) (S' := []) (by exact rfl) (by exact rfl) (by exact Nat.le_of_ble_eq_true rfl) (by exact Nat.le_of_ble_eq_true rfl) (zcn (by exact rfl))
theorem b_X2_behind_15 (d : Nat) (y0 x1 x2 x3 : Int) (σ : zS) : zq (d + 1) mX2_behind 15 [some (zR (some 0)), some (zI x1), some (zI x2), some (zI x3)] [zI y0] σ = (if nrm y0 = 0 then some (some (zI ((-1))), σ) else (if nrm x3 < 0 then some (some (zI ((-1))), σ) else (if nrm x3 ≤ 1 then (zc d mX2_thinkOn [zR (some 0), zI x2] σ).bind fun r => zq (d + 1) mX2_behind 34 [some (zR (some 0)), some (zI x1), some (zI x2), some (zI x3)] (r.1.toList ++ []) r.2 else some (some (zI ((-1))), σ)))) := by
  refine Eq.trans (zY_if_eq (by exact rfl) (by exact dX2_behind_15) (t := 27) (by exact rfl) (a2 := nrm y0) (by exact rfl) (L1 := [none, none, none, none]) (by exact rfl) (zcn (by exact rfl))) (zif ?_ ?_)
  · refine Eq.trans (zY_step (by exact rfl) (by exact dX2_behind_27) (by exact rfl) (pc' := 28) (S' := [zI ((-1))]) (by exact rfl) (zcn (by exact rfl))) ?_
    exact zq_ret (by exact dX2_behind_28) (by exact rfl) (rv := some (zI ((-1)))) (by exact rfl)
  · refine Eq.trans (zY_step (by exact rfl) (by exact dX2_behind_18) (by exact rfl) (pc' := 19) (S' := [zI x3]) (by exact rfl) (zcn (by exact rfl))) ?_
    refine Eq.trans (zY_if_lt (by exact rfl) (by exact dX2_behind_19) (t := 27) (by exact rfl) (a2 := nrm x3) (by exact rfl) (L1 := [none, none, none, none]) (by exact rfl) (zcn (by exact rfl))) (zif ?_ ?_)
    · refine Eq.trans (zY_step (by exact rfl) (by exact dX2_behind_27) (by exact rfl) (pc' := 28) (S' := [zI ((-1))]) (by exact rfl) (zcn (by exact rfl))) ?_
      exact zq_ret (by exact dX2_behind_28) (by exact rfl) (rv := some (zI ((-1)))) (by exact rfl)
    · refine Eq.trans (zY_step (by exact rfl) (by exact dX2_behind_22) (by exact rfl) (pc' := 23) (S' := [zI x3]) (by exact rfl) (zcn (by exact rfl))) ?_
      refine Eq.trans (zY_step (by exact rfl) (by exact dX2_behind_23) (by exact rfl) (pc' := 24) (S' := [zI 1, zI x3]) (by exact rfl) (zcn (by exact rfl))) ?_
      refine Eq.trans (zY_ic_le (by exact rfl) (by exact dX2_behind_24) (t := 29) (by exact rfl) (a2 := nrm x3) (b2 := 1) (by exact rfl) (by decide) (L2 := [none, none, none, none]) (zcn (by exact rfl)) (by exact rfl)) (zif ?_ ?_)
      · refine Eq.trans (zY_step (by exact rfl) (by exact dX2_behind_29) (by exact rfl) (pc' := 30) (S' := [zR (some 0)]) (by exact rfl) (zcn (by exact rfl))) ?_
        refine Eq.trans (zY_step (by exact rfl) (by exact dX2_behind_30) (by exact rfl) (pc' := 31) (S' := [zI x2, zR (some 0)]) (by exact rfl) (zcn (by exact rfl))) ?_
        exact zY_V (by exact rfl) (by exact dX2_behind_31) (by exact rfl) (as := [zI x2]) (S' := []) (by exact rfl) (by exact rfl) (by exact rfl) (by exact Nat.le_of_ble_eq_true rfl) (by exact Nat.le_of_ble_eq_true rfl) (by exact Nat.le_of_ble_eq_true rfl) (zcn (by exact rfl))
      · refine Eq.trans (zY_step (by exact rfl) (by exact dX2_behind_27) (by exact rfl) (pc' := 28) (S' := [zI ((-1))]) (by exact rfl) (zcn (by exact rfl))) ?_
        exact zq_ret (by exact dX2_behind_28) (by exact rfl) (rv := some (zI ((-1)))) (by exact rfl)
theorem b_X2_behind_34 (d : Nat) (x1 x2 x3 : Int) (σ : zS) : zq (d + 1) mX2_behind 34 [some (zR (some 0)), some (zI x1), some (zI x2), some (zI x3)] [] σ = (if ¬ nrm x3 = 0 then (zc d mX0_roomAt [zR (some 6), zI x1] σ).bind fun r => zq (d + 1) mX2_behind 58 [none, none, none, none] (r.1.toList ++ []) r.2 else (if zix x1 8 then some (some (zI (σ 9 (nrm x1).toNat)), σ) else none)) := by
  refine Eq.trans (zY_step (by exact rfl) (by exact dX2_behind_34) (by exact rfl) (pc' := 35) (S' := [zI x3]) (by exact rfl) (zcn (by exact rfl))) ?_
  refine Eq.trans (zY_if_ne (by exact rfl) (by exact dX2_behind_35) (t := 50) (by exact rfl) (a2 := nrm x3) (by exact rfl) (zcn (by exact rfl)) (zcn (by exact rfl))) (zif ?_ ?_)
  · refine Eq.trans (zY_step (by exact rfl) (by exact dX2_behind_50) (by exact rfl) (pc' := 51) (S' := [zR (some 0)]) (by exact rfl) (zcn (by exact rfl))) ?_
    refine Eq.trans (zY_getR (by exact rfl) (by exact dX2_behind_51) (by exact rfl) (by exact rfl) (t := 6) (by exact rfl) (zcn (by exact rfl))) ?_
    refine Eq.trans (zY_step (by exact rfl) (by exact dX2_behind_54) (by exact rfl) (pc' := 55) (S' := [zI x1, zR (some 6)]) (by exact rfl) (zcn (by exact rfl))) ?_
    exact zY_V (by exact rfl) (by exact dX2_behind_55) (by exact rfl) (as := [zI x1]) (S' := []) (by exact rfl) (by exact rfl) (by exact zCo_k zCo6) (by exact Nat.le_of_ble_eq_true rfl) (by exact Nat.le_of_ble_eq_true rfl) (by exact Nat.le_of_ble_eq_true rfl) (L2 := [none, none, none, none]) (by exact rfl)
  · refine Eq.trans (zY_step (by exact rfl) (by exact dX2_behind_38) (by exact rfl) (pc' := 39) (S' := [zR (some 0)]) (by exact rfl) (zcn (by exact rfl))) ?_
    refine Eq.trans (zY_getR (by exact rfl) (by exact dX2_behind_39) (by exact rfl) (by exact rfl) (t := 6) (by exact rfl) (zcn (by exact rfl))) ?_
    refine Eq.trans (zY_getR (by exact rfl) (by exact dX2_behind_42) (by exact rfl) (by exact rfl) (t := 9) (by exact rfl) (zcn (by exact rfl))) ?_
    refine Eq.trans (zY_step (by exact rfl) (by exact dX2_behind_45) (by exact rfl) (pc' := 46) (S' := [zI x1, zR (some 9)]) (by exact rfl) (zcn (by exact rfl))) ?_
    refine Eq.trans (zY_iald (by exact rfl) (by exact dX2_behind_46) (by exact rfl) (by exact rfl) (zcn (by exact rfl))) (zif ?_ rfl)
    · refine Eq.trans (zY_step (by exact rfl) (by exact dX2_behind_47) (by exact rfl) (pc' := 58) (S' := [zI (σ 9 (nrm x1).toNat)]) (L2 := [none, none, none, none]) (by exact rfl) (by exact rfl)) ?_
      exact zq_ret (by exact dX2_behind_58) (by exact rfl) (rv := some (zI (σ 9 (nrm x1).toNat))) (by exact rfl)
theorem b_X2_behind_58 (d : Nat) (y0 : Int) (σ : zS) : zq d mX2_behind 58 [none, none, none, none] [zI y0] σ = some (some (zI y0), σ) := by
  exact zq_ret (by exact dX2_behind_58) (by exact rfl) (rv := some (zI y0)) (by exact rfl)
