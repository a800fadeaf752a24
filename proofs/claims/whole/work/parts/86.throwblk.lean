def zwes (pc : Nat) : Bool := pc == 10 || pc == 29 || pc == 48
noncomputable abbrev zwe (d : Nat) (pc : Nat) (L : zL) (S : List zV) (σ : zS) : Option zQ := zY d mX2_element none zwes some pc L S σ
theorem b_X2_element_0 (d : Nat) (x1 x2 : Int) (σ : zS) : zwe (d + 1) 0 [some (zR (some 0)), some (zI x1), some (zI x2), none] [] σ = (zc d mX2_shelfAt [zR (some 0), zI x1] σ).bind fun r => zwe (d + 1) 5 [some (zR (some 0)), some (zI x1), some (zI x2), none] (r.1.toList ++ []) r.2 := by
  refine Eq.trans (zY_step (by exact rfl) (by exact dX2_element_0) (by exact rfl) (pc' := 1) (S' := [zR (some 0)]) (by exact rfl) (zcn (by exact rfl))) ?_
  refine Eq.trans (zY_step (by exact rfl) (by exact dX2_element_1) (by exact rfl) (pc' := 2) (S' := [zI x1, zR (some 0)]) (by exact rfl) (zcn (by exact rfl))) ?_
  exact zY_V (by exact rfl) (by exact dX2_element_2) (by exact rfl) (as := [zI x1]) (S' := []) (by exact rfl) (by exact rfl) (by exact rfl) (by exact Nat.le_of_ble_eq_true rfl) (by exact Nat.le_of_ble_eq_true rfl) (by exact Nat.le_of_ble_eq_true rfl) (zcn (by exact rfl))
theorem b_X2_element_5 (d : Nat) (x1 x2 : Int) {q5 : Nat} (hq5 : zSh q5) (σ : zS) : zwe (d + 1) 5 [some (zR (some 0)), some (zI x1), some (zI x2), none] [zR (some q5)] σ = (if nrm (σ q5 0) = 2 then (zc d mX1_isPlace [zR (some q5), zI x2] σ).bind fun r => zwe (d + 1) 45 [some (zR (some 0)), some (zI x1), some (zI x2), some (zR (some q5))] (r.1.toList ++ []) r.2 else some (none, 29, [some (zR (some 0)), some (zI x1), some (zI x2), some (zR (some q5))], [], σ)) := by
  refine Eq.trans (zY_step (by exact rfl) (by exact dX2_element_5) (by exact rfl) (pc' := 6) (L' := [some (zR (some 0)), some (zI x1), some (zI x2), some (zR (some q5))]) (S' := []) (by exact rfl) (zcn (by exact rfl))) ?_
  refine Eq.trans (zY_step (by exact rfl) (by exact dX2_element_6) (by exact rfl) (pc' := 7) (S' := [zR (some q5)]) (by exact rfl) (zcn (by exact rfl))) ?_
  refine Eq.trans (zY_step (by exact rfl) (by exact dX2_element_7) (by exact rfl) (pc' := 21) (S' := []) (by exact rfl) (zcn (by exact rfl))) ?_
  refine Eq.trans (zY_step (by exact rfl) (by exact dX2_element_21) (by exact rfl) (pc' := 22) (S' := [zR (some q5)]) (by exact rfl) (zcn (by exact rfl))) ?_
  refine Eq.trans (zY_getI (by exact rfl) (by exact dX2_element_22) (by exact rfl) (by exact zSh_k hq5) (by exact zSh_r0 hq5) (zcn (by exact rfl))) ?_
  refine Eq.trans (zY_step (by exact rfl) (by exact dX2_element_25) (by exact rfl) (pc' := 26) (S' := [zI 2, zI (σ q5 0)]) (by exact rfl) (zcn (by exact rfl))) ?_
  refine Eq.trans (zY_ic_eq (by exact rfl) (by exact dX2_element_26) (t := 40) (by exact rfl) (a2 := nrm (σ q5 0)) (b2 := 2) (by exact rfl) (by decide) (zcn (by exact rfl)) (zcn (by exact rfl))) (zif ?_ ?_)
  · refine Eq.trans (zY_step (by exact rfl) (by exact dX2_element_40) (by exact rfl) (pc' := 41) (S' := [zR (some q5)]) (by exact rfl) (zcn (by exact rfl))) ?_
    refine Eq.trans (zY_step (by exact rfl) (by exact dX2_element_41) (by exact rfl) (pc' := 42) (S' := [zI x2, zR (some q5)]) (by exact rfl) (zcn (by exact rfl))) ?_
    exact zY_V (by exact rfl) (by exact dX2_element_42) (by exact rfl) (as := [zI x2]) (S' := []) (by exact rfl) (by exact rfl) (by exact zSh_k hq5) (by exact Nat.le_of_ble_eq_true rfl) (by exact Nat.le_of_ble_eq_true rfl) (by exact Nat.le_of_ble_eq_true rfl) (zcn (by exact rfl))
  · exact zY_stop (by exact rfl)
theorem b_X2_element_5_2 (d : Nat) (x1 x2 : Int) (σ : zS) : zwe d 5 [some (zR (some 0)), some (zI x1), some (zI x2), none] [zR none] σ = some (none, 10, [some (zR (some 0)), some (zI x1), some (zI x2), some (zR none)], [], σ) := by
  refine Eq.trans (zY_step (by exact rfl) (by exact dX2_element_5) (by exact rfl) (pc' := 6) (L' := [some (zR (some 0)), some (zI x1), some (zI x2), some (zR none)]) (S' := []) (by exact rfl) (zcn (by exact rfl))) ?_
  refine Eq.trans (zY_step (by exact rfl) (by exact dX2_element_6) (by exact rfl) (pc' := 7) (S' := [zR none]) (by exact rfl) (zcn (by exact rfl))) ?_
  refine Eq.trans (zY_step (by exact rfl) (by exact dX2_element_7) (by exact rfl) (pc' := 10) (S' := []) (by exact rfl) (zcn (by exact rfl))) ?_
  exact zY_stop (by exact rfl)
theorem b_X2_element_45 (d : Nat) (y0 x1 x2 : Int) {q5 : Nat} (hq5 : zSh q5) (σ : zS) : zwe d 45 [some (zR (some 0)), some (zI x1), some (zI x2), some (zR (some q5))] [zI y0] σ = (if ¬ nrm y0 = 0 then (if zix x2 100 then some (some (some (zJ (nrm (σ (q5 + 1) (nrm x2).toNat)))), 66, [some (zR (some 0)), some (zI x1), some (zI x2), some (zR (some q5))], [zJ (nrm (σ (q5 + 1) (nrm x2).toNat))], σ) else none) else some (none, 48, [some (zR (some 0)), some (zI x1), some (zI x2), some (zR (some q5))], [], σ)) := by
  refine Eq.trans (zY_if_ne (by exact rfl) (by exact dX2_element_45) (t := 59) (by exact rfl) (a2 := nrm y0) (by exact rfl) (zcn (by exact rfl)) (zcn (by exact rfl))) (zif ?_ ?_)
  · refine Eq.trans (zY_step (by exact rfl) (by exact dX2_element_59) (by exact rfl) (pc' := 60) (S' := [zR (some q5)]) (by exact rfl) (zcn (by exact rfl))) ?_
    refine Eq.trans (zY_getR (by exact rfl) (by exact dX2_element_60) (by exact rfl) (by exact zSh_k hq5) (by exact zSh_r5 hq5) (zcn (by exact rfl))) ?_
    refine Eq.trans (zY_step (by exact rfl) (by exact dX2_element_63) (by exact rfl) (pc' := 64) (S' := [zI x2, zR (some (q5 + 1))]) (by exact rfl) (zcn (by exact rfl))) ?_
    refine Eq.trans (zY_iald (by exact rfl) (by exact dX2_element_64) (by exact zSh_a1 hq5) (by exact zSh_n1 hq5) (zcn (by exact rfl))) (zif ?_ rfl)
    · refine Eq.trans (zY_step (by exact rfl) (by exact dX2_element_65) (by exact rfl) (pc' := 66) (S' := [zJ (nrm (σ (q5 + 1) (nrm x2).toNat))]) (by exact rfl) (zcn (by exact rfl))) ?_
      exact zY_ret (by exact rfl) (by exact dX2_element_66) (by exact rfl) (by exact rfl)
  · exact zY_stop (by exact rfl)
def zwfs (pc : Nat) : Bool := pc == 45 || pc == 56 || pc == 67
noncomputable abbrev zwf (d : Nat) (pc : Nat) (L : zL) (S : List zV) (σ : zS) : Option zQ := zY d mX2_throwFailure none zwfs some pc L S σ
theorem b_X2_throwFailure_0 (d : Nat) (x0 x1 : Int) (σ : zS) : zwf d 0 [some (zI x0), some (zI x1)] [] σ = (if ¬ nrm x1 = 0 then (if nrm x0 = 2 then some (none, 56, [some (zI x0), some (zI x1)], [], σ) else (if nrm x0 = 3 then some (some (none), 44, [some (zI x0), some (zI x1)], [], σ) else (if nrm x0 = 4 then some (none, 67, [some (zI x0), some (zI x1)], [], σ) else (if nrm x0 = 5 then some (none, 67, [some (zI x0), some (zI x1)], [], σ) else (if nrm x0 = 6 then some (some (none), 44, [some (zI x0), some (zI x1)], [], σ) else (if nrm x0 = 7 then some (none, 45, [some (zI x0), some (zI x1)], [], σ) else some (none, 67, [some (zI x0), some (zI x1)], [], σ))))))) else some (some (none), 4, [some (zI x0), some (zI x1)], [], σ)) := by
  refine Eq.trans (zY_step (by exact rfl) (by exact dX2_throwFailure_0) (by exact rfl) (pc' := 1) (S' := [zI x1]) (by exact rfl) (zcn (by exact rfl))) ?_
  refine Eq.trans (zY_if_ne (by exact rfl) (by exact dX2_throwFailure_1) (t := 5) (by exact rfl) (a2 := nrm x1) (by exact rfl) (zcn (by exact rfl)) (zcn (by exact rfl))) (zif ?_ ?_)
  · refine Eq.trans (zY_step (by exact rfl) (by exact dX2_throwFailure_5) (by exact rfl) (pc' := 6) (S' := [zI x0]) (by exact rfl) (zcn (by exact rfl))) ?_
    refine Eq.trans (zY_tsw (by exact rfl) (by exact dX2_throwFailure_6) (by exact rfl) (dt := 67) (by exact rfl) (ts := [(2, 56), (3, 44), (4, 67), (5, 67), (6, 44), (7, 45)]) (by exact rfl)) ?_
    refine zif ?_ (zif ?_ (zif ?_ (zif ?_ (zif ?_ (zif ?_ (?_))))))
    · refine Eq.trans (zY_at (L2 := [some (zI x0), some (zI x1)]) (zcn (by exact rfl))) ?_
      exact zY_stop (by exact rfl)
    · refine Eq.trans (zY_at (L2 := [some (zI x0), some (zI x1)]) (zcn (by exact rfl))) ?_
      exact zY_ret (by exact rfl) (by exact dX2_throwFailure_44) (by exact rfl) (by exact rfl)
    · refine Eq.trans (zY_at (L2 := [some (zI x0), some (zI x1)]) (zcn (by exact rfl))) ?_
      exact zY_stop (by exact rfl)
    · refine Eq.trans (zY_at (L2 := [some (zI x0), some (zI x1)]) (zcn (by exact rfl))) ?_
      exact zY_stop (by exact rfl)
    · refine Eq.trans (zY_at (L2 := [some (zI x0), some (zI x1)]) (zcn (by exact rfl))) ?_
      exact zY_ret (by exact rfl) (by exact dX2_throwFailure_44) (by exact rfl) (by exact rfl)
    · refine Eq.trans (zY_at (L2 := [some (zI x0), some (zI x1)]) (zcn (by exact rfl))) ?_
      exact zY_stop (by exact rfl)
    · refine Eq.trans (zY_at (L2 := [some (zI x0), some (zI x1)]) (zcn (by exact rfl))) ?_
      exact zY_stop (by exact rfl)
  · exact zY_ret (by exact rfl) (by exact dX2_throwFailure_4) (by exact rfl) (by exact rfl)
def zwts (pc : Nat) : Bool := pc == 32
noncomputable abbrev zwt (d : Nat) (pc : Nat) (L : zL) (S : List zV) (σ : zS) : Option zQ := zY d mX2_toss none zwts some pc L S σ
theorem b_X2_toss_0 (d : Nat) (x1 : Int) (σ : zS) : zwt (d + 1) 0 [some (zR (some 0)), some (zI x1), none, none, none] [] σ = (zc d mX2_shelfAt [zR (some 0), zI x1] σ).bind fun r => zwt (d + 1) 5 [some (zR (some 0)), some (zI x1), none, none, none] (r.1.toList ++ []) r.2 := by
  refine Eq.trans (zY_step (by exact rfl) (by exact dX2_toss_0) (by exact rfl) (pc' := 1) (S' := [zR (some 0)]) (by exact rfl) (zcn (by exact rfl))) ?_
  refine Eq.trans (zY_step (by exact rfl) (by exact dX2_toss_1) (by exact rfl) (pc' := 2) (S' := [zI x1, zR (some 0)]) (by exact rfl) (zcn (by exact rfl))) ?_
  exact zY_V (by exact rfl) (by exact dX2_toss_2) (by exact rfl) (as := [zI x1]) (S' := []) (by exact rfl) (by exact rfl) (by exact rfl) (by exact Nat.le_of_ble_eq_true rfl) (by exact Nat.le_of_ble_eq_true rfl) (by exact Nat.le_of_ble_eq_true rfl) (zcn (by exact rfl))
theorem b_X2_toss_35 (d : Nat) (x1 x3 : Int) {q2 : Nat} (hq2 : zSh q2) (σ : zS) : zwt d 35 [some (zR (some 0)), some (zI x1), some (zR (some q2)), some (zI x3), none] [] σ = some (some (some (zI ((-15)))), 75, [some (zR (some 0)), some (zI x1), some (zR (some q2)), some (zI x3), none], [zI ((-15))], σ) := by
  refine Eq.trans (zY_step (by exact rfl) (by exact dX2_toss_35) (by exact rfl) (pc' := 73) (S' := []) (by exact rfl) (zcn (by exact rfl))) ?_
  refine Eq.trans (zY_step (by exact rfl) (by exact dX2_toss_73) (by exact rfl) (pc' := 75) (S' := [zI ((-15))]) (by exact rfl) (zcn (by exact rfl))) ?_
  exact zY_ret (by exact rfl) (by exact dX2_toss_75) (by exact rfl) (by exact rfl)
theorem b_X2_toss_40 (d : Nat) (x1 x3 : Int) {q2 : Nat} (hq2 : zSh q2) (σ : zS) : zwt (d + 1) 40 [some (zR (some 0)), some (zI x1), some (zR (some q2)), some (zI x3), none] [] σ = (zc d mX2_costOf [zI (σ q2 1), zI (σ q2 2)] σ).bind fun r => zwt (d + 1) 54 [some (zR (some 0)), some (zI x1), some (zR (some q2)), some (zI x3), none] (r.1.toList ++ [zI 200]) r.2 := by
  refine Eq.trans (zY_step (by exact rfl) (by exact dX2_toss_40) (by exact rfl) (pc' := 43) (S' := [zI 200]) (by exact rfl) (zcn (by exact rfl))) ?_
  refine Eq.trans (zY_step (by exact rfl) (by exact dX2_toss_43) (by exact rfl) (pc' := 44) (S' := [zR (some q2), zI 200]) (by exact rfl) (zcn (by exact rfl))) ?_
  refine Eq.trans (zY_getI (by exact rfl) (by exact dX2_toss_44) (by exact rfl) (by exact zSh_k hq2) (by exact zSh_r1 hq2) (zcn (by exact rfl))) ?_
  refine Eq.trans (zY_step (by exact rfl) (by exact dX2_toss_47) (by exact rfl) (pc' := 48) (S' := [zR (some q2), zI (σ q2 1), zI 200]) (by exact rfl) (zcn (by exact rfl))) ?_
  refine Eq.trans (zY_getI (by exact rfl) (by exact dX2_toss_48) (by exact rfl) (by exact zSh_k hq2) (by exact zSh_r2 hq2) (zcn (by exact rfl))) ?_
  exact zY_S (by exact rfl) (by exact dX2_toss_51) (by exact rfl) (by exact Or.inl rfl) (as := [zI (σ q2 1), zI (σ q2 2)]) (S' := [zI 200]) (by exact rfl) (by exact rfl) (by exact Nat.le_of_ble_eq_true rfl) (by exact Nat.le_of_ble_eq_true rfl) (zcn (by exact rfl))
theorem b_X2_toss_58 (d : Nat) (x1 x3 : Int) {q2 : Nat} (hq2 : zSh q2) (σ : zS) : zwt d 58 [some (zR (some 0)), some (zI x1), some (zR (some q2)), some (zI x3), none] [] σ = some (some (some (zI (100 + (σ q2 2)))), 65, [some (zR (some 0)), some (zI x1), some (zR (some q2)), some (zI x3), none], [zI (100 + (σ q2 2))], σ) := by
  refine Eq.trans (zY_step (by exact rfl) (by exact dX2_toss_58) (by exact rfl) (pc' := 60) (S' := [zI 100]) (by exact rfl) (zcn (by exact rfl))) ?_
  refine Eq.trans (zY_step (by exact rfl) (by exact dX2_toss_60) (by exact rfl) (pc' := 61) (S' := [zR (some q2), zI 100]) (by exact rfl) (zcn (by exact rfl))) ?_
  refine Eq.trans (zY_getI (by exact rfl) (by exact dX2_toss_61) (by exact rfl) (by exact zSh_k hq2) (by exact zSh_r2 hq2) (zcn (by exact rfl))) ?_
  refine Eq.trans (zY_step (by exact rfl) (by exact dX2_toss_64) (by exact rfl) (pc' := 65) (S' := [zI (100 + (σ q2 2))]) (by exact rfl) (zcn (by exact rfl))) ?_
  exact zY_ret (by exact rfl) (by exact dX2_toss_65) (by exact rfl) (by exact rfl)
theorem b_X2_toss_68 (d : Nat) (x1 x3 : Int) {q2 : Nat} (hq2 : zSh q2) (σ : zS) : zwt d 68 [some (zR (some 0)), some (zI x1), some (zR (some q2)), some (zI x3), none] [] σ = some (some (some (zI (σ q2 2))), 72, [some (zR (some 0)), some (zI x1), some (zR (some q2)), some (zI x3), none], [zI (σ q2 2)], σ) := by
  refine Eq.trans (zY_step (by exact rfl) (by exact dX2_toss_68) (by exact rfl) (pc' := 69) (S' := [zR (some q2)]) (by exact rfl) (zcn (by exact rfl))) ?_
  refine Eq.trans (zY_getI (by exact rfl) (by exact dX2_toss_69) (by exact rfl) (by exact zSh_k hq2) (by exact zSh_r2 hq2) (zcn (by exact rfl))) ?_
  exact zY_ret (by exact rfl) (by exact dX2_toss_72) (by exact rfl) (by exact rfl)
theorem b_X2_toss_5 (d : Nat) (x1 : Int) {q5 : Nat} (hq5 : zSh q5) (σ : zS) : zwt (d + 1) 5 [some (zR (some 0)), some (zI x1), none, none, none] [zR (some q5)] σ = (zc d mX1_refusalUnless [zR (some q5), zI 1] σ).bind fun r => zwt (d + 1) 17 [some (zR (some 0)), some (zI x1), some (zR (some q5)), none, none] (r.1.toList ++ []) r.2 := by
  refine Eq.trans (zY_step (by exact rfl) (by exact dX2_toss_5) (by exact rfl) (pc' := 6) (L' := [some (zR (some 0)), some (zI x1), some (zR (some q5)), none, none]) (S' := []) (by exact rfl) (zcn (by exact rfl))) ?_
  refine Eq.trans (zY_step (by exact rfl) (by exact dX2_toss_6) (by exact rfl) (pc' := 7) (S' := [zR (some q5)]) (by exact rfl) (zcn (by exact rfl))) ?_
  refine Eq.trans (zY_step (by exact rfl) (by exact dX2_toss_7) (by exact rfl) (pc' := 12) (S' := []) (by exact rfl) (zcn (by exact rfl))) ?_
  refine Eq.trans (zY_step (by exact rfl) (by exact dX2_toss_12) (by exact rfl) (pc' := 13) (S' := [zR (some q5)]) (by exact rfl) (zcn (by exact rfl))) ?_
  refine Eq.trans (zY_step (by exact rfl) (by exact dX2_toss_13) (by exact rfl) (pc' := 14) (S' := [zI 1, zR (some q5)]) (by exact rfl) (zcn (by exact rfl))) ?_
  exact zY_V (by exact rfl) (by exact dX2_toss_14) (by exact rfl) (as := [zI 1]) (S' := []) (by exact rfl) (by exact rfl) (by exact zSh_k hq5) (by exact Nat.le_of_ble_eq_true rfl) (by exact Nat.le_of_ble_eq_true rfl) (by exact Nat.le_of_ble_eq_true rfl) (zcn (by exact rfl))
theorem b_X2_toss_5_2 (d : Nat) (x1 : Int) (σ : zS) : zwt d 5 [some (zR (some 0)), some (zI x1), none, none, none] [zR none] σ = some (some (some (zI ((-1)))), 11, [some (zR (some 0)), some (zI x1), some (zR none), none, none], [zI ((-1))], σ) := by
  refine Eq.trans (zY_step (by exact rfl) (by exact dX2_toss_5) (by exact rfl) (pc' := 6) (L' := [some (zR (some 0)), some (zI x1), some (zR none), none, none]) (S' := []) (by exact rfl) (zcn (by exact rfl))) ?_
  refine Eq.trans (zY_step (by exact rfl) (by exact dX2_toss_6) (by exact rfl) (pc' := 7) (S' := [zR none]) (by exact rfl) (zcn (by exact rfl))) ?_
  refine Eq.trans (zY_step (by exact rfl) (by exact dX2_toss_7) (by exact rfl) (pc' := 10) (S' := []) (by exact rfl) (zcn (by exact rfl))) ?_
  refine Eq.trans (zY_step (by exact rfl) (by exact dX2_toss_10) (by exact rfl) (pc' := 11) (S' := [zI ((-1))]) (by exact rfl) (zcn (by exact rfl))) ?_
  exact zY_ret (by exact rfl) (by exact dX2_toss_11) (by exact rfl) (by exact rfl)
theorem b_X2_toss_54 (d : Nat) (y0 y1 x1 x3 : Int) {q2 : Nat} (hq2 : zSh q2) (σ : zS) : zwt d 54 [some (zR (some 0)), some (zI x1), some (zR (some q2)), some (zI x3), none] [zI y0, zI y1] σ = some (some (some (zI (y1 + y0))), 55, [some (zR (some 0)), some (zI x1), some (zR (some q2)), some (zI x3), none], [zI (y1 + y0)], σ) := by
  refine Eq.trans (zY_step (by exact rfl) (by exact dX2_toss_54) (by exact rfl) (pc' := 55) (S' := [zI (y1 + y0)]) (by exact rfl) (zcn (by exact rfl))) ?_
  exact zY_ret (by exact rfl) (by exact dX2_toss_55) (by exact rfl) (by exact rfl)
theorem b_X2_toss_17 (d : Nat) (y0 x1 : Int) {q5 : Nat} (hq5 : zSh q5) (σ : zS) : zwt d 17 [some (zR (some 0)), some (zI x1), some (zR (some q5)), none, none] [zI y0] σ = (if nrm y0 = 0 then some (none, 32, [some (zR (some 0)), some (zI x1), some (zR (some q5)), some (zI y0), none], [zI (σ q5 2), zI (σ q5 1)], σ) else some (some (some (zI y0)), 23, [some (zR (some 0)), some (zI x1), some (zR (some q5)), some (zI y0), none], [zI y0], σ)) := by
  refine Eq.trans (zY_step (by exact rfl) (by exact dX2_toss_17) (by exact rfl) (pc' := 18) (L' := [some (zR (some 0)), some (zI x1), some (zR (some q5)), some (zI y0), none]) (S' := []) (by exact rfl) (zcn (by exact rfl))) ?_
  refine Eq.trans (zY_step (by exact rfl) (by exact dX2_toss_18) (by exact rfl) (pc' := 19) (S' := [zI y0]) (by exact rfl) (zcn (by exact rfl))) ?_
  refine Eq.trans (zY_if_eq (by exact rfl) (by exact dX2_toss_19) (t := 24) (by exact rfl) (a2 := nrm y0) (by exact rfl) (zcn (by exact rfl)) (zcn (by exact rfl))) (zif ?_ ?_)
  · refine Eq.trans (zY_step (by exact rfl) (by exact dX2_toss_24) (by exact rfl) (pc' := 25) (S' := [zR (some q5)]) (by exact rfl) (zcn (by exact rfl))) ?_
    refine Eq.trans (zY_getI (by exact rfl) (by exact dX2_toss_25) (by exact rfl) (by exact zSh_k hq5) (by exact zSh_r1 hq5) (zcn (by exact rfl))) ?_
    refine Eq.trans (zY_step (by exact rfl) (by exact dX2_toss_28) (by exact rfl) (pc' := 29) (S' := [zR (some q5), zI (σ q5 1)]) (by exact rfl) (zcn (by exact rfl))) ?_
    refine Eq.trans (zY_getI (by exact rfl) (by exact dX2_toss_29) (by exact rfl) (by exact zSh_k hq5) (by exact zSh_r2 hq5) (zcn (by exact rfl))) ?_
    exact zY_stop (by exact rfl)
  · refine Eq.trans (zY_step (by exact rfl) (by exact dX2_toss_22) (by exact rfl) (pc' := 23) (S' := [zI y0]) (by exact rfl) (zcn (by exact rfl))) ?_
    exact zY_ret (by exact rfl) (by exact dX2_toss_23) (by exact rfl) (by exact rfl)
def zwls (pc : Nat) : Bool := pc == 5
noncomputable abbrev zwl (d : Nat) (pc : Nat) (L : zL) (S : List zV) (σ : zS) : Option zQ := zY d mL_element none zwls some pc L S σ
theorem b_L_element_0 (d : Nat) (x1 x2 : Int) (σ : zS) : zwl d 0 [some (zR (some 0)), some (zI x1), some (zI x2), some (zR (some 51)), none] [] σ = some (none, 5, [some (zR (some 0)), some (zI x1), some (zI x2), some (zR (some 51)), none], [zI x2, zI x1, zR (some 0), zI 0, zR (some 51)], σ) := by
  refine Eq.trans (zY_step (by exact rfl) (by exact dL_element_0) (by exact rfl) (pc' := 1) (S' := [zR (some 51)]) (by exact rfl) (zcn (by exact rfl))) ?_
  refine Eq.trans (zY_step (by exact rfl) (by exact dL_element_1) (by exact rfl) (pc' := 2) (S' := [zI 0, zR (some 51)]) (by exact rfl) (zcn (by exact rfl))) ?_
  refine Eq.trans (zY_step (by exact rfl) (by exact dL_element_2) (by exact rfl) (pc' := 3) (S' := [zR (some 0), zI 0, zR (some 51)]) (by exact rfl) (zcn (by exact rfl))) ?_
  refine Eq.trans (zY_step (by exact rfl) (by exact dL_element_3) (by exact rfl) (pc' := 4) (S' := [zI x1, zR (some 0), zI 0, zR (some 51)]) (by exact rfl) (zcn (by exact rfl))) ?_
  refine Eq.trans (zY_step (by exact rfl) (by exact dL_element_4) (by exact rfl) (pc' := 5) (S' := [zI x2, zI x1, zR (some 0), zI 0, zR (some 51)]) (by exact rfl) (zcn (by exact rfl))) ?_
  exact zY_stop (by exact rfl)
theorem b_L_element_8 (d : Nat) (y0 y1 x1 x2 : Int) (σ : zS) : zwl d 8 [some (zR (some 0)), some (zI x1), some (zI x2), some (zR (some 51)), none] [zJ y0, zI y1, zR (some 51)] σ = (if zix y1 1 then some (some (some (zI 0)), 21, [some (zR (some 0)), some (zI x1), some (zI x2), some (zR (some 51)), none], [zI 0], (zup σ 51 (nrm y1).toNat y0)) else none) := by
  refine Eq.trans (zY_last (by exact rfl) (by exact dL_element_8) (by exact rfl) (by exact rfl) (zcn (by exact rfl))) (zif ?_ rfl)
  · refine Eq.trans (zY_step (by exact rfl) (by exact dL_element_9) (by exact rfl) (pc' := 20) (S' := []) (by exact rfl) (zcn (by exact rfl))) ?_
    refine Eq.trans (zY_step (by exact rfl) (by exact dL_element_20) (by exact rfl) (pc' := 21) (S' := [zI 0]) (by exact rfl) (zcn (by exact rfl))) ?_
    exact zY_ret (by exact rfl) (by exact dL_element_21) (by exact rfl) (by exact rfl)
theorem b_L_element_14 (d : Nat) (x1 x2 : Int) (σ : zS) : zwl d 14 [some (zR (some 0)), some (zI x1), some (zI x2), some (zR (some 51)), none] [] σ = some (some (some (zI 1)), 15, [some (zR (some 0)), some (zI x1), some (zI x2), some (zR (some 51)), none], [zI 1], σ) := by
  refine Eq.trans (zY_step (by exact rfl) (by exact dL_element_14) (by exact rfl) (pc' := 15) (S' := [zI 1]) (by exact rfl) (zcn (by exact rfl))) ?_
  exact zY_ret (by exact rfl) (by exact dL_element_15) (by exact rfl) (by exact rfl)
theorem b_L_element_18 (d : Nat) (x1 x2 : Int) (σ : zS) : zwl d 18 [some (zR (some 0)), some (zI x1), some (zI x2), some (zR (some 51)), none] [] σ = some (some (some (zI 2)), 19, [some (zR (some 0)), some (zI x1), some (zI x2), some (zR (some 51)), none], [zI 2], σ) := by
  refine Eq.trans (zY_step (by exact rfl) (by exact dL_element_18) (by exact rfl) (pc' := 19) (S' := [zI 2]) (by exact rfl) (zcn (by exact rfl))) ?_
  exact zY_ret (by exact rfl) (by exact dL_element_19) (by exact rfl) (by exact rfl)
