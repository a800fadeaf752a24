theorem e_X3_isIn (d : Nat) (x0 x1 x2 : Int) (σ : zS) : zc d mX3_isIn [zI x0, zI x1, zI x2] σ = (if nrm x0 < nrm x1 then some (some (zI 0), σ) else (if nrm x2 < nrm x0 then some (some (zI 0), σ) else some (some (zI 1), σ))) := by
  refine Eq.trans (zc_zq (L := [some (zI x0), some (zI x1), some (zI x2)]) (by exact rfl)) ?_
  refine Eq.trans (zY_step (by exact rfl) (by exact dX3_isIn_0) (by exact rfl) (pc' := 1) (S' := [zI x0]) (by exact rfl) (zcn (by exact rfl))) ?_
  refine Eq.trans (zY_step (by exact rfl) (by exact dX3_isIn_1) (by exact rfl) (pc' := 2) (S' := [zI x1, zI x0]) (by exact rfl) (zcn (by exact rfl))) ?_
  refine Eq.trans (zY_ic_lt (by exact rfl) (by exact dX3_isIn_2) (t := 14) (by exact rfl) (a2 := nrm x0) (b2 := nrm x1) (by exact rfl) (by exact rfl) (L1 := [none, none, none]) (by exact rfl) (zcn (by exact rfl))) (zif ?_ ?_)
  · refine Eq.trans (zY_step (by exact rfl) (by exact dX3_isIn_14) (by exact rfl) (pc' := 15) (S' := [zI 0]) (L2 := [none, none, none]) (by exact rfl) (by exact rfl)) ?_
    exact zq_ret (by exact dX3_isIn_15) (by exact rfl) (rv := some (zI 0)) (by exact rfl)
  · refine Eq.trans (zY_step (by exact rfl) (by exact dX3_isIn_5) (by exact rfl) (pc' := 6) (S' := [zI x0]) (by exact rfl) (zcn (by exact rfl))) ?_
    refine Eq.trans (zY_step (by exact rfl) (by exact dX3_isIn_6) (by exact rfl) (pc' := 7) (S' := [zI x2, zI x0]) (by exact rfl) (zcn (by exact rfl))) ?_
    refine Eq.trans (zY_ic_gt (by exact rfl) (by exact dX3_isIn_7) (t := 14) (by exact rfl) (a2 := nrm x0) (b2 := nrm x2) (by exact rfl) (by exact rfl) (L1 := [none, none, none]) (by exact rfl) (zcn (by exact rfl))) (zif ?_ ?_)
    · refine Eq.trans (zY_step (by exact rfl) (by exact dX3_isIn_14) (by exact rfl) (pc' := 15) (S' := [zI 0]) (L2 := [none, none, none]) (by exact rfl) (by exact rfl)) ?_
      exact zq_ret (by exact dX3_isIn_15) (by exact rfl) (rv := some (zI 0)) (by exact rfl)
    · refine Eq.trans (zY_step (by exact rfl) (by exact dX3_isIn_10) (by exact rfl) (pc' := 11) (S' := [zI 1]) (by exact rfl) (zcn (by exact rfl))) ?_
      refine Eq.trans (zY_step (by exact rfl) (by exact dX3_isIn_11) (by exact rfl) (pc' := 15) (S' := [zI 1]) (L2 := [none, none, none]) (by exact rfl) (by exact rfl)) ?_
      exact zq_ret (by exact dX3_isIn_15) (by exact rfl) (rv := some (zI 1)) (by exact rfl)
theorem e_X3_least (d : Nat) (x0 x1 : Int) (σ : zS) : zc d mX3_least [zI x0, zI x1] σ = (if nrm x1 ≤ nrm x0 then some (some (zI x1), σ) else some (some (zI x0), σ)) := by
  refine Eq.trans (zc_zq (L := [some (zI x0), some (zI x1)]) (by exact rfl)) ?_
  refine Eq.trans (zY_step (by exact rfl) (by exact dX3_least_0) (by exact rfl) (pc' := 1) (S' := [zI x0]) (by exact rfl) (zcn (by exact rfl))) ?_
  refine Eq.trans (zY_step (by exact rfl) (by exact dX3_least_1) (by exact rfl) (pc' := 2) (S' := [zI x1, zI x0]) (by exact rfl) (zcn (by exact rfl))) ?_
  refine Eq.trans (zY_ic_ge (by exact rfl) (by exact dX3_least_2) (t := 9) (by exact rfl) (a2 := nrm x0) (b2 := nrm x1) (by exact rfl) (by exact rfl) (zcn (by exact rfl)) (zcn (by exact rfl))) (zif ?_ ?_)
  · refine Eq.trans (zY_step (by exact rfl) (by exact dX3_least_9) (by exact rfl) (pc' := 10) (S' := [zI x1]) (L2 := [none, none]) (by exact rfl) (by exact rfl)) ?_
    exact zq_ret (by exact dX3_least_10) (by exact rfl) (rv := some (zI x1)) (by exact rfl)
  · refine Eq.trans (zY_step (by exact rfl) (by exact dX3_least_5) (by exact rfl) (pc' := 6) (S' := [zI x0]) (by exact rfl) (zcn (by exact rfl))) ?_
    refine Eq.trans (zY_step (by exact rfl) (by exact dX3_least_6) (by exact rfl) (pc' := 10) (S' := [zI x0]) (L2 := [none, none]) (by exact rfl) (by exact rfl)) ?_
    exact zq_ret (by exact dX3_least_10) (by exact rfl) (rv := some (zI x0)) (by exact rfl)
theorem e_X3_most (d : Nat) (x0 x1 : Int) (σ : zS) : zc d mX3_most [zI x0, zI x1] σ = (if nrm x0 ≤ nrm x1 then some (some (zI x1), σ) else some (some (zI x0), σ)) := by
  refine Eq.trans (zc_zq (L := [some (zI x0), some (zI x1)]) (by exact rfl)) ?_
  refine Eq.trans (zY_step (by exact rfl) (by exact dX3_most_0) (by exact rfl) (pc' := 1) (S' := [zI x0]) (by exact rfl) (zcn (by exact rfl))) ?_
  refine Eq.trans (zY_step (by exact rfl) (by exact dX3_most_1) (by exact rfl) (pc' := 2) (S' := [zI x1, zI x0]) (by exact rfl) (zcn (by exact rfl))) ?_
  refine Eq.trans (zY_ic_le (by exact rfl) (by exact dX3_most_2) (t := 9) (by exact rfl) (a2 := nrm x0) (b2 := nrm x1) (by exact rfl) (by exact rfl) (zcn (by exact rfl)) (zcn (by exact rfl))) (zif ?_ ?_)
  · refine Eq.trans (zY_step (by exact rfl) (by exact dX3_most_9) (by exact rfl) (pc' := 10) (S' := [zI x1]) (L2 := [none, none]) (by exact rfl) (by exact rfl)) ?_
    exact zq_ret (by exact dX3_most_10) (by exact rfl) (rv := some (zI x1)) (by exact rfl)
  · refine Eq.trans (zY_step (by exact rfl) (by exact dX3_most_5) (by exact rfl) (pc' := 6) (S' := [zI x0]) (by exact rfl) (zcn (by exact rfl))) ?_
    refine Eq.trans (zY_step (by exact rfl) (by exact dX3_most_6) (by exact rfl) (pc' := 10) (S' := [zI x0]) (L2 := [none, none]) (by exact rfl) (by exact rfl)) ?_
    exact zq_ret (by exact dX3_most_10) (by exact rfl) (rv := some (zI x0)) (by exact rfl)
theorem e_X3_copies (d : Nat) {a0 : Nat} (ha0 : zkd a0 = 4) (hn0 : zln a0 = 35) {a1 : Nat} (ha1 : zkd a1 = 4) (hn1 : zln a1 = 35) (σ : zS) : zc d mX3_copies [zR (some a0), zR (some a1)] σ = zq d mX3_copies 2 [some (zR (some a0)), some (zR (some a1)), some (zI 0)] [] σ := by
  refine Eq.trans (zc_zq (L := [some (zR (some a0)), some (zR (some a1)), none]) (by exact rfl)) ?_
  refine Eq.trans (zY_step (by exact rfl) (by exact dX3_copies_0) (by exact rfl) (pc' := 1) (S' := [zI 0]) (by exact rfl) (zcn (by exact rfl))) ?_
  exact zY_step (by exact rfl) (by exact dX3_copies_1) (by exact rfl) (pc' := 2) (L' := [some (zR (some a0)), some (zR (some a1)), some (zI 0)]) (S' := []) (by exact rfl) (zcn (by exact rfl))
theorem b_X3_copies_2 (d : Nat) (x2 : Int) {a0 : Nat} (ha0 : zkd a0 = 4) (hn0 : zln a0 = 35) {a1 : Nat} (ha1 : zkd a1 = 4) (hn1 : zln a1 = 35) (σ : zS) : zq d mX3_copies 2 [some (zR (some a0)), some (zR (some a1)), some (zI x2)] [] σ = (if 35 ≤ nrm x2 then some (none, σ) else (if zix x2 35 then (if zix x2 35 then zq d mX3_copies 2 [some (zR (some a0)), some (zR (some a1)), some (zI (x2 + 1))] [] (zup σ a1 (nrm x2).toNat (σ a0 (nrm x2).toNat)) else none) else none)) := by
  refine Eq.trans (zY_step (by exact rfl) (by exact dX3_copies_2) (by exact rfl) (pc' := 3) (S' := [zI x2]) (by exact rfl) (zcn (by exact rfl))) ?_
  refine Eq.trans (zY_step (by exact rfl) (by exact dX3_copies_3) (by exact rfl) (pc' := 5) (S' := [zI 35, zI x2]) (by exact rfl) (zcn (by exact rfl))) ?_
  refine Eq.trans (zY_ic_ge (by exact rfl) (by exact dX3_copies_5) (t := 20) (by exact rfl) (a2 := nrm x2) (b2 := 35) (by exact rfl) (by decide) (zcn (by exact rfl)) (zcn (by exact rfl))) (zif ?_ ?_)
  · exact zq_ret (by exact dX3_copies_20) (by exact rfl) (rv := none) (by exact rfl)
  · refine Eq.trans (zY_step (by exact rfl) (by exact dX3_copies_8) (by exact rfl) (pc' := 9) (S' := [zR (some a1)]) (by exact rfl) (zcn (by exact rfl))) ?_
    refine Eq.trans (zY_step (by exact rfl) (by exact dX3_copies_9) (by exact rfl) (pc' := 10) (S' := [zI x2, zR (some a1)]) (by exact rfl) (zcn (by exact rfl))) ?_
    refine Eq.trans (zY_step (by exact rfl) (by exact dX3_copies_10) (by exact rfl) (pc' := 11) (S' := [zR (some a0), zI x2, zR (some a1)]) (by exact rfl) (zcn (by exact rfl))) ?_
    refine Eq.trans (zY_step (by exact rfl) (by exact dX3_copies_11) (by exact rfl) (pc' := 12) (S' := [zI x2, zR (some a0), zI x2, zR (some a1)]) (by exact rfl) (zcn (by exact rfl))) ?_
    refine Eq.trans (zY_iald (by exact rfl) (by exact dX3_copies_12) (by exact ha0) (by exact hn0) (zcn (by exact rfl))) (zif ?_ rfl)
    · refine Eq.trans (zY_iast (by exact rfl) (by exact dX3_copies_13) (by exact ha1) (by exact hn1) (zcn (by exact rfl))) (zif ?_ rfl)
      · refine Eq.trans (zY_step (by exact rfl) (by exact dX3_copies_14) (by exact rfl) (pc' := 17) (L' := [some (zR (some a0)), some (zR (some a1)), some (zI (x2 + 1))]) (S' := []) (by exact rfl) (zcn (by exact rfl))) ?_
        exact zY_step (by exact rfl) (by exact dX3_copies_17) (by exact rfl) (pc' := 2) (S' := []) (by exact rfl) (zcn (by exact rfl))
theorem e_X3_of (d : Nat) (x0 x1 : Int) (σ : zS) : zc d mX3_of [zI x0, zI x1] σ = some (some (zI ((3 + (4 * x0)) + x1)), σ) := by
  refine Eq.trans (zc_zq (L := [some (zI x0), some (zI x1)]) (by exact rfl)) ?_
  refine Eq.trans (zY_step (by exact rfl) (by exact dX3_of_0) (by exact rfl) (pc' := 1) (S' := [zI 3]) (by exact rfl) (zcn (by exact rfl))) ?_
  refine Eq.trans (zY_step (by exact rfl) (by exact dX3_of_1) (by exact rfl) (pc' := 2) (S' := [zI 4, zI 3]) (by exact rfl) (zcn (by exact rfl))) ?_
  refine Eq.trans (zY_step (by exact rfl) (by exact dX3_of_2) (by exact rfl) (pc' := 3) (S' := [zI x0, zI 4, zI 3]) (by exact rfl) (zcn (by exact rfl))) ?_
  refine Eq.trans (zY_step (by exact rfl) (by exact dX3_of_3) (by exact rfl) (pc' := 4) (S' := [zI (4 * x0), zI 3]) (by exact rfl) (zcn (by exact rfl))) ?_
  refine Eq.trans (zY_step (by exact rfl) (by exact dX3_of_4) (by exact rfl) (pc' := 5) (S' := [zI (3 + (4 * x0))]) (by exact rfl) (zcn (by exact rfl))) ?_
  refine Eq.trans (zY_step (by exact rfl) (by exact dX3_of_5) (by exact rfl) (pc' := 6) (S' := [zI x1, zI (3 + (4 * x0))]) (by exact rfl) (zcn (by exact rfl))) ?_
  refine Eq.trans (zY_step (by exact rfl) (by exact dX3_of_6) (by exact rfl) (pc' := 7) (S' := [zI ((3 + (4 * x0)) + x1)]) (by exact rfl) (zcn (by exact rfl))) ?_
  exact zq_ret (by exact dX3_of_7) (by exact rfl) (rv := some (zI ((3 + (4 * x0)) + x1))) (by exact rfl)
theorem e_X3_isRow (d : Nat) (x1 : Int) (σ : zS) : zc (d + 1) mX3_isRow [zR (some 36), zI x1] σ = (zc d mX3_isIn [zI x1, zI 0, zI ((σ 37 0) - 1)] σ).bind fun r => zq (d + 1) mX3_isRow 13 [some (zR (some 36)), some (zI x1)] (r.1.toList ++ []) r.2 := by
  refine Eq.trans (zc_zq (L := [some (zR (some 36)), some (zI x1)]) (by exact rfl)) ?_
  refine Eq.trans (zY_step (by exact rfl) (by exact dX3_isRow_0) (by exact rfl) (pc' := 1) (S' := [zI x1]) (by exact rfl) (zcn (by exact rfl))) ?_
  refine Eq.trans (zY_step (by exact rfl) (by exact dX3_isRow_1) (by exact rfl) (pc' := 2) (S' := [zI 0, zI x1]) (by exact rfl) (zcn (by exact rfl))) ?_
  refine Eq.trans (zY_step (by exact rfl) (by exact dX3_isRow_2) (by exact rfl) (pc' := 3) (S' := [zR (some 36), zI 0, zI x1]) (by exact rfl) (zcn (by exact rfl))) ?_
  refine Eq.trans (zY_getR (by exact rfl) (by exact dX3_isRow_3) (by exact rfl) (by exact rfl) (t := 37) (by exact rfl) (zcn (by exact rfl))) ?_
  refine Eq.trans (zY_step (by exact rfl) (by exact dX3_isRow_6) (by exact rfl) (pc' := 7) (S' := [zI 0, zR (some 37), zI 0, zI x1]) (by exact rfl) (zcn (by exact rfl))) ?_
  refine Eq.trans (zY_ialdc (by exact rfl) (by exact dX3_isRow_7) (by exact rfl) (by exact rfl) (j := 0) (by decide) (by decide) (zcn (by exact rfl))) ?_
  refine Eq.trans (zY_step (by exact rfl) (by exact dX3_isRow_8) (by exact rfl) (pc' := 9) (S' := [zI 1, zI (σ 37 0), zI 0, zI x1]) (by exact rfl) (zcn (by exact rfl))) ?_
  refine Eq.trans (zY_step (by exact rfl) (by exact dX3_isRow_9) (by exact rfl) (pc' := 10) (S' := [zI ((σ 37 0) - 1), zI 0, zI x1]) (by exact rfl) (zcn (by exact rfl))) ?_
  exact zY_S (by exact rfl) (by exact dX3_isRow_10) (by exact rfl) (by exact Or.inl rfl) (as := [zI x1, zI 0, zI ((σ 37 0) - 1)]) (S' := []) (by exact rfl) (by exact rfl) (by exact Nat.le_of_ble_eq_true rfl) (by exact Nat.le_of_ble_eq_true rfl) (zcn (by exact rfl))
theorem b_X3_isRow_13 (d : Nat) (y0 x1 : Int) (σ : zS) : zq d mX3_isRow 13 [some (zR (some 36)), some (zI x1)] [zI y0] σ = (if nrm y0 = 0 ∨ nrm y0 = 1 then some (some (zI y0), σ) else none) := by
  exact zq_retb (by exact dX3_isRow_13) (by exact rfl)
theorem e_X3_has (d : Nat) (x0 x1 : Int) (σ : zS) : zc d mX3_has [zI x0, zI x1] σ = (if ¬ nrm (zand (zshr x0 x1) 1) = 1 then some (some (zI 0), σ) else some (some (zI 1), σ)) := by
  refine Eq.trans (zc_zq (L := [some (zI x0), some (zI x1)]) (by exact rfl)) ?_
  refine Eq.trans (zY_step (by exact rfl) (by exact dX3_has_0) (by exact rfl) (pc' := 1) (S' := [zI x0]) (by exact rfl) (zcn (by exact rfl))) ?_
  refine Eq.trans (zY_step (by exact rfl) (by exact dX3_has_1) (by exact rfl) (pc' := 2) (S' := [zI x1, zI x0]) (by exact rfl) (zcn (by exact rfl))) ?_
  refine Eq.trans (zY_step (by exact rfl) (by exact dX3_has_2) (by exact rfl) (pc' := 3) (S' := [zI (zshr x0 x1)]) (by exact rfl) (zcn (by exact rfl))) ?_
  refine Eq.trans (zY_step (by exact rfl) (by exact dX3_has_3) (by exact rfl) (pc' := 4) (S' := [zI 1, zI (zshr x0 x1)]) (by exact rfl) (zcn (by exact rfl))) ?_
  refine Eq.trans (zY_step (by exact rfl) (by exact dX3_has_4) (by exact rfl) (pc' := 5) (S' := [zI (zand (zshr x0 x1) 1)]) (by exact rfl) (zcn (by exact rfl))) ?_
  refine Eq.trans (zY_step (by exact rfl) (by exact dX3_has_5) (by exact rfl) (pc' := 6) (S' := [zI 1, zI (zand (zshr x0 x1) 1)]) (by exact rfl) (zcn (by exact rfl))) ?_
  refine Eq.trans (zY_ic_ne (by exact rfl) (by exact dX3_has_6) (t := 13) (by exact rfl) (a2 := nrm (zand (zshr x0 x1) 1)) (b2 := 1) (by exact rfl) (by decide) (zcn (by exact rfl)) (zcn (by exact rfl))) (zif ?_ ?_)
  · refine Eq.trans (zY_step (by exact rfl) (by exact dX3_has_13) (by exact rfl) (pc' := 14) (S' := [zI 0]) (L2 := [none, none]) (by exact rfl) (by exact rfl)) ?_
    exact zq_ret (by exact dX3_has_14) (by exact rfl) (rv := some (zI 0)) (by exact rfl)
  · refine Eq.trans (zY_step (by exact rfl) (by exact dX3_has_9) (by exact rfl) (pc' := 10) (S' := [zI 1]) (by exact rfl) (zcn (by exact rfl))) ?_
    refine Eq.trans (zY_step (by exact rfl) (by exact dX3_has_10) (by exact rfl) (pc' := 14) (S' := [zI 1]) (L2 := [none, none]) (by exact rfl) (by exact rfl)) ?_
    exact zq_ret (by exact dX3_has_14) (by exact rfl) (rv := some (zI 1)) (by exact rfl)
theorem e_X3_bits (d : Nat) (x0 : Int) (σ : zS) : zc d mX3_bits [zI x0] σ = zq d mX3_bits 4 [some (zI x0), some (zI 0), some (zI 0)] [] σ := by
  refine Eq.trans (zc_zq (L := [some (zI x0), none, none]) (by exact rfl)) ?_
  refine Eq.trans (zY_step (by exact rfl) (by exact dX3_bits_0) (by exact rfl) (pc' := 1) (S' := [zI 0]) (by exact rfl) (zcn (by exact rfl))) ?_
  refine Eq.trans (zY_step (by exact rfl) (by exact dX3_bits_1) (by exact rfl) (pc' := 2) (L' := [some (zI x0), some (zI 0), none]) (S' := []) (by exact rfl) (zcn (by exact rfl))) ?_
  refine Eq.trans (zY_step (by exact rfl) (by exact dX3_bits_2) (by exact rfl) (pc' := 3) (S' := [zI 0]) (by exact rfl) (zcn (by exact rfl))) ?_
  exact zY_step (by exact rfl) (by exact dX3_bits_3) (by exact rfl) (pc' := 4) (L' := [some (zI x0), some (zI 0), some (zI 0)]) (S' := []) (by exact rfl) (zcn (by exact rfl))
theorem b_X3_bits_4 (d : Nat) (x0 x1 x2 : Int) (σ : zS) : zq d mX3_bits 4 [some (zI x0), some (zI x1), some (zI x2)] [] σ = (if 10 ≤ nrm x2 then some (some (zI x1), σ) else zq d mX3_bits 4 [some (zI x0), some (zI (x1 + (zand (zshr x0 x2) 1))), some (zI (x2 + 1))] [] σ) := by
  refine Eq.trans (zY_step (by exact rfl) (by exact dX3_bits_4) (by exact rfl) (pc' := 5) (S' := [zI x2]) (by exact rfl) (zcn (by exact rfl))) ?_
  refine Eq.trans (zY_step (by exact rfl) (by exact dX3_bits_5) (by exact rfl) (pc' := 7) (S' := [zI 10, zI x2]) (by exact rfl) (zcn (by exact rfl))) ?_
  refine Eq.trans (zY_ic_ge (by exact rfl) (by exact dX3_bits_7) (t := 24) (by exact rfl) (a2 := nrm x2) (b2 := 10) (by exact rfl) (by decide) (zcn (by exact rfl)) (zcn (by exact rfl))) (zif ?_ ?_)
  · refine Eq.trans (zY_step (by exact rfl) (by exact dX3_bits_24) (by exact rfl) (pc' := 25) (S' := [zI x1]) (by exact rfl) (zcn (by exact rfl))) ?_
    exact zq_ret (by exact dX3_bits_25) (by exact rfl) (rv := some (zI x1)) (by exact rfl)
  · refine Eq.trans (zY_step (by exact rfl) (by exact dX3_bits_10) (by exact rfl) (pc' := 11) (S' := [zI x1]) (by exact rfl) (zcn (by exact rfl))) ?_
    refine Eq.trans (zY_step (by exact rfl) (by exact dX3_bits_11) (by exact rfl) (pc' := 12) (S' := [zI x0, zI x1]) (by exact rfl) (zcn (by exact rfl))) ?_
    refine Eq.trans (zY_step (by exact rfl) (by exact dX3_bits_12) (by exact rfl) (pc' := 13) (S' := [zI x2, zI x0, zI x1]) (by exact rfl) (zcn (by exact rfl))) ?_
    refine Eq.trans (zY_step (by exact rfl) (by exact dX3_bits_13) (by exact rfl) (pc' := 14) (S' := [zI (zshr x0 x2), zI x1]) (by exact rfl) (zcn (by exact rfl))) ?_
    refine Eq.trans (zY_step (by exact rfl) (by exact dX3_bits_14) (by exact rfl) (pc' := 15) (S' := [zI 1, zI (zshr x0 x2), zI x1]) (by exact rfl) (zcn (by exact rfl))) ?_
    refine Eq.trans (zY_step (by exact rfl) (by exact dX3_bits_15) (by exact rfl) (pc' := 16) (S' := [zI (zand (zshr x0 x2) 1), zI x1]) (by exact rfl) (zcn (by exact rfl))) ?_
    refine Eq.trans (zY_step (by exact rfl) (by exact dX3_bits_16) (by exact rfl) (pc' := 17) (S' := [zI (x1 + (zand (zshr x0 x2) 1))]) (by exact rfl) (zcn (by exact rfl))) ?_
    refine Eq.trans (zY_step (by exact rfl) (by exact dX3_bits_17) (by exact rfl) (pc' := 18) (L' := [some (zI x0), some (zI (x1 + (zand (zshr x0 x2) 1))), some (zI x2)]) (S' := []) (by exact rfl) (zcn (by exact rfl))) ?_
    refine Eq.trans (zY_step (by exact rfl) (by exact dX3_bits_18) (by exact rfl) (pc' := 21) (L' := [some (zI x0), some (zI (x1 + (zand (zshr x0 x2) 1))), some (zI (x2 + 1))]) (S' := []) (by exact rfl) (zcn (by exact rfl))) ?_
    exact zY_step (by exact rfl) (by exact dX3_bits_21) (by exact rfl) (pc' := 4) (S' := []) (by exact rfl) (zcn (by exact rfl))
theorem e_X3_knees (d : Nat) (x0 x1 : Int) (σ : zS) : zc d mX3_knees [zI x0, zI x1] σ = (if nrm x0 = 2 then some (some (zI (6 + ((nrm x1).tdiv 3))), σ) else (if nrm x0 = 3 then some (some (zI 1), σ) else (if nrm x0 = 4 then some (some (zI 2), σ) else (if nrm x0 = 5 then some (some (zI 2), σ) else (if nrm x0 = 6 then some (some (zI 0), σ) else (if nrm x0 = 7 then some (some (zI (7 + ((nrm x1).tdiv 3))), σ) else some (some (zI 2), σ))))))) := by
  refine Eq.trans (zc_zq (L := [some (zI x0), some (zI x1)]) (by exact rfl)) ?_
  refine Eq.trans (zY_step (by exact rfl) (by exact dX3_knees_0) (by exact rfl) (pc' := 1) (S' := [zI x0]) (by exact rfl) (zcn (by exact rfl))) ?_
  refine Eq.trans (zY_tsw (by exact rfl) (by exact dX3_knees_1) (by exact rfl) (dt := 58) (by exact rfl) (ts := [(2, 40), (3, 47), (4, 58), (5, 58), (6, 49), (7, 51)]) (by exact rfl)) ?_
  refine zif ?_ (zif ?_ (zif ?_ (zif ?_ (zif ?_ (zif ?_ (?_))))))
  · refine Eq.trans (zY_at (L2 := [some (zI x0), some (zI x1)]) (zcn (by exact rfl))) ?_
    refine Eq.trans (zY_step (by exact rfl) (by exact dX3_knees_40) (by exact rfl) (pc' := 42) (S' := [zI 6]) (by exact rfl) (zcn (by exact rfl))) ?_
    refine Eq.trans (zY_step (by exact rfl) (by exact dX3_knees_42) (by exact rfl) (pc' := 43) (S' := [zI x1, zI 6]) (by exact rfl) (zcn (by exact rfl))) ?_
    refine Eq.trans (zY_step (by exact rfl) (by exact dX3_knees_43) (by exact rfl) (pc' := 44) (S' := [zI 3, zI x1, zI 6]) (by exact rfl) (zcn (by exact rfl))) ?_
    refine Eq.trans (zY_divc (by exact rfl) (by exact dX3_knees_44) (c := 3) (by decide) (by decide) (zcn (by exact rfl))) ?_
    refine Eq.trans (zY_step (by exact rfl) (by exact dX3_knees_45) (by exact rfl) (pc' := 46) (S' := [zI (6 + ((nrm x1).tdiv 3))]) (by exact rfl) (zcn (by exact rfl))) ?_
    exact zq_ret (by exact dX3_knees_46) (by exact rfl) (rv := some (zI (6 + ((nrm x1).tdiv 3)))) (by exact rfl)
  · refine Eq.trans (zY_at (L2 := [some (zI x0), some (zI x1)]) (zcn (by exact rfl))) ?_
    refine Eq.trans (zY_step (by exact rfl) (by exact dX3_knees_47) (by exact rfl) (pc' := 48) (S' := [zI 1]) (by exact rfl) (zcn (by exact rfl))) ?_
    exact zq_ret (by exact dX3_knees_48) (by exact rfl) (rv := some (zI 1)) (by exact rfl)
  · refine Eq.trans (zY_at (L2 := [none, none]) (by exact rfl)) ?_
    refine Eq.trans (zY_step (by exact rfl) (by exact dX3_knees_58) (by exact rfl) (pc' := 59) (S' := [zI 2]) (by exact rfl) (zcn (by exact rfl))) ?_
    exact zq_ret (by exact dX3_knees_59) (by exact rfl) (rv := some (zI 2)) (by exact rfl)
  · refine Eq.trans (zY_at (L2 := [none, none]) (by exact rfl)) ?_
    refine Eq.trans (zY_step (by exact rfl) (by exact dX3_knees_58) (by exact rfl) (pc' := 59) (S' := [zI 2]) (by exact rfl) (zcn (by exact rfl))) ?_
    exact zq_ret (by exact dX3_knees_59) (by exact rfl) (rv := some (zI 2)) (by exact rfl)
  · refine Eq.trans (zY_at (L2 := [some (zI x0), some (zI x1)]) (zcn (by exact rfl))) ?_
    refine Eq.trans (zY_step (by exact rfl) (by exact dX3_knees_49) (by exact rfl) (pc' := 50) (S' := [zI 0]) (by exact rfl) (zcn (by exact rfl))) ?_
    exact zq_ret (by exact dX3_knees_50) (by exact rfl) (rv := some (zI 0)) (by exact rfl)
  · refine Eq.trans (zY_at (L2 := [some (zI x0), some (zI x1)]) (zcn (by exact rfl))) ?_
    refine Eq.trans (zY_step (by exact rfl) (by exact dX3_knees_51) (by exact rfl) (pc' := 53) (S' := [zI 7]) (by exact rfl) (zcn (by exact rfl))) ?_
    refine Eq.trans (zY_step (by exact rfl) (by exact dX3_knees_53) (by exact rfl) (pc' := 54) (S' := [zI x1, zI 7]) (by exact rfl) (zcn (by exact rfl))) ?_
    refine Eq.trans (zY_step (by exact rfl) (by exact dX3_knees_54) (by exact rfl) (pc' := 55) (S' := [zI 3, zI x1, zI 7]) (by exact rfl) (zcn (by exact rfl))) ?_
    refine Eq.trans (zY_divc (by exact rfl) (by exact dX3_knees_55) (c := 3) (by decide) (by decide) (zcn (by exact rfl))) ?_
    refine Eq.trans (zY_step (by exact rfl) (by exact dX3_knees_56) (by exact rfl) (pc' := 57) (S' := [zI (7 + ((nrm x1).tdiv 3))]) (by exact rfl) (zcn (by exact rfl))) ?_
    exact zq_ret (by exact dX3_knees_57) (by exact rfl) (rv := some (zI (7 + ((nrm x1).tdiv 3)))) (by exact rfl)
  · refine Eq.trans (zY_at (L2 := [none, none]) (by exact rfl)) ?_
    refine Eq.trans (zY_step (by exact rfl) (by exact dX3_knees_58) (by exact rfl) (pc' := 59) (S' := [zI 2]) (by exact rfl) (zcn (by exact rfl))) ?_
    exact zq_ret (by exact dX3_knees_59) (by exact rfl) (rv := some (zI 2)) (by exact rfl)
theorem e_X3_isLate (d : Nat) (x0 : Int) (σ : zS) : zc d mX3_isLate [zI x0] σ = (if 22 ≤ nrm x0 then zq d mX3_isLate 11 [none] [] σ else (if 5 < nrm x0 then some (some (zI 0), σ) else zq d mX3_isLate 11 [none] [] σ)) := by
  refine Eq.trans (zc_zq (L := [some (zI x0)]) (by exact rfl)) ?_
  refine Eq.trans (zY_step (by exact rfl) (by exact dX3_isLate_0) (by exact rfl) (pc' := 1) (S' := [zI x0]) (by exact rfl) (zcn (by exact rfl))) ?_
  refine Eq.trans (zY_step (by exact rfl) (by exact dX3_isLate_1) (by exact rfl) (pc' := 3) (S' := [zI 22, zI x0]) (by exact rfl) (zcn (by exact rfl))) ?_
  refine Eq.trans (zY_ic_ge (by exact rfl) (by exact dX3_isLate_3) (t := 11) (by exact rfl) (a2 := nrm x0) (b2 := 22) (by exact rfl) (by decide) (L1 := [none]) (by exact rfl) (zcn (by exact rfl))) (zif ?_ ?_)
  · exact rfl
  · refine Eq.trans (zY_step (by exact rfl) (by exact dX3_isLate_6) (by exact rfl) (pc' := 7) (S' := [zI x0]) (by exact rfl) (zcn (by exact rfl))) ?_
    refine Eq.trans (zY_step (by exact rfl) (by exact dX3_isLate_7) (by exact rfl) (pc' := 8) (S' := [zI 5, zI x0]) (by exact rfl) (zcn (by exact rfl))) ?_
    refine Eq.trans (zY_ic_gt (by exact rfl) (by exact dX3_isLate_8) (t := 15) (by exact rfl) (a2 := nrm x0) (b2 := 5) (by exact rfl) (by decide) (L2 := [none]) (zcn (by exact rfl)) (by exact rfl)) (zif ?_ ?_)
    · refine Eq.trans (zY_step (by exact rfl) (by exact dX3_isLate_15) (by exact rfl) (pc' := 16) (S' := [zI 0]) (L2 := [none]) (by exact rfl) (by exact rfl)) ?_
      exact zq_ret (by exact dX3_isLate_16) (by exact rfl) (rv := some (zI 0)) (by exact rfl)
    · exact rfl
theorem b_X3_isLate_11 (d : Nat) (σ : zS) : zq d mX3_isLate 11 [none] [] σ = some (some (zI 1), σ) := by
  refine Eq.trans (zY_step (by exact rfl) (by exact dX3_isLate_11) (by exact rfl) (pc' := 12) (S' := [zI 1]) (by exact rfl) (zcn (by exact rfl))) ?_
  refine Eq.trans (zY_step (by exact rfl) (by exact dX3_isLate_12) (by exact rfl) (pc' := 16) (S' := [zI 1]) (L2 := [none]) (by exact rfl) (by exact rfl)) ?_
  exact zq_ret (by exact dX3_isLate_16) (by exact rfl) (rv := some (zI 1)) (by exact rfl)
theorem e_X3_wants (d : Nat) (x0 x1 x2 x3 : Int) (σ : zS) : zc (d + 1) mX3_wants [zI x0, zI x1, zI x2, zI x3] σ = (if nrm x0 = 1 then (zc d mX3_isLate [zI x3] σ).bind fun r => zq (d + 1) mX3_wants 48 [some (zI x0), some (zI x1), some (zI x2), some (zI x3)] (r.1.toList ++ []) r.2 else (if nrm x0 = 2 then some (some (zI (x2 + 2)), σ) else (if nrm x0 = 3 then some (some (zI x1), σ) else (if nrm x0 = 4 then some (some (zI ((nrm x2).tdiv 2)), σ) else (if nrm x0 = 5 then (zc d mX3_most [zI 0, zI (((nrm x2).tdiv 2) - 1)] σ).bind fun r => zq (d + 1) mX3_wants 77 [some (zI x0), some (zI x1), some (zI x2), some (zI x3)] (r.1.toList ++ []) r.2 else (if nrm x0 = 6 then some (some (zI 0), σ) else (if nrm x0 = 7 then some (some (zI 0), σ) else some (some (zI x2), σ)))))))) := by
  refine Eq.trans (zc_zq (L := [some (zI x0), some (zI x1), some (zI x2), some (zI x3)]) (by exact rfl)) ?_
  refine Eq.trans (zY_step (by exact rfl) (by exact dX3_wants_0) (by exact rfl) (pc' := 1) (S' := [zI x0]) (by exact rfl) (zcn (by exact rfl))) ?_
  refine Eq.trans (zY_tsw (by exact rfl) (by exact dX3_wants_1) (by exact rfl) (dt := 80) (by exact rfl) (ts := [(1, 44), (2, 58), (3, 62), (4, 64), (5, 68), (6, 78), (7, 78)]) (by exact rfl)) ?_
  refine zif ?_ (zif ?_ (zif ?_ (zif ?_ (zif ?_ (zif ?_ (zif ?_ (?_)))))))
  · refine Eq.trans (zY_at (L2 := [some (zI x0), some (zI x1), some (zI x2), some (zI x3)]) (zcn (by exact rfl))) ?_
    refine Eq.trans (zY_step (by exact rfl) (by exact dX3_wants_44) (by exact rfl) (pc' := 45) (S' := [zI x3]) (by exact rfl) (zcn (by exact rfl))) ?_
    exact zY_S (by exact rfl) (by exact dX3_wants_45) (by exact rfl) (by exact Or.inl rfl) (as := [zI x3]) (S' := []) (by exact rfl) (by exact rfl) (by exact Nat.le_of_ble_eq_true rfl) (by exact Nat.le_of_ble_eq_true rfl) (zcn (by exact rfl))
  · refine Eq.trans (zY_at (L2 := [some (zI x0), some (zI x1), some (zI x2), some (zI x3)]) (zcn (by exact rfl))) ?_
    refine Eq.trans (zY_step (by exact rfl) (by exact dX3_wants_58) (by exact rfl) (pc' := 59) (S' := [zI x2]) (by exact rfl) (zcn (by exact rfl))) ?_
    refine Eq.trans (zY_step (by exact rfl) (by exact dX3_wants_59) (by exact rfl) (pc' := 60) (S' := [zI 2, zI x2]) (by exact rfl) (zcn (by exact rfl))) ?_
    refine Eq.trans (zY_step (by exact rfl) (by exact dX3_wants_60) (by exact rfl) (pc' := 61) (S' := [zI (x2 + 2)]) (by exact rfl) (zcn (by exact rfl))) ?_
    exact zq_ret (by exact dX3_wants_61) (by exact rfl) (rv := some (zI (x2 + 2))) (by exact rfl)
  · refine Eq.trans (zY_at (L2 := [some (zI x0), some (zI x1), some (zI x2), some (zI x3)]) (zcn (by exact rfl))) ?_
    refine Eq.trans (zY_step (by exact rfl) (by exact dX3_wants_62) (by exact rfl) (pc' := 63) (S' := [zI x1]) (by exact rfl) (zcn (by exact rfl))) ?_
    exact zq_ret (by exact dX3_wants_63) (by exact rfl) (rv := some (zI x1)) (by exact rfl)
  · refine Eq.trans (zY_at (L2 := [some (zI x0), some (zI x1), some (zI x2), some (zI x3)]) (zcn (by exact rfl))) ?_
    refine Eq.trans (zY_step (by exact rfl) (by exact dX3_wants_64) (by exact rfl) (pc' := 65) (S' := [zI x2]) (by exact rfl) (zcn (by exact rfl))) ?_
    refine Eq.trans (zY_step (by exact rfl) (by exact dX3_wants_65) (by exact rfl) (pc' := 66) (S' := [zI 2, zI x2]) (by exact rfl) (zcn (by exact rfl))) ?_
    refine Eq.trans (zY_divc (by exact rfl) (by exact dX3_wants_66) (c := 2) (by decide) (by decide) (zcn (by exact rfl))) ?_
    exact zq_ret (by exact dX3_wants_67) (by exact rfl) (rv := some (zI ((nrm x2).tdiv 2))) (by exact rfl)
  · refine Eq.trans (zY_at (L2 := [some (zI x0), some (zI x1), some (zI x2), some (zI x3)]) (zcn (by exact rfl))) ?_
    refine Eq.trans (zY_step (by exact rfl) (by exact dX3_wants_68) (by exact rfl) (pc' := 69) (S' := [zI 0]) (by exact rfl) (zcn (by exact rfl))) ?_
    refine Eq.trans (zY_step (by exact rfl) (by exact dX3_wants_69) (by exact rfl) (pc' := 70) (S' := [zI x2, zI 0]) (by exact rfl) (zcn (by exact rfl))) ?_
    refine Eq.trans (zY_step (by exact rfl) (by exact dX3_wants_70) (by exact rfl) (pc' := 71) (S' := [zI 2, zI x2, zI 0]) (by exact rfl) (zcn (by exact rfl))) ?_
    refine Eq.trans (zY_divc (by exact rfl) (by exact dX3_wants_71) (c := 2) (by decide) (by decide) (zcn (by exact rfl))) ?_
    refine Eq.trans (zY_step (by exact rfl) (by exact dX3_wants_72) (by exact rfl) (pc' := 73) (S' := [zI 1, zI ((nrm x2).tdiv 2), zI 0]) (by exact rfl) (zcn (by exact rfl))) ?_
    refine Eq.trans (zY_step (by exact rfl) (by exact dX3_wants_73) (by exact rfl) (pc' := 74) (S' := [zI (((nrm x2).tdiv 2) - 1), zI 0]) (by exact rfl) (zcn (by exact rfl))) ?_
    exact zY_S (by exact rfl) (by exact dX3_wants_74) (by exact rfl) (by exact Or.inl rfl) (as := [zI 0, zI (((nrm x2).tdiv 2) - 1)]) (S' := []) (by exact rfl) (by exact rfl) (by exact Nat.le_of_ble_eq_true rfl) (by exact Nat.le_of_ble_eq_true rfl) (zcn (by exact rfl))
  · refine Eq.trans (zY_at (L2 := [none, none, none, none]) (by exact rfl)) ?_
    refine Eq.trans (zY_step (by exact rfl) (by exact dX3_wants_78) (by exact rfl) (pc' := 79) (S' := [zI 0]) (by exact rfl) (zcn (by exact rfl))) ?_
    exact zq_ret (by exact dX3_wants_79) (by exact rfl) (rv := some (zI 0)) (by exact rfl)
  · refine Eq.trans (zY_at (L2 := [none, none, none, none]) (by exact rfl)) ?_
    refine Eq.trans (zY_step (by exact rfl) (by exact dX3_wants_78) (by exact rfl) (pc' := 79) (S' := [zI 0]) (by exact rfl) (zcn (by exact rfl))) ?_
    exact zq_ret (by exact dX3_wants_79) (by exact rfl) (rv := some (zI 0)) (by exact rfl)
  · refine Eq.trans (zY_at (L2 := [some (zI x0), some (zI x1), some (zI x2), some (zI x3)]) (zcn (by exact rfl))) ?_
    refine Eq.trans (zY_step (by exact rfl) (by exact dX3_wants_80) (by exact rfl) (pc' := 81) (S' := [zI x2]) (by exact rfl) (zcn (by exact rfl))) ?_
    exact zq_ret (by exact dX3_wants_81) (by exact rfl) (rv := some (zI x2)) (by exact rfl)
theorem b_X3_wants_48 (d : Nat) (y0 x0 x1 x2 x3 : Int) (σ : zS) : zq d mX3_wants 48 [some (zI x0), some (zI x1), some (zI x2), some (zI x3)] [zI y0] σ = (if nrm y0 = 0 then some (some (zI x2), σ) else some (some (zI 10), σ)) := by
  refine Eq.trans (zY_if_eq (by exact rfl) (by exact dX3_wants_48) (t := 56) (by exact rfl) (a2 := nrm y0) (by exact rfl) (zcn (by exact rfl)) (zcn (by exact rfl))) (zif ?_ ?_)
  · refine Eq.trans (zY_step (by exact rfl) (by exact dX3_wants_56) (by exact rfl) (pc' := 57) (S' := [zI x2]) (L2 := [none, none, none, none]) (by exact rfl) (by exact rfl)) ?_
    exact zq_ret (by exact dX3_wants_57) (by exact rfl) (rv := some (zI x2)) (by exact rfl)
  · refine Eq.trans (zY_step (by exact rfl) (by exact dX3_wants_51) (by exact rfl) (pc' := 53) (S' := [zI 10]) (by exact rfl) (zcn (by exact rfl))) ?_
    refine Eq.trans (zY_step (by exact rfl) (by exact dX3_wants_53) (by exact rfl) (pc' := 57) (S' := [zI 10]) (L2 := [none, none, none, none]) (by exact rfl) (by exact rfl)) ?_
    exact zq_ret (by exact dX3_wants_57) (by exact rfl) (rv := some (zI 10)) (by exact rfl)
theorem b_X3_wants_77 (d : Nat) (y0 x0 x1 x2 x3 : Int) (σ : zS) : zq d mX3_wants 77 [some (zI x0), some (zI x1), some (zI x2), some (zI x3)] [zI y0] σ = some (some (zI y0), σ) := by
  exact zq_ret (by exact dX3_wants_77) (by exact rfl) (rv := some (zI y0)) (by exact rfl)
theorem e_X3_worth (d : Nat) (x0 x1 x2 : Int) (σ : zS) : zc (d + 1) mX3_worth [zI x0, zI x1, zI x2] σ = (if nrm x0 = 1 then (zc d mX3_isLate [zI x2] σ).bind fun r => zq (d + 1) mX3_worth 48 [some (zI x0), some (zI x1), some (zI x2)] (r.1.toList ++ []) r.2 else (if nrm x0 = 2 then some (some (zI (((nrm x1).tdiv 2) + 1)), σ) else (if nrm x0 = 3 then some (some (zI 0), σ) else (if nrm x0 = 4 then some (some (zI 1), σ) else (if nrm x0 = 5 then some (some (zI 1), σ) else (if nrm x0 = 6 then some (some (zI 0), σ) else (if nrm x0 = 7 then some (some (zI ((nrm x1).tdiv 2)), σ) else some (some (zI 1), σ)))))))) := by
  refine Eq.trans (zc_zq (L := [some (zI x0), some (zI x1), some (zI x2)]) (by exact rfl)) ?_
  refine Eq.trans (zY_step (by exact rfl) (by exact dX3_worth_0) (by exact rfl) (pc' := 1) (S' := [zI x0]) (by exact rfl) (zcn (by exact rfl))) ?_
  refine Eq.trans (zY_tsw (by exact rfl) (by exact dX3_worth_1) (by exact rfl) (dt := 69) (by exact rfl) (ts := [(1, 44), (2, 57), (3, 63), (4, 69), (5, 69), (6, 63), (7, 65)]) (by exact rfl)) ?_
  refine zif ?_ (zif ?_ (zif ?_ (zif ?_ (zif ?_ (zif ?_ (zif ?_ (?_)))))))
  · refine Eq.trans (zY_at (L2 := [some (zI x0), some (zI x1), some (zI x2)]) (zcn (by exact rfl))) ?_
    refine Eq.trans (zY_step (by exact rfl) (by exact dX3_worth_44) (by exact rfl) (pc' := 45) (S' := [zI x2]) (by exact rfl) (zcn (by exact rfl))) ?_
    exact zY_S (by exact rfl) (by exact dX3_worth_45) (by exact rfl) (by exact Or.inl rfl) (as := [zI x2]) (S' := []) (by exact rfl) (by exact rfl) (by exact Nat.le_of_ble_eq_true rfl) (by exact Nat.le_of_ble_eq_true rfl) (zcn (by exact rfl))
  · refine Eq.trans (zY_at (L2 := [some (zI x0), some (zI x1), some (zI x2)]) (zcn (by exact rfl))) ?_
    refine Eq.trans (zY_step (by exact rfl) (by exact dX3_worth_57) (by exact rfl) (pc' := 58) (S' := [zI x1]) (by exact rfl) (zcn (by exact rfl))) ?_
    refine Eq.trans (zY_step (by exact rfl) (by exact dX3_worth_58) (by exact rfl) (pc' := 59) (S' := [zI 2, zI x1]) (by exact rfl) (zcn (by exact rfl))) ?_
    refine Eq.trans (zY_divc (by exact rfl) (by exact dX3_worth_59) (c := 2) (by decide) (by decide) (zcn (by exact rfl))) ?_
    refine Eq.trans (zY_step (by exact rfl) (by exact dX3_worth_60) (by exact rfl) (pc' := 61) (S' := [zI 1, zI ((nrm x1).tdiv 2)]) (by exact rfl) (zcn (by exact rfl))) ?_
    refine Eq.trans (zY_step (by exact rfl) (by exact dX3_worth_61) (by exact rfl) (pc' := 62) (S' := [zI (((nrm x1).tdiv 2) + 1)]) (by exact rfl) (zcn (by exact rfl))) ?_
    exact zq_ret (by exact dX3_worth_62) (by exact rfl) (rv := some (zI (((nrm x1).tdiv 2) + 1))) (by exact rfl)
  · refine Eq.trans (zY_at (L2 := [none, none, none]) (by exact rfl)) ?_
    refine Eq.trans (zY_step (by exact rfl) (by exact dX3_worth_63) (by exact rfl) (pc' := 64) (S' := [zI 0]) (by exact rfl) (zcn (by exact rfl))) ?_
    exact zq_ret (by exact dX3_worth_64) (by exact rfl) (rv := some (zI 0)) (by exact rfl)
  · refine Eq.trans (zY_at (L2 := [none, none, none]) (by exact rfl)) ?_
    refine Eq.trans (zY_step (by exact rfl) (by exact dX3_worth_69) (by exact rfl) (pc' := 70) (S' := [zI 1]) (by exact rfl) (zcn (by exact rfl))) ?_
    exact zq_ret (by exact dX3_worth_70) (by exact rfl) (rv := some (zI 1)) (by exact rfl)
  · refine Eq.trans (zY_at (L2 := [none, none, none]) (by exact rfl)) ?_
    refine Eq.trans (zY_step (by exact rfl) (by exact dX3_worth_69) (by exact rfl) (pc' := 70) (S' := [zI 1]) (by exact rfl) (zcn (by exact rfl))) ?_
    exact zq_ret (by exact dX3_worth_70) (by exact rfl) (rv := some (zI 1)) (by exact rfl)
  · refine Eq.trans (zY_at (L2 := [none, none, none]) (by exact rfl)) ?_
    refine Eq.trans (zY_step (by exact rfl) (by exact dX3_worth_63) (by exact rfl) (pc' := 64) (S' := [zI 0]) (by exact rfl) (zcn (by exact rfl))) ?_
    exact zq_ret (by exact dX3_worth_64) (by exact rfl) (rv := some (zI 0)) (by exact rfl)
  · refine Eq.trans (zY_at (L2 := [some (zI x0), some (zI x1), some (zI x2)]) (zcn (by exact rfl))) ?_
    refine Eq.trans (zY_step (by exact rfl) (by exact dX3_worth_65) (by exact rfl) (pc' := 66) (S' := [zI x1]) (by exact rfl) (zcn (by exact rfl))) ?_
    refine Eq.trans (zY_step (by exact rfl) (by exact dX3_worth_66) (by exact rfl) (pc' := 67) (S' := [zI 2, zI x1]) (by exact rfl) (zcn (by exact rfl))) ?_
    refine Eq.trans (zY_divc (by exact rfl) (by exact dX3_worth_67) (c := 2) (by decide) (by decide) (zcn (by exact rfl))) ?_
    exact zq_ret (by exact dX3_worth_68) (by exact rfl) (rv := some (zI ((nrm x1).tdiv 2))) (by exact rfl)
  · refine Eq.trans (zY_at (L2 := [none, none, none]) (by exact rfl)) ?_
    refine Eq.trans (zY_step (by exact rfl) (by exact dX3_worth_69) (by exact rfl) (pc' := 70) (S' := [zI 1]) (by exact rfl) (zcn (by exact rfl))) ?_
    exact zq_ret (by exact dX3_worth_70) (by exact rfl) (rv := some (zI 1)) (by exact rfl)
theorem b_X3_worth_48 (d : Nat) (y0 x0 x1 x2 : Int) (σ : zS) : zq d mX3_worth 48 [some (zI x0), some (zI x1), some (zI x2)] [zI y0] σ = (if nrm y0 = 0 then some (some (zI 1), σ) else some (some (zI 3), σ)) := by
  refine Eq.trans (zY_if_eq (by exact rfl) (by exact dX3_worth_48) (t := 55) (by exact rfl) (a2 := nrm y0) (by exact rfl) (zcn (by exact rfl)) (zcn (by exact rfl))) (zif ?_ ?_)
  · refine Eq.trans (zY_step (by exact rfl) (by exact dX3_worth_55) (by exact rfl) (pc' := 56) (S' := [zI 1]) (L2 := [none, none, none]) (by exact rfl) (by exact rfl)) ?_
    exact zq_ret (by exact dX3_worth_56) (by exact rfl) (rv := some (zI 1)) (by exact rfl)
  · refine Eq.trans (zY_step (by exact rfl) (by exact dX3_worth_51) (by exact rfl) (pc' := 52) (S' := [zI 3]) (by exact rfl) (zcn (by exact rfl))) ?_
    refine Eq.trans (zY_step (by exact rfl) (by exact dX3_worth_52) (by exact rfl) (pc' := 56) (S' := [zI 3]) (L2 := [none, none, none]) (by exact rfl) (by exact rfl)) ?_
    exact zq_ret (by exact dX3_worth_56) (by exact rfl) (rv := some (zI 3)) (by exact rfl)
theorem e_X3_can (d : Nat) (x1 : Int) {a0 : Nat} (ha0 : zkd a0 = 4) (hn0 : zln a0 = 35) (σ : zS) : zc (d + 1) mX3_can [zR (some a0), zI x1] σ = (if nrm x1 = nrm ((σ a0 0) - 1) then some (some (zI 0), σ) else (zc d mX3_of [zI x1, zI 3] σ).bind fun r => zq (d + 1) mX3_can 15 [some (zR (some a0)), some (zI x1)] (r.1.toList ++ [zR (some a0)]) r.2) := by
  refine Eq.trans (zc_zq (L := [some (zR (some a0)), some (zI x1)]) (by exact rfl)) ?_
  refine Eq.trans (zY_step (by exact rfl) (by exact dX3_can_0) (by exact rfl) (pc' := 1) (S' := [zI x1]) (by exact rfl) (zcn (by exact rfl))) ?_
  refine Eq.trans (zY_step (by exact rfl) (by exact dX3_can_1) (by exact rfl) (pc' := 2) (S' := [zR (some a0), zI x1]) (by exact rfl) (zcn (by exact rfl))) ?_
  refine Eq.trans (zY_step (by exact rfl) (by exact dX3_can_2) (by exact rfl) (pc' := 3) (S' := [zI 0, zR (some a0), zI x1]) (by exact rfl) (zcn (by exact rfl))) ?_
  refine Eq.trans (zY_ialdc (by exact rfl) (by exact dX3_can_3) (by exact ha0) (by exact hn0) (j := 0) (by decide) (by decide) (zcn (by exact rfl))) ?_
  refine Eq.trans (zY_step (by exact rfl) (by exact dX3_can_4) (by exact rfl) (pc' := 5) (S' := [zI 1, zI (σ a0 0), zI x1]) (by exact rfl) (zcn (by exact rfl))) ?_
  refine Eq.trans (zY_step (by exact rfl) (by exact dX3_can_5) (by exact rfl) (pc' := 6) (S' := [zI ((σ a0 0) - 1), zI x1]) (by exact rfl) (zcn (by exact rfl))) ?_
  refine Eq.trans (zY_ic_eq (by exact rfl) (by exact dX3_can_6) (t := 20) (by exact rfl) (a2 := nrm x1) (b2 := nrm ((σ a0 0) - 1)) (by exact rfl) (by exact rfl) (L1 := [none, none]) (by exact rfl) (zcn (by exact rfl))) (zif ?_ ?_)
  · refine Eq.trans (zY_step (by exact rfl) (by exact dX3_can_20) (by exact rfl) (pc' := 21) (S' := [zI 0]) (by exact rfl) (zcn (by exact rfl))) ?_
    exact zq_ret (by exact dX3_can_21) (by exact rfl) (rv := some (zI 0)) (by exact rfl)
  · refine Eq.trans (zY_step (by exact rfl) (by exact dX3_can_9) (by exact rfl) (pc' := 10) (S' := [zR (some a0)]) (by exact rfl) (zcn (by exact rfl))) ?_
    refine Eq.trans (zY_step (by exact rfl) (by exact dX3_can_10) (by exact rfl) (pc' := 11) (S' := [zI x1, zR (some a0)]) (by exact rfl) (zcn (by exact rfl))) ?_
    refine Eq.trans (zY_step (by exact rfl) (by exact dX3_can_11) (by exact rfl) (pc' := 12) (S' := [zI 3, zI x1, zR (some a0)]) (by exact rfl) (zcn (by exact rfl))) ?_
    exact zY_S (by exact rfl) (by exact dX3_can_12) (by exact rfl) (by exact Or.inl rfl) (as := [zI x1, zI 3]) (S' := [zR (some a0)]) (by exact rfl) (by exact rfl) (by exact Nat.le_of_ble_eq_true rfl) (by exact Nat.le_of_ble_eq_true rfl) (zcn (by exact rfl))
theorem b_X3_can_15 (d : Nat) (y0 x1 : Int) {a0 : Nat} (ha0 : zkd a0 = 4) (hn0 : zln a0 = 35) (σ : zS) : zq (d + 1) mX3_can 15 [some (zR (some a0)), some (zI x1)] [zI y0, zR (some a0)] σ = (if zix y0 35 then (if ¬ nrm (σ a0 (nrm y0).toNat) = 1 then (zc d mX3_of [zI (x1 + 1), zI 0] σ).bind fun r => zq (d + 1) mX3_can 33 [some (zR (some a0)), some (zI x1)] (r.1.toList ++ [zR (some a0), zI 10, zI 0]) r.2 else some (some (zI 0), σ)) else none) := by
  refine Eq.trans (zY_iald (by exact rfl) (by exact dX3_can_15) (by exact ha0) (by exact hn0) (zcn (by exact rfl))) (zif ?_ rfl)
  · refine Eq.trans (zY_step (by exact rfl) (by exact dX3_can_16) (by exact rfl) (pc' := 17) (S' := [zI 1, zI (σ a0 (nrm y0).toNat)]) (by exact rfl) (zcn (by exact rfl))) ?_
    refine Eq.trans (zY_ic_ne (by exact rfl) (by exact dX3_can_17) (t := 22) (by exact rfl) (a2 := nrm (σ a0 (nrm y0).toNat)) (b2 := 1) (by exact rfl) (by decide) (L2 := [none, none]) (zcn (by exact rfl)) (by exact rfl)) (zif ?_ ?_)
    · refine Eq.trans (zY_step (by exact rfl) (by exact dX3_can_22) (by exact rfl) (pc' := 23) (S' := [zI 0]) (by exact rfl) (zcn (by exact rfl))) ?_
      refine Eq.trans (zY_step (by exact rfl) (by exact dX3_can_23) (by exact rfl) (pc' := 25) (S' := [zI 10, zI 0]) (by exact rfl) (zcn (by exact rfl))) ?_
      refine Eq.trans (zY_step (by exact rfl) (by exact dX3_can_25) (by exact rfl) (pc' := 26) (S' := [zR (some a0), zI 10, zI 0]) (by exact rfl) (zcn (by exact rfl))) ?_
      refine Eq.trans (zY_step (by exact rfl) (by exact dX3_can_26) (by exact rfl) (pc' := 27) (S' := [zI x1, zR (some a0), zI 10, zI 0]) (by exact rfl) (zcn (by exact rfl))) ?_
      refine Eq.trans (zY_step (by exact rfl) (by exact dX3_can_27) (by exact rfl) (pc' := 28) (S' := [zI 1, zI x1, zR (some a0), zI 10, zI 0]) (by exact rfl) (zcn (by exact rfl))) ?_
      refine Eq.trans (zY_step (by exact rfl) (by exact dX3_can_28) (by exact rfl) (pc' := 29) (S' := [zI (x1 + 1), zR (some a0), zI 10, zI 0]) (by exact rfl) (zcn (by exact rfl))) ?_
      refine Eq.trans (zY_step (by exact rfl) (by exact dX3_can_29) (by exact rfl) (pc' := 30) (S' := [zI 0, zI (x1 + 1), zR (some a0), zI 10, zI 0]) (by exact rfl) (zcn (by exact rfl))) ?_
      exact zY_S (by exact rfl) (by exact dX3_can_30) (by exact rfl) (by exact Or.inl rfl) (as := [zI (x1 + 1), zI 0]) (S' := [zR (some a0), zI 10, zI 0]) (by exact rfl) (by exact rfl) (by exact Nat.le_of_ble_eq_true rfl) (by exact Nat.le_of_ble_eq_true rfl) (zcn (by exact rfl))
    · refine Eq.trans (zY_step (by exact rfl) (by exact dX3_can_20) (by exact rfl) (pc' := 21) (S' := [zI 0]) (by exact rfl) (zcn (by exact rfl))) ?_
      exact zq_ret (by exact dX3_can_21) (by exact rfl) (rv := some (zI 0)) (by exact rfl)
theorem b_X3_can_33 (d : Nat) (y0 y2 y3 x1 : Int) {a0 : Nat} (ha0 : zkd a0 = 4) (hn0 : zln a0 = 35) (σ : zS) : zq (d + 1) mX3_can 33 [some (zR (some a0)), some (zI x1)] [zI y0, zR (some a0), zI y2, zI y3] σ = (if zix y0 35 then (zc d mX3_of [zI (x1 + 1), zI 1] σ).bind fun r => zq (d + 1) mX3_can 42 [some (zR (some a0)), some (zI x1)] (r.1.toList ++ [zR (some a0), zI (σ a0 (nrm y0).toNat), zI y2, zI y3]) r.2 else none) := by
  refine Eq.trans (zY_iald (by exact rfl) (by exact dX3_can_33) (by exact ha0) (by exact hn0) (zcn (by exact rfl))) (zif ?_ rfl)
  · refine Eq.trans (zY_step (by exact rfl) (by exact dX3_can_34) (by exact rfl) (pc' := 35) (S' := [zR (some a0), zI (σ a0 (nrm y0).toNat), zI y2, zI y3]) (by exact rfl) (zcn (by exact rfl))) ?_
    refine Eq.trans (zY_step (by exact rfl) (by exact dX3_can_35) (by exact rfl) (pc' := 36) (S' := [zI x1, zR (some a0), zI (σ a0 (nrm y0).toNat), zI y2, zI y3]) (by exact rfl) (zcn (by exact rfl))) ?_
    refine Eq.trans (zY_step (by exact rfl) (by exact dX3_can_36) (by exact rfl) (pc' := 37) (S' := [zI 1, zI x1, zR (some a0), zI (σ a0 (nrm y0).toNat), zI y2, zI y3]) (by exact rfl) (zcn (by exact rfl))) ?_
    refine Eq.trans (zY_step (by exact rfl) (by exact dX3_can_37) (by exact rfl) (pc' := 38) (S' := [zI (x1 + 1), zR (some a0), zI (σ a0 (nrm y0).toNat), zI y2, zI y3]) (by exact rfl) (zcn (by exact rfl))) ?_
    refine Eq.trans (zY_step (by exact rfl) (by exact dX3_can_38) (by exact rfl) (pc' := 39) (S' := [zI 1, zI (x1 + 1), zR (some a0), zI (σ a0 (nrm y0).toNat), zI y2, zI y3]) (by exact rfl) (zcn (by exact rfl))) ?_
    exact zY_S (by exact rfl) (by exact dX3_can_39) (by exact rfl) (by exact Or.inl rfl) (as := [zI (x1 + 1), zI 1]) (S' := [zR (some a0), zI (σ a0 (nrm y0).toNat), zI y2, zI y3]) (by exact rfl) (by exact rfl) (by exact Nat.le_of_ble_eq_true rfl) (by exact Nat.le_of_ble_eq_true rfl) (zcn (by exact rfl))
theorem b_X3_can_42 (d : Nat) (y0 y2 y3 y4 x1 : Int) {a0 : Nat} (ha0 : zkd a0 = 4) (hn0 : zln a0 = 35) (σ : zS) : zq (d + 1) mX3_can 42 [some (zR (some a0)), some (zI x1)] [zI y0, zR (some a0), zI y2, zI y3, zI y4] σ = (if zix y0 35 then (zc d mX3_knees [zI y2, zI (σ a0 (nrm y0).toNat)] σ).bind fun r => zq (d + 1) mX3_can 46 [some (zR (some a0)), some (zI x1)] (r.1.toList ++ [zI y3, zI y4]) r.2 else none) := by
  refine Eq.trans (zY_iald (by exact rfl) (by exact dX3_can_42) (by exact ha0) (by exact hn0) (zcn (by exact rfl))) (zif ?_ rfl)
  · exact zY_S (by exact rfl) (by exact dX3_can_43) (by exact rfl) (by exact Or.inl rfl) (as := [zI y2, zI (σ a0 (nrm y0).toNat)]) (S' := [zI y3, zI y4]) (by exact rfl) (by exact rfl) (by exact Nat.le_of_ble_eq_true rfl) (by exact Nat.le_of_ble_eq_true rfl) (zcn (by exact rfl))
theorem b_X3_can_46 (d : Nat) (y0 y1 y2 x1 : Int) {a0 : Nat} (ha0 : zkd a0 = 4) (hn0 : zln a0 = 35) (σ : zS) : zq (d + 1) mX3_can 46 [some (zR (some a0)), some (zI x1)] [zI y0, zI y1, zI y2] σ = (zc d mX3_most [zI y2, zI (y1 - y0)] σ).bind fun r => zq (d + 1) mX3_can 50 [some (zR (some a0)), some (zI x1)] (r.1.toList ++ []) r.2 := by
  refine Eq.trans (zY_step (by exact rfl) (by exact dX3_can_46) (by exact rfl) (pc' := 47) (S' := [zI (y1 - y0), zI y2]) (by exact rfl) (zcn (by exact rfl))) ?_
  exact zY_S (by exact rfl) (by exact dX3_can_47) (by exact rfl) (by exact Or.inl rfl) (as := [zI y2, zI (y1 - y0)]) (S' := []) (by exact rfl) (by exact rfl) (by exact Nat.le_of_ble_eq_true rfl) (by exact Nat.le_of_ble_eq_true rfl) (zcn (by exact rfl))
theorem b_X3_can_50 (d : Nat) (y0 x1 : Int) {a0 : Nat} (ha0 : zkd a0 = 4) (hn0 : zln a0 = 35) (σ : zS) : zq d mX3_can 50 [some (zR (some a0)), some (zI x1)] [zI y0] σ = some (some (zI y0), σ) := by
  exact zq_ret (by exact dX3_can_50) (by exact rfl) (rv := some (zI y0)) (by exact rfl)
theorem e_X3_worthOf (d : Nat) (x1 : Int) {a0 : Nat} (ha0 : zkd a0 = 4) (hn0 : zln a0 = 35) (σ : zS) : zc (d + 1) mX3_worthOf [zR (some a0), zI x1] σ = (zc d mX3_of [zI x1, zI 0] σ).bind fun r => zq (d + 1) mX3_worthOf 6 [some (zR (some a0)), some (zI x1)] (r.1.toList ++ [zR (some a0)]) r.2 := by
  refine Eq.trans (zc_zq (L := [some (zR (some a0)), some (zI x1)]) (by exact rfl)) ?_
  refine Eq.trans (zY_step (by exact rfl) (by exact dX3_worthOf_0) (by exact rfl) (pc' := 1) (S' := [zR (some a0)]) (by exact rfl) (zcn (by exact rfl))) ?_
  refine Eq.trans (zY_step (by exact rfl) (by exact dX3_worthOf_1) (by exact rfl) (pc' := 2) (S' := [zI x1, zR (some a0)]) (by exact rfl) (zcn (by exact rfl))) ?_
  refine Eq.trans (zY_step (by exact rfl) (by exact dX3_worthOf_2) (by exact rfl) (pc' := 3) (S' := [zI 0, zI x1, zR (some a0)]) (by exact rfl) (zcn (by exact rfl))) ?_
  exact zY_S (by exact rfl) (by exact dX3_worthOf_3) (by exact rfl) (by exact Or.inl rfl) (as := [zI x1, zI 0]) (S' := [zR (some a0)]) (by exact rfl) (by exact rfl) (by exact Nat.le_of_ble_eq_true rfl) (by exact Nat.le_of_ble_eq_true rfl) (zcn (by exact rfl))
theorem b_X3_worthOf_6 (d : Nat) (y0 x1 : Int) {a0 : Nat} (ha0 : zkd a0 = 4) (hn0 : zln a0 = 35) (σ : zS) : zq (d + 1) mX3_worthOf 6 [some (zR (some a0)), some (zI x1)] [zI y0, zR (some a0)] σ = (if zix y0 35 then (zc d mX3_of [zI x1, zI 1] σ).bind fun r => zq (d + 1) mX3_worthOf 13 [some (zR (some a0)), some (zI x1)] (r.1.toList ++ [zR (some a0), zI (σ a0 (nrm y0).toNat)]) r.2 else none) := by
  refine Eq.trans (zY_iald (by exact rfl) (by exact dX3_worthOf_6) (by exact ha0) (by exact hn0) (zcn (by exact rfl))) (zif ?_ rfl)
  · refine Eq.trans (zY_step (by exact rfl) (by exact dX3_worthOf_7) (by exact rfl) (pc' := 8) (S' := [zR (some a0), zI (σ a0 (nrm y0).toNat)]) (by exact rfl) (zcn (by exact rfl))) ?_
    refine Eq.trans (zY_step (by exact rfl) (by exact dX3_worthOf_8) (by exact rfl) (pc' := 9) (S' := [zI x1, zR (some a0), zI (σ a0 (nrm y0).toNat)]) (by exact rfl) (zcn (by exact rfl))) ?_
    refine Eq.trans (zY_step (by exact rfl) (by exact dX3_worthOf_9) (by exact rfl) (pc' := 10) (S' := [zI 1, zI x1, zR (some a0), zI (σ a0 (nrm y0).toNat)]) (by exact rfl) (zcn (by exact rfl))) ?_
    exact zY_S (by exact rfl) (by exact dX3_worthOf_10) (by exact rfl) (by exact Or.inl rfl) (as := [zI x1, zI 1]) (S' := [zR (some a0), zI (σ a0 (nrm y0).toNat)]) (by exact rfl) (by exact rfl) (by exact Nat.le_of_ble_eq_true rfl) (by exact Nat.le_of_ble_eq_true rfl) (zcn (by exact rfl))
theorem b_X3_worthOf_13 (d : Nat) (y0 y2 x1 : Int) {a0 : Nat} (ha0 : zkd a0 = 4) (hn0 : zln a0 = 35) (σ : zS) : zq (d + 1) mX3_worthOf 13 [some (zR (some a0)), some (zI x1)] [zI y0, zR (some a0), zI y2] σ = (if zix y0 35 then (zc d mX3_worth [zI y2, zI (σ a0 (nrm y0).toNat), zI (σ a0 1)] σ).bind fun r => zq (d + 1) mX3_worthOf 20 [some (zR (some a0)), some (zI x1)] (r.1.toList ++ []) r.2 else none) := by
  refine Eq.trans (zY_iald (by exact rfl) (by exact dX3_worthOf_13) (by exact ha0) (by exact hn0) (zcn (by exact rfl))) (zif ?_ rfl)
  · refine Eq.trans (zY_step (by exact rfl) (by exact dX3_worthOf_14) (by exact rfl) (pc' := 15) (S' := [zR (some a0), zI (σ a0 (nrm y0).toNat), zI y2]) (by exact rfl) (zcn (by exact rfl))) ?_
    refine Eq.trans (zY_step (by exact rfl) (by exact dX3_worthOf_15) (by exact rfl) (pc' := 16) (S' := [zI 1, zR (some a0), zI (σ a0 (nrm y0).toNat), zI y2]) (by exact rfl) (zcn (by exact rfl))) ?_
    refine Eq.trans (zY_ialdc (by exact rfl) (by exact dX3_worthOf_16) (by exact ha0) (by exact hn0) (j := 1) (by decide) (by decide) (zcn (by exact rfl))) ?_
    exact zY_S (by exact rfl) (by exact dX3_worthOf_17) (by exact rfl) (by exact Or.inl rfl) (as := [zI y2, zI (σ a0 (nrm y0).toNat), zI (σ a0 1)]) (S' := []) (by exact rfl) (by exact rfl) (by exact Nat.le_of_ble_eq_true rfl) (by exact Nat.le_of_ble_eq_true rfl) (zcn (by exact rfl))
theorem b_X3_worthOf_20 (d : Nat) (y0 x1 : Int) {a0 : Nat} (ha0 : zkd a0 = 4) (hn0 : zln a0 = 35) (σ : zS) : zq d mX3_worthOf 20 [some (zR (some a0)), some (zI x1)] [zI y0] σ = some (some (zI y0), σ) := by
  exact zq_ret (by exact dX3_worthOf_20) (by exact rfl) (rv := some (zI y0)) (by exact rfl)
theorem e_X3_room (d : Nat) (x1 : Int) {a0 : Nat} (ha0 : zkd a0 = 4) (hn0 : zln a0 = 35) (σ : zS) : zc (d + 1) mX3_room [zR (some a0), zI x1] σ = (zc d mX3_of [zI x1, zI 2] σ).bind fun r => zq (d + 1) mX3_room 8 [some (zR (some a0)), some (zI x1)] (r.1.toList ++ [zR (some a0), zI 20]) r.2 := by
  refine Eq.trans (zc_zq (L := [some (zR (some a0)), some (zI x1)]) (by exact rfl)) ?_
  refine Eq.trans (zY_step (by exact rfl) (by exact dX3_room_0) (by exact rfl) (pc' := 2) (S' := [zI 20]) (by exact rfl) (zcn (by exact rfl))) ?_
  refine Eq.trans (zY_step (by exact rfl) (by exact dX3_room_2) (by exact rfl) (pc' := 3) (S' := [zR (some a0), zI 20]) (by exact rfl) (zcn (by exact rfl))) ?_
  refine Eq.trans (zY_step (by exact rfl) (by exact dX3_room_3) (by exact rfl) (pc' := 4) (S' := [zI x1, zR (some a0), zI 20]) (by exact rfl) (zcn (by exact rfl))) ?_
  refine Eq.trans (zY_step (by exact rfl) (by exact dX3_room_4) (by exact rfl) (pc' := 5) (S' := [zI 2, zI x1, zR (some a0), zI 20]) (by exact rfl) (zcn (by exact rfl))) ?_
  exact zY_S (by exact rfl) (by exact dX3_room_5) (by exact rfl) (by exact Or.inl rfl) (as := [zI x1, zI 2]) (S' := [zR (some a0), zI 20]) (by exact rfl) (by exact rfl) (by exact Nat.le_of_ble_eq_true rfl) (by exact Nat.le_of_ble_eq_true rfl) (zcn (by exact rfl))
theorem b_X3_room_8 (d : Nat) (y0 y2 x1 : Int) {a0 : Nat} (ha0 : zkd a0 = 4) (hn0 : zln a0 = 35) (σ : zS) : zq (d + 1) mX3_room 8 [some (zR (some a0)), some (zI x1)] [zI y0, zR (some a0), zI y2] σ = (if zix y0 35 then (if ¬ nrm x1 = 0 then (zc d mX3_of [zI (x1 - 1), zI 2] σ).bind fun r => zq (d + 1) mX3_room 26 [some (zR (some a0)), some (zI x1)] (r.1.toList ++ [zR (some a0), zI (y2 + (σ a0 (nrm y0).toNat))]) r.2 else some (some (zI ((y2 + (σ a0 (nrm y0).toNat)) - 0)), σ)) else none) := by
  refine Eq.trans (zY_iald (by exact rfl) (by exact dX3_room_8) (by exact ha0) (by exact hn0) (zcn (by exact rfl))) (zif ?_ rfl)
  · refine Eq.trans (zY_step (by exact rfl) (by exact dX3_room_9) (by exact rfl) (pc' := 10) (S' := [zI (y2 + (σ a0 (nrm y0).toNat))]) (by exact rfl) (zcn (by exact rfl))) ?_
    refine Eq.trans (zY_step (by exact rfl) (by exact dX3_room_10) (by exact rfl) (pc' := 11) (S' := [zI x1, zI (y2 + (σ a0 (nrm y0).toNat))]) (by exact rfl) (zcn (by exact rfl))) ?_
    refine Eq.trans (zY_if_ne (by exact rfl) (by exact dX3_room_11) (t := 18) (by exact rfl) (a2 := nrm x1) (by exact rfl) (zcn (by exact rfl)) (zcn (by exact rfl))) (zif ?_ ?_)
    · refine Eq.trans (zY_step (by exact rfl) (by exact dX3_room_18) (by exact rfl) (pc' := 19) (S' := [zR (some a0), zI (y2 + (σ a0 (nrm y0).toNat))]) (by exact rfl) (zcn (by exact rfl))) ?_
      refine Eq.trans (zY_step (by exact rfl) (by exact dX3_room_19) (by exact rfl) (pc' := 20) (S' := [zI x1, zR (some a0), zI (y2 + (σ a0 (nrm y0).toNat))]) (by exact rfl) (zcn (by exact rfl))) ?_
      refine Eq.trans (zY_step (by exact rfl) (by exact dX3_room_20) (by exact rfl) (pc' := 21) (S' := [zI 1, zI x1, zR (some a0), zI (y2 + (σ a0 (nrm y0).toNat))]) (by exact rfl) (zcn (by exact rfl))) ?_
      refine Eq.trans (zY_step (by exact rfl) (by exact dX3_room_21) (by exact rfl) (pc' := 22) (S' := [zI (x1 - 1), zR (some a0), zI (y2 + (σ a0 (nrm y0).toNat))]) (by exact rfl) (zcn (by exact rfl))) ?_
      refine Eq.trans (zY_step (by exact rfl) (by exact dX3_room_22) (by exact rfl) (pc' := 23) (S' := [zI 2, zI (x1 - 1), zR (some a0), zI (y2 + (σ a0 (nrm y0).toNat))]) (by exact rfl) (zcn (by exact rfl))) ?_
      exact zY_S (by exact rfl) (by exact dX3_room_23) (by exact rfl) (by exact Or.inl rfl) (as := [zI (x1 - 1), zI 2]) (S' := [zR (some a0), zI (y2 + (σ a0 (nrm y0).toNat))]) (by exact rfl) (by exact rfl) (by exact Nat.le_of_ble_eq_true rfl) (by exact Nat.le_of_ble_eq_true rfl) (zcn (by exact rfl))
    · refine Eq.trans (zY_step (by exact rfl) (by exact dX3_room_14) (by exact rfl) (pc' := 15) (S' := [zI 0, zI (y2 + (σ a0 (nrm y0).toNat))]) (by exact rfl) (zcn (by exact rfl))) ?_
      refine Eq.trans (zY_step (by exact rfl) (by exact dX3_room_15) (by exact rfl) (pc' := 27) (S' := [zI 0, zI (y2 + (σ a0 (nrm y0).toNat))]) (L2 := [none, none]) (by exact rfl) (by exact rfl)) ?_
      refine Eq.trans (zY_step (by exact rfl) (by exact dX3_room_27) (by exact rfl) (pc' := 28) (S' := [zI ((y2 + (σ a0 (nrm y0).toNat)) - 0)]) (by exact rfl) (zcn (by exact rfl))) ?_
      exact zq_ret (by exact dX3_room_28) (by exact rfl) (rv := some (zI ((y2 + (σ a0 (nrm y0).toNat)) - 0))) (by exact rfl)
theorem b_X3_room_26 (d : Nat) (y0 y2 x1 : Int) {a0 : Nat} (ha0 : zkd a0 = 4) (hn0 : zln a0 = 35) (σ : zS) : zq d mX3_room 26 [some (zR (some a0)), some (zI x1)] [zI y0, zR (some a0), zI y2] σ = (if zix y0 35 then some (some (zI (y2 - (σ a0 (nrm y0).toNat))), σ) else none) := by
  refine Eq.trans (zY_iald (by exact rfl) (by exact dX3_room_26) (by exact ha0) (by exact hn0) (by exact rfl)) (zif ?_ rfl)
  · refine Eq.trans (zY_step (by exact rfl) (by exact dX3_room_27) (by exact rfl) (pc' := 28) (S' := [zI (y2 - (σ a0 (nrm y0).toNat))]) (by exact rfl) (zcn (by exact rfl))) ?_
    exact zq_ret (by exact dX3_room_28) (by exact rfl) (rv := some (zI (y2 - (σ a0 (nrm y0).toNat)))) (by exact rfl)
theorem e_X3_joy (d : Nat) (x1 : Int) {a0 : Nat} (ha0 : zkd a0 = 4) (hn0 : zln a0 = 35) (σ : zS) : zc (d + 1) mX3_joy [zR (some a0), zI x1] σ = (zc d mX3_worthOf [zR (some a0), zI x1] σ).bind fun r => zq (d + 1) mX3_joy 5 [some (zR (some a0)), some (zI x1)] (r.1.toList ++ []) r.2 := by
  refine Eq.trans (zc_zq (L := [some (zR (some a0)), some (zI x1)]) (by exact rfl)) ?_
  refine Eq.trans (zY_step (by exact rfl) (by exact dX3_joy_0) (by exact rfl) (pc' := 1) (S' := [zR (some a0)]) (by exact rfl) (zcn (by exact rfl))) ?_
  refine Eq.trans (zY_step (by exact rfl) (by exact dX3_joy_1) (by exact rfl) (pc' := 2) (S' := [zI x1, zR (some a0)]) (by exact rfl) (zcn (by exact rfl))) ?_
  exact zY_S (by exact rfl) (by exact dX3_joy_2) (by exact rfl) (by exact Or.inl rfl) (as := [zR (some a0), zI x1]) (S' := []) (by exact rfl) (by exact rfl) (by exact Nat.le_of_ble_eq_true rfl) (by exact Nat.le_of_ble_eq_true rfl) (zcn (by exact rfl))
theorem b_X3_joy_5 (d : Nat) (y0 x1 : Int) {a0 : Nat} (ha0 : zkd a0 = 4) (hn0 : zln a0 = 35) (σ : zS) : zq (d + 1) mX3_joy 5 [some (zR (some a0)), some (zI x1)] [zI y0] σ = (zc d mX3_room [zR (some a0), zI x1] σ).bind fun r => zq (d + 1) mX3_joy 10 [some (zR (some a0)), some (zI x1)] (r.1.toList ++ [zI y0]) r.2 := by
  refine Eq.trans (zY_step (by exact rfl) (by exact dX3_joy_5) (by exact rfl) (pc' := 6) (S' := [zR (some a0), zI y0]) (by exact rfl) (zcn (by exact rfl))) ?_
  refine Eq.trans (zY_step (by exact rfl) (by exact dX3_joy_6) (by exact rfl) (pc' := 7) (S' := [zI x1, zR (some a0), zI y0]) (by exact rfl) (zcn (by exact rfl))) ?_
  exact zY_S (by exact rfl) (by exact dX3_joy_7) (by exact rfl) (by exact Or.inl rfl) (as := [zR (some a0), zI x1]) (S' := [zI y0]) (by exact rfl) (by exact rfl) (by exact Nat.le_of_ble_eq_true rfl) (by exact Nat.le_of_ble_eq_true rfl) (zcn (by exact rfl))
theorem b_X3_joy_10 (d : Nat) (y0 y1 x1 : Int) {a0 : Nat} (ha0 : zkd a0 = 4) (hn0 : zln a0 = 35) (σ : zS) : zq d mX3_joy 10 [some (zR (some a0)), some (zI x1)] [zI y0, zI y1] σ = some (some (zI (y1 * (y0 - 20))), σ) := by
  refine Eq.trans (zY_step (by exact rfl) (by exact dX3_joy_10) (by exact rfl) (pc' := 12) (S' := [zI 20, zI y0, zI y1]) (by exact rfl) (zcn (by exact rfl))) ?_
  refine Eq.trans (zY_step (by exact rfl) (by exact dX3_joy_12) (by exact rfl) (pc' := 13) (S' := [zI (y0 - 20), zI y1]) (by exact rfl) (zcn (by exact rfl))) ?_
  refine Eq.trans (zY_step (by exact rfl) (by exact dX3_joy_13) (by exact rfl) (pc' := 14) (S' := [zI (y1 * (y0 - 20))]) (by exact rfl) (zcn (by exact rfl))) ?_
  exact zq_ret (by exact dX3_joy_14) (by exact rfl) (rv := some (zI (y1 * (y0 - 20)))) (by exact rfl)
theorem e_X3_joyAll (d : Nat) {a0 : Nat} (ha0 : zkd a0 = 4) (hn0 : zln a0 = 35) (σ : zS) : zc d mX3_joyAll [zR (some a0)] σ = zq d mX3_joyAll 4 [some (zR (some a0)), some (zI 0), some (zI 0)] [] σ := by
  refine Eq.trans (zc_zq (L := [some (zR (some a0)), none, none]) (by exact rfl)) ?_
  refine Eq.trans (zY_step (by exact rfl) (by exact dX3_joyAll_0) (by exact rfl) (pc' := 1) (S' := [zI 0]) (by exact rfl) (zcn (by exact rfl))) ?_
  refine Eq.trans (zY_step (by exact rfl) (by exact dX3_joyAll_1) (by exact rfl) (pc' := 2) (L' := [some (zR (some a0)), some (zI 0), none]) (S' := []) (by exact rfl) (zcn (by exact rfl))) ?_
  refine Eq.trans (zY_step (by exact rfl) (by exact dX3_joyAll_2) (by exact rfl) (pc' := 3) (S' := [zI 0]) (by exact rfl) (zcn (by exact rfl))) ?_
  exact zY_step (by exact rfl) (by exact dX3_joyAll_3) (by exact rfl) (pc' := 4) (L' := [some (zR (some a0)), some (zI 0), some (zI 0)]) (S' := []) (by exact rfl) (zcn (by exact rfl))
theorem b_X3_joyAll_4 (d : Nat) (x1 x2 : Int) {a0 : Nat} (ha0 : zkd a0 = 4) (hn0 : zln a0 = 35) (σ : zS) : zq (d + 1) mX3_joyAll 4 [some (zR (some a0)), some (zI x1), some (zI x2)] [] σ = (if nrm (σ a0 0) ≤ nrm x2 then some (some (zI x1), σ) else (zc d mX3_joy [zR (some a0), zI x2] σ).bind fun r => zq (d + 1) mX3_joyAll 17 [some (zR (some a0)), some (zI x1), some (zI x2)] (r.1.toList ++ [zI x1]) r.2) := by
  refine Eq.trans (zY_step (by exact rfl) (by exact dX3_joyAll_4) (by exact rfl) (pc' := 5) (S' := [zI x2]) (by exact rfl) (zcn (by exact rfl))) ?_
  refine Eq.trans (zY_step (by exact rfl) (by exact dX3_joyAll_5) (by exact rfl) (pc' := 6) (S' := [zR (some a0), zI x2]) (by exact rfl) (zcn (by exact rfl))) ?_
  refine Eq.trans (zY_step (by exact rfl) (by exact dX3_joyAll_6) (by exact rfl) (pc' := 7) (S' := [zI 0, zR (some a0), zI x2]) (by exact rfl) (zcn (by exact rfl))) ?_
  refine Eq.trans (zY_ialdc (by exact rfl) (by exact dX3_joyAll_7) (by exact ha0) (by exact hn0) (j := 0) (by decide) (by decide) (zcn (by exact rfl))) ?_
  refine Eq.trans (zY_ic_ge (by exact rfl) (by exact dX3_joyAll_8) (t := 25) (by exact rfl) (a2 := nrm x2) (b2 := nrm (σ a0 0)) (by exact rfl) (by exact rfl) (zcn (by exact rfl)) (zcn (by exact rfl))) (zif ?_ ?_)
  · refine Eq.trans (zY_step (by exact rfl) (by exact dX3_joyAll_25) (by exact rfl) (pc' := 26) (S' := [zI x1]) (by exact rfl) (zcn (by exact rfl))) ?_
    exact zq_ret (by exact dX3_joyAll_26) (by exact rfl) (rv := some (zI x1)) (by exact rfl)
  · refine Eq.trans (zY_step (by exact rfl) (by exact dX3_joyAll_11) (by exact rfl) (pc' := 12) (S' := [zI x1]) (by exact rfl) (zcn (by exact rfl))) ?_
    refine Eq.trans (zY_step (by exact rfl) (by exact dX3_joyAll_12) (by exact rfl) (pc' := 13) (S' := [zR (some a0), zI x1]) (by exact rfl) (zcn (by exact rfl))) ?_
    refine Eq.trans (zY_step (by exact rfl) (by exact dX3_joyAll_13) (by exact rfl) (pc' := 14) (S' := [zI x2, zR (some a0), zI x1]) (by exact rfl) (zcn (by exact rfl))) ?_
    exact zY_S (by exact rfl) (by exact dX3_joyAll_14) (by exact rfl) (by exact Or.inl rfl) (as := [zR (some a0), zI x2]) (S' := [zI x1]) (by exact rfl) (by exact rfl) (by exact Nat.le_of_ble_eq_true rfl) (by exact Nat.le_of_ble_eq_true rfl) (zcn (by exact rfl))
theorem b_X3_joyAll_17 (d : Nat) (y0 y1 x1 x2 : Int) {a0 : Nat} (ha0 : zkd a0 = 4) (hn0 : zln a0 = 35) (σ : zS) : zq d mX3_joyAll 17 [some (zR (some a0)), some (zI x1), some (zI x2)] [zI y0, zI y1] σ = zq d mX3_joyAll 4 [some (zR (some a0)), some (zI (y1 + y0)), some (zI (x2 + 1))] [] σ := by
  refine Eq.trans (zY_step (by exact rfl) (by exact dX3_joyAll_17) (by exact rfl) (pc' := 18) (S' := [zI (y1 + y0)]) (by exact rfl) (zcn (by exact rfl))) ?_
  refine Eq.trans (zY_step (by exact rfl) (by exact dX3_joyAll_18) (by exact rfl) (pc' := 19) (L' := [some (zR (some a0)), some (zI (y1 + y0)), some (zI x2)]) (S' := []) (by exact rfl) (zcn (by exact rfl))) ?_
  refine Eq.trans (zY_step (by exact rfl) (by exact dX3_joyAll_19) (by exact rfl) (pc' := 22) (L' := [some (zR (some a0)), some (zI (y1 + y0)), some (zI (x2 + 1))]) (S' := []) (by exact rfl) (zcn (by exact rfl))) ?_
  exact zY_step (by exact rfl) (by exact dX3_joyAll_22) (by exact rfl) (pc' := 4) (S' := []) (by exact rfl) (zcn (by exact rfl))
theorem e_X3_tipsAll (d : Nat) {a0 : Nat} (ha0 : zkd a0 = 4) (hn0 : zln a0 = 35) (σ : zS) : zc d mX3_tipsAll [zR (some a0)] σ = zq d mX3_tipsAll 4 [some (zR (some a0)), some (zI 0), some (zI 0)] [] σ := by
  refine Eq.trans (zc_zq (L := [some (zR (some a0)), none, none]) (by exact rfl)) ?_
  refine Eq.trans (zY_step (by exact rfl) (by exact dX3_tipsAll_0) (by exact rfl) (pc' := 1) (S' := [zI 0]) (by exact rfl) (zcn (by exact rfl))) ?_
  refine Eq.trans (zY_step (by exact rfl) (by exact dX3_tipsAll_1) (by exact rfl) (pc' := 2) (L' := [some (zR (some a0)), some (zI 0), none]) (S' := []) (by exact rfl) (zcn (by exact rfl))) ?_
  refine Eq.trans (zY_step (by exact rfl) (by exact dX3_tipsAll_2) (by exact rfl) (pc' := 3) (S' := [zI 0]) (by exact rfl) (zcn (by exact rfl))) ?_
  exact zY_step (by exact rfl) (by exact dX3_tipsAll_3) (by exact rfl) (pc' := 4) (L' := [some (zR (some a0)), some (zI 0), some (zI 0)]) (S' := []) (by exact rfl) (zcn (by exact rfl))
theorem b_X3_tipsAll_4 (d : Nat) (x1 x2 : Int) {a0 : Nat} (ha0 : zkd a0 = 4) (hn0 : zln a0 = 35) (σ : zS) : zq (d + 1) mX3_tipsAll 4 [some (zR (some a0)), some (zI x1), some (zI x2)] [] σ = (if nrm (σ a0 0) ≤ nrm x2 then some (some (zI x1), σ) else (zc d mX3_of [zI x2, zI 2] σ).bind fun r => zq (d + 1) mX3_tipsAll 18 [some (zR (some a0)), some (zI x1), some (zI x2)] (r.1.toList ++ [zR (some a0), zI x1]) r.2) := by
  refine Eq.trans (zY_step (by exact rfl) (by exact dX3_tipsAll_4) (by exact rfl) (pc' := 5) (S' := [zI x2]) (by exact rfl) (zcn (by exact rfl))) ?_
  refine Eq.trans (zY_step (by exact rfl) (by exact dX3_tipsAll_5) (by exact rfl) (pc' := 6) (S' := [zR (some a0), zI x2]) (by exact rfl) (zcn (by exact rfl))) ?_
  refine Eq.trans (zY_step (by exact rfl) (by exact dX3_tipsAll_6) (by exact rfl) (pc' := 7) (S' := [zI 0, zR (some a0), zI x2]) (by exact rfl) (zcn (by exact rfl))) ?_
  refine Eq.trans (zY_ialdc (by exact rfl) (by exact dX3_tipsAll_7) (by exact ha0) (by exact hn0) (j := 0) (by decide) (by decide) (zcn (by exact rfl))) ?_
  refine Eq.trans (zY_ic_ge (by exact rfl) (by exact dX3_tipsAll_8) (t := 27) (by exact rfl) (a2 := nrm x2) (b2 := nrm (σ a0 0)) (by exact rfl) (by exact rfl) (zcn (by exact rfl)) (zcn (by exact rfl))) (zif ?_ ?_)
  · refine Eq.trans (zY_step (by exact rfl) (by exact dX3_tipsAll_27) (by exact rfl) (pc' := 28) (S' := [zI x1]) (by exact rfl) (zcn (by exact rfl))) ?_
    exact zq_ret (by exact dX3_tipsAll_28) (by exact rfl) (rv := some (zI x1)) (by exact rfl)
  · refine Eq.trans (zY_step (by exact rfl) (by exact dX3_tipsAll_11) (by exact rfl) (pc' := 12) (S' := [zI x1]) (by exact rfl) (zcn (by exact rfl))) ?_
    refine Eq.trans (zY_step (by exact rfl) (by exact dX3_tipsAll_12) (by exact rfl) (pc' := 13) (S' := [zR (some a0), zI x1]) (by exact rfl) (zcn (by exact rfl))) ?_
    refine Eq.trans (zY_step (by exact rfl) (by exact dX3_tipsAll_13) (by exact rfl) (pc' := 14) (S' := [zI x2, zR (some a0), zI x1]) (by exact rfl) (zcn (by exact rfl))) ?_
    refine Eq.trans (zY_step (by exact rfl) (by exact dX3_tipsAll_14) (by exact rfl) (pc' := 15) (S' := [zI 2, zI x2, zR (some a0), zI x1]) (by exact rfl) (zcn (by exact rfl))) ?_
    exact zY_S (by exact rfl) (by exact dX3_tipsAll_15) (by exact rfl) (by exact Or.inl rfl) (as := [zI x2, zI 2]) (S' := [zR (some a0), zI x1]) (by exact rfl) (by exact rfl) (by exact Nat.le_of_ble_eq_true rfl) (by exact Nat.le_of_ble_eq_true rfl) (zcn (by exact rfl))
theorem b_X3_tipsAll_18 (d : Nat) (y0 y2 x1 x2 : Int) {a0 : Nat} (ha0 : zkd a0 = 4) (hn0 : zln a0 = 35) (σ : zS) : zq d mX3_tipsAll 18 [some (zR (some a0)), some (zI x1), some (zI x2)] [zI y0, zR (some a0), zI y2] σ = (if zix y0 35 then zq d mX3_tipsAll 4 [some (zR (some a0)), some (zI (y2 + (σ a0 (nrm y0).toNat))), some (zI (x2 + 1))] [] σ else none) := by
  refine Eq.trans (zY_iald (by exact rfl) (by exact dX3_tipsAll_18) (by exact ha0) (by exact hn0) (zcn (by exact rfl))) (zif ?_ rfl)
  · refine Eq.trans (zY_step (by exact rfl) (by exact dX3_tipsAll_19) (by exact rfl) (pc' := 20) (S' := [zI (y2 + (σ a0 (nrm y0).toNat))]) (by exact rfl) (zcn (by exact rfl))) ?_
    refine Eq.trans (zY_step (by exact rfl) (by exact dX3_tipsAll_20) (by exact rfl) (pc' := 21) (L' := [some (zR (some a0)), some (zI (y2 + (σ a0 (nrm y0).toNat))), some (zI x2)]) (S' := []) (by exact rfl) (zcn (by exact rfl))) ?_
    refine Eq.trans (zY_step (by exact rfl) (by exact dX3_tipsAll_21) (by exact rfl) (pc' := 24) (L' := [some (zR (some a0)), some (zI (y2 + (σ a0 (nrm y0).toNat))), some (zI (x2 + 1))]) (S' := []) (by exact rfl) (zcn (by exact rfl))) ?_
    exact zY_step (by exact rfl) (by exact dX3_tipsAll_24) (by exact rfl) (pc' := 4) (S' := []) (by exact rfl) (zcn (by exact rfl))
theorem e_X3_tipping (d : Nat) {a0 : Nat} (ha0 : zkd a0 = 4) (hn0 : zln a0 = 35) (σ : zS) : zc d mX3_tipping [zR (some a0)] σ = zq d mX3_tipping 4 [some (zR (some a0)), some (zI 0), some (zI 0)] [] σ := by
  refine Eq.trans (zc_zq (L := [some (zR (some a0)), none, none]) (by exact rfl)) ?_
  refine Eq.trans (zY_step (by exact rfl) (by exact dX3_tipping_0) (by exact rfl) (pc' := 1) (S' := [zI 0]) (by exact rfl) (zcn (by exact rfl))) ?_
  refine Eq.trans (zY_step (by exact rfl) (by exact dX3_tipping_1) (by exact rfl) (pc' := 2) (L' := [some (zR (some a0)), some (zI 0), none]) (S' := []) (by exact rfl) (zcn (by exact rfl))) ?_
  refine Eq.trans (zY_step (by exact rfl) (by exact dX3_tipping_2) (by exact rfl) (pc' := 3) (S' := [zI 0]) (by exact rfl) (zcn (by exact rfl))) ?_
  exact zY_step (by exact rfl) (by exact dX3_tipping_3) (by exact rfl) (pc' := 4) (L' := [some (zR (some a0)), some (zI 0), some (zI 0)]) (S' := []) (by exact rfl) (zcn (by exact rfl))
theorem b_X3_tipping_4 (d : Nat) (x1 x2 : Int) {a0 : Nat} (ha0 : zkd a0 = 4) (hn0 : zln a0 = 35) (σ : zS) : zq (d + 1) mX3_tipping 4 [some (zR (some a0)), some (zI x1), some (zI x2)] [] σ = (if nrm (σ a0 0) ≤ nrm x2 then some (some (zI x1), σ) else (zc d mX3_of [zI x2, zI 2] σ).bind fun r => zq (d + 1) mX3_tipping 18 [some (zR (some a0)), some (zI x1), some (zI x2)] (r.1.toList ++ [zR (some a0), zI x1]) r.2) := by
  refine Eq.trans (zY_step (by exact rfl) (by exact dX3_tipping_4) (by exact rfl) (pc' := 5) (S' := [zI x2]) (by exact rfl) (zcn (by exact rfl))) ?_
  refine Eq.trans (zY_step (by exact rfl) (by exact dX3_tipping_5) (by exact rfl) (pc' := 6) (S' := [zR (some a0), zI x2]) (by exact rfl) (zcn (by exact rfl))) ?_
  refine Eq.trans (zY_step (by exact rfl) (by exact dX3_tipping_6) (by exact rfl) (pc' := 7) (S' := [zI 0, zR (some a0), zI x2]) (by exact rfl) (zcn (by exact rfl))) ?_
  refine Eq.trans (zY_ialdc (by exact rfl) (by exact dX3_tipping_7) (by exact ha0) (by exact hn0) (j := 0) (by decide) (by decide) (zcn (by exact rfl))) ?_
  refine Eq.trans (zY_ic_ge (by exact rfl) (by exact dX3_tipping_8) (t := 37) (by exact rfl) (a2 := nrm x2) (b2 := nrm (σ a0 0)) (by exact rfl) (by exact rfl) (zcn (by exact rfl)) (zcn (by exact rfl))) (zif ?_ ?_)
  · refine Eq.trans (zY_step (by exact rfl) (by exact dX3_tipping_37) (by exact rfl) (pc' := 38) (S' := [zI x1]) (by exact rfl) (zcn (by exact rfl))) ?_
    exact zq_ret (by exact dX3_tipping_38) (by exact rfl) (rv := some (zI x1)) (by exact rfl)
  · refine Eq.trans (zY_step (by exact rfl) (by exact dX3_tipping_11) (by exact rfl) (pc' := 12) (S' := [zI x1]) (by exact rfl) (zcn (by exact rfl))) ?_
    refine Eq.trans (zY_step (by exact rfl) (by exact dX3_tipping_12) (by exact rfl) (pc' := 13) (S' := [zR (some a0), zI x1]) (by exact rfl) (zcn (by exact rfl))) ?_
    refine Eq.trans (zY_step (by exact rfl) (by exact dX3_tipping_13) (by exact rfl) (pc' := 14) (S' := [zI x2, zR (some a0), zI x1]) (by exact rfl) (zcn (by exact rfl))) ?_
    refine Eq.trans (zY_step (by exact rfl) (by exact dX3_tipping_14) (by exact rfl) (pc' := 15) (S' := [zI 2, zI x2, zR (some a0), zI x1]) (by exact rfl) (zcn (by exact rfl))) ?_
    exact zY_S (by exact rfl) (by exact dX3_tipping_15) (by exact rfl) (by exact Or.inl rfl) (as := [zI x2, zI 2]) (S' := [zR (some a0), zI x1]) (by exact rfl) (by exact rfl) (by exact Nat.le_of_ble_eq_true rfl) (by exact Nat.le_of_ble_eq_true rfl) (zcn (by exact rfl))
theorem b_X3_tipping_18 (d : Nat) (y0 y2 x1 x2 : Int) {a0 : Nat} (ha0 : zkd a0 = 4) (hn0 : zln a0 = 35) (σ : zS) : zq d mX3_tipping 18 [some (zR (some a0)), some (zI x1), some (zI x2)] [zI y0, zR (some a0), zI y2] σ = (if zix y0 35 then (if nrm (σ a0 (nrm y0).toNat) ≤ 0 then zq d mX3_tipping 29 [some (zR (some a0)), none, some (zI x2)] [zI 0, zI y2] σ else zq d mX3_tipping 29 [some (zR (some a0)), none, some (zI x2)] [zI (zshl 1 x2), zI y2] σ) else none) := by
  refine Eq.trans (zY_iald (by exact rfl) (by exact dX3_tipping_18) (by exact ha0) (by exact hn0) (zcn (by exact rfl))) (zif ?_ rfl)
  · refine Eq.trans (zY_if_le (by exact rfl) (by exact dX3_tipping_19) (t := 28) (by exact rfl) (a2 := nrm (σ a0 (nrm y0).toNat)) (by exact rfl) (zcn (by exact rfl)) (zcn (by exact rfl))) (zif ?_ ?_)
    · exact zY_step (by exact rfl) (by exact dX3_tipping_28) (by exact rfl) (pc' := 29) (S' := [zI 0, zI y2]) (L2 := [some (zR (some a0)), none, some (zI x2)]) (by exact rfl) (by exact rfl)
    · refine Eq.trans (zY_step (by exact rfl) (by exact dX3_tipping_22) (by exact rfl) (pc' := 23) (S' := [zI 1, zI y2]) (by exact rfl) (zcn (by exact rfl))) ?_
      refine Eq.trans (zY_step (by exact rfl) (by exact dX3_tipping_23) (by exact rfl) (pc' := 24) (S' := [zI x2, zI 1, zI y2]) (by exact rfl) (zcn (by exact rfl))) ?_
      refine Eq.trans (zY_step (by exact rfl) (by exact dX3_tipping_24) (by exact rfl) (pc' := 25) (S' := [zI (zshl 1 x2), zI y2]) (by exact rfl) (zcn (by exact rfl))) ?_
      exact zY_step (by exact rfl) (by exact dX3_tipping_25) (by exact rfl) (pc' := 29) (S' := [zI (zshl 1 x2), zI y2]) (L2 := [some (zR (some a0)), none, some (zI x2)]) (by exact rfl) (by exact rfl)
theorem b_X3_tipping_29 (d : Nat) (y0 y1 x2 : Int) {a0 : Nat} (ha0 : zkd a0 = 4) (hn0 : zln a0 = 35) (σ : zS) : zq d mX3_tipping 29 [some (zR (some a0)), none, some (zI x2)] [zI y0, zI y1] σ = zq d mX3_tipping 4 [some (zR (some a0)), some (zI (zor y1 y0)), some (zI (x2 + 1))] [] σ := by
  refine Eq.trans (zY_step (by exact rfl) (by exact dX3_tipping_29) (by exact rfl) (pc' := 30) (S' := [zI (zor y1 y0)]) (by exact rfl) (zcn (by exact rfl))) ?_
  refine Eq.trans (zY_step (by exact rfl) (by exact dX3_tipping_30) (by exact rfl) (pc' := 31) (L' := [some (zR (some a0)), some (zI (zor y1 y0)), some (zI x2)]) (S' := []) (by exact rfl) (zcn (by exact rfl))) ?_
  refine Eq.trans (zY_step (by exact rfl) (by exact dX3_tipping_31) (by exact rfl) (pc' := 34) (L' := [some (zR (some a0)), some (zI (zor y1 y0)), some (zI (x2 + 1))]) (S' := []) (by exact rfl) (zcn (by exact rfl))) ?_
  exact zY_step (by exact rfl) (by exact dX3_tipping_34) (by exact rfl) (pc' := 4) (S' := []) (by exact rfl) (zcn (by exact rfl))
theorem e_X3_round (d : Nat) (x2 : Int) {a1 : Nat} (ha1 : zkd a1 = 4) (hn1 : zln a1 = 35) (σ : zS) : zc d mX3_round [zR (some 36), zR (some a1), zI x2] σ = zq d mX3_round 9 [some (zR (some 36)), some (zR (some a1)), some (zI x2), some (zI 0), none] [] (zup σ a1 2 ((σ a1 2) + 1)) := by
  refine Eq.trans (zc_zq (L := [some (zR (some 36)), some (zR (some a1)), some (zI x2), none, none]) (by exact rfl)) ?_
  refine Eq.trans (zY_step (by exact rfl) (by exact dX3_round_0) (by exact rfl) (pc' := 1) (S' := [zR (some a1)]) (by exact rfl) (zcn (by exact rfl))) ?_
  refine Eq.trans (zY_step (by exact rfl) (by exact dX3_round_1) (by exact rfl) (pc' := 2) (S' := [zI 2, zR (some a1)]) (by exact rfl) (zcn (by exact rfl))) ?_
  refine Eq.trans (zY_step (by exact rfl) (by exact dX3_round_2) (by exact rfl) (pc' := 3) (S' := [zI 2, zR (some a1), zI 2, zR (some a1)]) (by exact rfl) (zcn (by exact rfl))) ?_
  refine Eq.trans (zY_ialdc (by exact rfl) (by exact dX3_round_3) (by exact ha1) (by exact hn1) (j := 2) (by decide) (by decide) (zcn (by exact rfl))) ?_
  refine Eq.trans (zY_step (by exact rfl) (by exact dX3_round_4) (by exact rfl) (pc' := 5) (S' := [zI 1, zI (σ a1 2), zI 2, zR (some a1)]) (by exact rfl) (zcn (by exact rfl))) ?_
  refine Eq.trans (zY_step (by exact rfl) (by exact dX3_round_5) (by exact rfl) (pc' := 6) (S' := [zI ((σ a1 2) + 1), zI 2, zR (some a1)]) (by exact rfl) (zcn (by exact rfl))) ?_
  refine Eq.trans (zY_iastc (by exact rfl) (by exact dX3_round_6) (by exact ha1) (by exact hn1) (j := 2) (by decide) (by decide) (zcn (by exact rfl))) ?_
  refine Eq.trans (zY_step (by exact rfl) (by exact dX3_round_7) (by exact rfl) (pc' := 8) (S' := [zI 0]) (by exact rfl) (zcn (by exact rfl))) ?_
  exact zY_step (by exact rfl) (by exact dX3_round_8) (by exact rfl) (pc' := 9) (L' := [some (zR (some 36)), some (zR (some a1)), some (zI x2), some (zI 0), none]) (S' := []) (by exact rfl) (zcn (by exact rfl))
theorem b_X3_round_9 (d : Nat) (x2 x3 : Int) {a1 : Nat} (ha1 : zkd a1 = 4) (hn1 : zln a1 = 35) (σ : zS) : zq (d + 1) mX3_round 9 [some (zR (some 36)), some (zR (some a1)), some (zI x2), some (zI x3), none] [] σ = (if nrm (σ a1 0) ≤ nrm x3 then zq (d + 1) mX3_round 37 [some (zR (some 36)), some (zR (some a1)), some (zI x2), some (zI 0), none] [] σ else (zc d mX3_of [zI x3, zI 2] σ).bind fun r => zq (d + 1) mX3_round 27 [some (zR (some 36)), some (zR (some a1)), some (zI x2), some (zI x3), none] (r.1.toList ++ [zR (some a1), zI x3, zR (some 41)]) r.2) := by
  refine Eq.trans (zY_step (by exact rfl) (by exact dX3_round_9) (by exact rfl) (pc' := 10) (S' := [zI x3]) (by exact rfl) (zcn (by exact rfl))) ?_
  refine Eq.trans (zY_step (by exact rfl) (by exact dX3_round_10) (by exact rfl) (pc' := 11) (S' := [zR (some a1), zI x3]) (by exact rfl) (zcn (by exact rfl))) ?_
  refine Eq.trans (zY_step (by exact rfl) (by exact dX3_round_11) (by exact rfl) (pc' := 12) (S' := [zI 0, zR (some a1), zI x3]) (by exact rfl) (zcn (by exact rfl))) ?_
  refine Eq.trans (zY_ialdc (by exact rfl) (by exact dX3_round_12) (by exact ha1) (by exact hn1) (j := 0) (by decide) (by decide) (zcn (by exact rfl))) ?_
  refine Eq.trans (zY_ic_ge (by exact rfl) (by exact dX3_round_13) (t := 35) (by exact rfl) (a2 := nrm x3) (b2 := nrm (σ a1 0)) (by exact rfl) (by exact rfl) (zcn (by exact rfl)) (zcn (by exact rfl))) (zif ?_ ?_)
  · refine Eq.trans (zY_step (by exact rfl) (by exact dX3_round_35) (by exact rfl) (pc' := 36) (S' := [zI 0]) (by exact rfl) (zcn (by exact rfl))) ?_
    exact zY_step (by exact rfl) (by exact dX3_round_36) (by exact rfl) (pc' := 37) (L' := [some (zR (some 36)), some (zR (some a1)), some (zI x2), some (zI 0), none]) (S' := []) (by exact rfl) (zcn (by exact rfl))
  · refine Eq.trans (zY_step (by exact rfl) (by exact dX3_round_16) (by exact rfl) (pc' := 17) (S' := [zR (some 36)]) (by exact rfl) (zcn (by exact rfl))) ?_
    refine Eq.trans (zY_getR (by exact rfl) (by exact dX3_round_17) (by exact rfl) (by exact rfl) (t := 41) (by exact rfl) (zcn (by exact rfl))) ?_
    refine Eq.trans (zY_step (by exact rfl) (by exact dX3_round_20) (by exact rfl) (pc' := 21) (S' := [zI x3, zR (some 41)]) (by exact rfl) (zcn (by exact rfl))) ?_
    refine Eq.trans (zY_step (by exact rfl) (by exact dX3_round_21) (by exact rfl) (pc' := 22) (S' := [zR (some a1), zI x3, zR (some 41)]) (by exact rfl) (zcn (by exact rfl))) ?_
    refine Eq.trans (zY_step (by exact rfl) (by exact dX3_round_22) (by exact rfl) (pc' := 23) (S' := [zI x3, zR (some a1), zI x3, zR (some 41)]) (by exact rfl) (zcn (by exact rfl))) ?_
    refine Eq.trans (zY_step (by exact rfl) (by exact dX3_round_23) (by exact rfl) (pc' := 24) (S' := [zI 2, zI x3, zR (some a1), zI x3, zR (some 41)]) (by exact rfl) (zcn (by exact rfl))) ?_
    exact zY_S (by exact rfl) (by exact dX3_round_24) (by exact rfl) (by exact Or.inl rfl) (as := [zI x3, zI 2]) (S' := [zR (some a1), zI x3, zR (some 41)]) (by exact rfl) (by exact rfl) (by exact Nat.le_of_ble_eq_true rfl) (by exact Nat.le_of_ble_eq_true rfl) (zcn (by exact rfl))
theorem b_X3_round_37 (d : Nat) (x2 x3 : Int) {a1 : Nat} (ha1 : zkd a1 = 4) (hn1 : zln a1 = 35) (σ : zS) : zq (d + 1) mX3_round 37 [some (zR (some 36)), some (zR (some a1)), some (zI x2), some (zI x3), none] [] σ = (if nrm (σ a1 0) ≤ nrm x3 then some (none, σ) else (zc d mX3_can [zR (some a1), zI x3] σ).bind fun r => zq (d + 1) mX3_round 49 [some (zR (some 36)), some (zR (some a1)), some (zI x2), some (zI x3), none] (r.1.toList ++ []) r.2) := by
  refine Eq.trans (zY_step (by exact rfl) (by exact dX3_round_37) (by exact rfl) (pc' := 38) (S' := [zI x3]) (by exact rfl) (zcn (by exact rfl))) ?_
  refine Eq.trans (zY_step (by exact rfl) (by exact dX3_round_38) (by exact rfl) (pc' := 39) (S' := [zR (some a1), zI x3]) (by exact rfl) (zcn (by exact rfl))) ?_
  refine Eq.trans (zY_step (by exact rfl) (by exact dX3_round_39) (by exact rfl) (pc' := 40) (S' := [zI 0, zR (some a1), zI x3]) (by exact rfl) (zcn (by exact rfl))) ?_
  refine Eq.trans (zY_ialdc (by exact rfl) (by exact dX3_round_40) (by exact ha1) (by exact hn1) (j := 0) (by decide) (by decide) (zcn (by exact rfl))) ?_
  refine Eq.trans (zY_ic_ge (by exact rfl) (by exact dX3_round_41) (t := 117) (by exact rfl) (a2 := nrm x3) (b2 := nrm (σ a1 0)) (by exact rfl) (by exact rfl) (zcn (by exact rfl)) (zcn (by exact rfl))) (zif ?_ ?_)
  · exact zq_ret (by exact dX3_round_117) (by exact rfl) (rv := none) (by exact rfl)
  · refine Eq.trans (zY_step (by exact rfl) (by exact dX3_round_44) (by exact rfl) (pc' := 45) (S' := [zR (some a1)]) (by exact rfl) (zcn (by exact rfl))) ?_
    refine Eq.trans (zY_step (by exact rfl) (by exact dX3_round_45) (by exact rfl) (pc' := 46) (S' := [zI x3, zR (some a1)]) (by exact rfl) (zcn (by exact rfl))) ?_
    exact zY_S (by exact rfl) (by exact dX3_round_46) (by exact rfl) (by exact Or.inl rfl) (as := [zR (some a1), zI x3]) (S' := []) (by exact rfl) (by exact rfl) (by exact Nat.le_of_ble_eq_true rfl) (by exact Nat.le_of_ble_eq_true rfl) (zcn (by exact rfl))
theorem b_X3_round_27 (d : Nat) (y0 y2 x2 x3 : Int) {a1 : Nat} (ha1 : zkd a1 = 4) (hn1 : zln a1 = 35) (σ : zS) : zq d mX3_round 27 [some (zR (some 36)), some (zR (some a1)), some (zI x2), some (zI x3), none] [zI y0, zR (some a1), zI y2, zR (some 41)] σ = (if zix y0 35 then (if zix y2 8 then zq d mX3_round 9 [some (zR (some 36)), some (zR (some a1)), some (zI x2), some (zI (x3 + 1)), none] [] (zup σ 41 (nrm y2).toNat (σ a1 (nrm y0).toNat)) else none) else none) := by
  refine Eq.trans (zY_iald (by exact rfl) (by exact dX3_round_27) (by exact ha1) (by exact hn1) (zcn (by exact rfl))) (zif ?_ rfl)
  · refine Eq.trans (zY_iast (by exact rfl) (by exact dX3_round_28) (by exact rfl) (by exact rfl) (zcn (by exact rfl))) (zif ?_ rfl)
    · refine Eq.trans (zY_step (by exact rfl) (by exact dX3_round_29) (by exact rfl) (pc' := 32) (L' := [some (zR (some 36)), some (zR (some a1)), some (zI x2), some (zI (x3 + 1)), none]) (S' := []) (by exact rfl) (zcn (by exact rfl))) ?_
      exact zY_step (by exact rfl) (by exact dX3_round_32) (by exact rfl) (pc' := 9) (S' := []) (by exact rfl) (zcn (by exact rfl))
theorem b_X3_round_49 (d : Nat) (y0 x2 x3 : Int) {a1 : Nat} (ha1 : zkd a1 = 4) (hn1 : zln a1 = 35) (σ : zS) : zq (d + 1) mX3_round 49 [some (zR (some 36)), some (zR (some a1)), some (zI x2), some (zI x3), none] [zI y0] σ = (zc d mX3_of [zI x3, zI 0] σ).bind fun r => zq (d + 1) mX3_round 55 [some (zR (some 36)), some (zR (some a1)), some (zI x2), some (zI x3), none] (r.1.toList ++ [zR (some a1), zI y0]) r.2 := by
  refine Eq.trans (zY_step (by exact rfl) (by exact dX3_round_49) (by exact rfl) (pc' := 50) (S' := [zR (some a1), zI y0]) (by exact rfl) (zcn (by exact rfl))) ?_
  refine Eq.trans (zY_step (by exact rfl) (by exact dX3_round_50) (by exact rfl) (pc' := 51) (S' := [zI x3, zR (some a1), zI y0]) (by exact rfl) (zcn (by exact rfl))) ?_
  refine Eq.trans (zY_step (by exact rfl) (by exact dX3_round_51) (by exact rfl) (pc' := 52) (S' := [zI 0, zI x3, zR (some a1), zI y0]) (by exact rfl) (zcn (by exact rfl))) ?_
  exact zY_S (by exact rfl) (by exact dX3_round_52) (by exact rfl) (by exact Or.inl rfl) (as := [zI x3, zI 0]) (S' := [zR (some a1), zI y0]) (by exact rfl) (by exact rfl) (by exact Nat.le_of_ble_eq_true rfl) (by exact Nat.le_of_ble_eq_true rfl) (zcn (by exact rfl))
theorem b_X3_round_55 (d : Nat) (y0 y2 x2 x3 : Int) {a1 : Nat} (ha1 : zkd a1 = 4) (hn1 : zln a1 = 35) (σ : zS) : zq (d + 1) mX3_round 55 [some (zR (some 36)), some (zR (some a1)), some (zI x2), some (zI x3), none] [zI y0, zR (some a1), zI y2] σ = (if zix y0 35 then (zc d mX3_of [zI x3, zI 1] σ).bind fun r => zq (d + 1) mX3_round 62 [some (zR (some 36)), some (zR (some a1)), some (zI x2), some (zI x3), none] (r.1.toList ++ [zR (some a1), zI (σ a1 (nrm y0).toNat), zI y2]) r.2 else none) := by
  refine Eq.trans (zY_iald (by exact rfl) (by exact dX3_round_55) (by exact ha1) (by exact hn1) (zcn (by exact rfl))) (zif ?_ rfl)
  · refine Eq.trans (zY_step (by exact rfl) (by exact dX3_round_56) (by exact rfl) (pc' := 57) (S' := [zR (some a1), zI (σ a1 (nrm y0).toNat), zI y2]) (by exact rfl) (zcn (by exact rfl))) ?_
    refine Eq.trans (zY_step (by exact rfl) (by exact dX3_round_57) (by exact rfl) (pc' := 58) (S' := [zI x3, zR (some a1), zI (σ a1 (nrm y0).toNat), zI y2]) (by exact rfl) (zcn (by exact rfl))) ?_
    refine Eq.trans (zY_step (by exact rfl) (by exact dX3_round_58) (by exact rfl) (pc' := 59) (S' := [zI 1, zI x3, zR (some a1), zI (σ a1 (nrm y0).toNat), zI y2]) (by exact rfl) (zcn (by exact rfl))) ?_
    exact zY_S (by exact rfl) (by exact dX3_round_59) (by exact rfl) (by exact Or.inl rfl) (as := [zI x3, zI 1]) (S' := [zR (some a1), zI (σ a1 (nrm y0).toNat), zI y2]) (by exact rfl) (by exact rfl) (by exact Nat.le_of_ble_eq_true rfl) (by exact Nat.le_of_ble_eq_true rfl) (zcn (by exact rfl))
theorem b_X3_round_62 (d : Nat) (y0 y2 y3 x2 x3 : Int) {a1 : Nat} (ha1 : zkd a1 = 4) (hn1 : zln a1 = 35) (σ : zS) : zq d mX3_round 62 [some (zR (some 36)), some (zR (some a1)), some (zI x2), some (zI x3), none] [zI y0, zR (some a1), zI y2, zI y3] σ = (if zix y0 35 then (if ¬ nrm x3 = 0 then (if zix (x3 - 1) 8 then zq d mX3_round 79 [some (zR (some 36)), some (zR (some a1)), some (zI x2), some (zI x3), none] [zI (σ 41 (nrm (x3 - 1)).toNat), zI (σ a1 (nrm y0).toNat), zI y2, zI y3] σ else none) else zq d mX3_round 79 [some (zR (some 36)), some (zR (some a1)), some (zI x2), some (zI x3), none] [zI 0, zI (σ a1 (nrm y0).toNat), zI y2, zI y3] σ) else none) := by
  refine Eq.trans (zY_iald (by exact rfl) (by exact dX3_round_62) (by exact ha1) (by exact hn1) (zcn (by exact rfl))) (zif ?_ rfl)
  · refine Eq.trans (zY_step (by exact rfl) (by exact dX3_round_63) (by exact rfl) (pc' := 64) (S' := [zI x3, zI (σ a1 (nrm y0).toNat), zI y2, zI y3]) (by exact rfl) (zcn (by exact rfl))) ?_
    refine Eq.trans (zY_if_ne (by exact rfl) (by exact dX3_round_64) (t := 71) (by exact rfl) (a2 := nrm x3) (by exact rfl) (zcn (by exact rfl)) (zcn (by exact rfl))) (zif ?_ ?_)
    · refine Eq.trans (zY_step (by exact rfl) (by exact dX3_round_71) (by exact rfl) (pc' := 72) (S' := [zR (some 36), zI (σ a1 (nrm y0).toNat), zI y2, zI y3]) (by exact rfl) (zcn (by exact rfl))) ?_
      refine Eq.trans (zY_getR (by exact rfl) (by exact dX3_round_72) (by exact rfl) (by exact rfl) (t := 41) (by exact rfl) (zcn (by exact rfl))) ?_
      refine Eq.trans (zY_step (by exact rfl) (by exact dX3_round_75) (by exact rfl) (pc' := 76) (S' := [zI x3, zR (some 41), zI (σ a1 (nrm y0).toNat), zI y2, zI y3]) (by exact rfl) (zcn (by exact rfl))) ?_
      refine Eq.trans (zY_step (by exact rfl) (by exact dX3_round_76) (by exact rfl) (pc' := 77) (S' := [zI 1, zI x3, zR (some 41), zI (σ a1 (nrm y0).toNat), zI y2, zI y3]) (by exact rfl) (zcn (by exact rfl))) ?_
      refine Eq.trans (zY_step (by exact rfl) (by exact dX3_round_77) (by exact rfl) (pc' := 78) (S' := [zI (x3 - 1), zR (some 41), zI (σ a1 (nrm y0).toNat), zI y2, zI y3]) (by exact rfl) (zcn (by exact rfl))) ?_
      refine Eq.trans (zY_iald (by exact rfl) (by exact dX3_round_78) (by exact rfl) (by exact rfl) (zcn (by exact rfl))) (zif ?_ rfl)
      · exact rfl
    · refine Eq.trans (zY_step (by exact rfl) (by exact dX3_round_67) (by exact rfl) (pc' := 68) (S' := [zI 0, zI (σ a1 (nrm y0).toNat), zI y2, zI y3]) (by exact rfl) (zcn (by exact rfl))) ?_
      exact zY_step (by exact rfl) (by exact dX3_round_68) (by exact rfl) (pc' := 79) (S' := [zI 0, zI (σ a1 (nrm y0).toNat), zI y2, zI y3]) (by exact rfl) (zcn (by exact rfl))
theorem b_X3_round_79 (d : Nat) (y0 y1 y2 y3 x2 x3 : Int) {a1 : Nat} (ha1 : zkd a1 = 4) (hn1 : zln a1 = 35) (σ : zS) : zq (d + 1) mX3_round 79 [some (zR (some 36)), some (zR (some a1)), some (zI x2), some (zI x3), none] [zI y0, zI y1, zI y2, zI y3] σ = (zc d mX3_wants [zI y2, zI y1, zI y0, zI (σ a1 1)] σ).bind fun r => zq (d + 1) mX3_round 85 [some (zR (some 36)), some (zR (some a1)), some (zI x2), some (zI x3), none] (r.1.toList ++ [zI y3]) r.2 := by
  refine Eq.trans (zY_step (by exact rfl) (by exact dX3_round_79) (by exact rfl) (pc' := 80) (S' := [zR (some a1), zI y0, zI y1, zI y2, zI y3]) (by exact rfl) (zcn (by exact rfl))) ?_
  refine Eq.trans (zY_step (by exact rfl) (by exact dX3_round_80) (by exact rfl) (pc' := 81) (S' := [zI 1, zR (some a1), zI y0, zI y1, zI y2, zI y3]) (by exact rfl) (zcn (by exact rfl))) ?_
  refine Eq.trans (zY_ialdc (by exact rfl) (by exact dX3_round_81) (by exact ha1) (by exact hn1) (j := 1) (by decide) (by decide) (zcn (by exact rfl))) ?_
  exact zY_S (by exact rfl) (by exact dX3_round_82) (by exact rfl) (by exact Or.inl rfl) (as := [zI y2, zI y1, zI y0, zI (σ a1 1)]) (S' := [zI y3]) (by exact rfl) (by exact rfl) (by exact Nat.le_of_ble_eq_true rfl) (by exact Nat.le_of_ble_eq_true rfl) (zcn (by exact rfl))
theorem b_X3_round_85 (d : Nat) (y0 y1 x2 x3 : Int) {a1 : Nat} (ha1 : zkd a1 = 4) (hn1 : zln a1 = 35) (σ : zS) : zq (d + 1) mX3_round 85 [some (zR (some 36)), some (zR (some a1)), some (zI x2), some (zI x3), none] [zI y0, zI y1] σ = (zc d mX3_least [zI y1, zI y0] σ).bind fun r => zq (d + 1) mX3_round 88 [some (zR (some 36)), some (zR (some a1)), some (zI x2), some (zI x3), none] (r.1.toList ++ []) r.2 := by
  exact zY_S (by exact rfl) (by exact dX3_round_85) (by exact rfl) (by exact Or.inl rfl) (as := [zI y1, zI y0]) (S' := []) (by exact rfl) (by exact rfl) (by exact Nat.le_of_ble_eq_true rfl) (by exact Nat.le_of_ble_eq_true rfl) (zcn (by exact rfl))
theorem b_X3_round_88 (d : Nat) (y0 x2 x3 : Int) {a1 : Nat} (ha1 : zkd a1 = 4) (hn1 : zln a1 = 35) (σ : zS) : zq (d + 1) mX3_round 88 [some (zR (some 36)), some (zR (some a1)), some (zI x2), some (zI x3), none] [zI y0] σ = (zc d mX3_of [zI x3, zI 2] σ).bind fun r => zq (d + 1) mX3_round 96 [some (zR (some 36)), some (zR (some a1)), some (zI x2), some (zI x3), some (zI y0)] (r.1.toList ++ [zR (some a1)]) r.2 := by
  refine Eq.trans (zY_step (by exact rfl) (by exact dX3_round_88) (by exact rfl) (pc' := 90) (L' := [some (zR (some 36)), some (zR (some a1)), some (zI x2), some (zI x3), some (zI y0)]) (S' := []) (by exact rfl) (zcn (by exact rfl))) ?_
  refine Eq.trans (zY_step (by exact rfl) (by exact dX3_round_90) (by exact rfl) (pc' := 91) (S' := [zR (some a1)]) (by exact rfl) (zcn (by exact rfl))) ?_
  refine Eq.trans (zY_step (by exact rfl) (by exact dX3_round_91) (by exact rfl) (pc' := 92) (S' := [zI x3, zR (some a1)]) (by exact rfl) (zcn (by exact rfl))) ?_
  refine Eq.trans (zY_step (by exact rfl) (by exact dX3_round_92) (by exact rfl) (pc' := 93) (S' := [zI 2, zI x3, zR (some a1)]) (by exact rfl) (zcn (by exact rfl))) ?_
  exact zY_S (by exact rfl) (by exact dX3_round_93) (by exact rfl) (by exact Or.inl rfl) (as := [zI x3, zI 2]) (S' := [zR (some a1)]) (by exact rfl) (by exact rfl) (by exact Nat.le_of_ble_eq_true rfl) (by exact Nat.le_of_ble_eq_true rfl) (zcn (by exact rfl))
theorem b_X3_round_96 (d : Nat) (y0 x2 x3 x4 : Int) {a1 : Nat} (ha1 : zkd a1 = 4) (hn1 : zln a1 = 35) (σ : zS) : zq (d + 1) mX3_round 96 [some (zR (some 36)), some (zR (some a1)), some (zI x2), some (zI x3), some (zI x4)] [zI y0, zR (some a1)] σ = (zc d mX3_has [zI x2, zI x3] σ).bind fun r => zq (d + 1) mX3_round 101 [some (zR (some 36)), some (zR (some a1)), some (zI x2), some (zI x3), some (zI x4)] (r.1.toList ++ [zI y0, zR (some a1)]) r.2 := by
  refine Eq.trans (zY_step (by exact rfl) (by exact dX3_round_96) (by exact rfl) (pc' := 97) (S' := [zI x2, zI y0, zR (some a1)]) (by exact rfl) (zcn (by exact rfl))) ?_
  refine Eq.trans (zY_step (by exact rfl) (by exact dX3_round_97) (by exact rfl) (pc' := 98) (S' := [zI x3, zI x2, zI y0, zR (some a1)]) (by exact rfl) (zcn (by exact rfl))) ?_
  exact zY_S (by exact rfl) (by exact dX3_round_98) (by exact rfl) (by exact Or.inl rfl) (as := [zI x2, zI x3]) (S' := [zI y0, zR (some a1)]) (by exact rfl) (by exact rfl) (by exact Nat.le_of_ble_eq_true rfl) (by exact Nat.le_of_ble_eq_true rfl) (zcn (by exact rfl))
theorem b_X3_round_101 (d : Nat) (y0 y1 x2 x3 x4 : Int) {a1 : Nat} (ha1 : zkd a1 = 4) (hn1 : zln a1 = 35) (σ : zS) : zq d mX3_round 101 [some (zR (some 36)), some (zR (some a1)), some (zI x2), some (zI x3), some (zI x4)] [zI y0, zI y1, zR (some a1)] σ = (if nrm y0 = 0 then zq d mX3_round 110 [some (zR (some 36)), some (zR (some a1)), some (zI x2), some (zI x3), none] [zI x4, zI y1, zR (some a1)] σ else zq d mX3_round 110 [some (zR (some 36)), some (zR (some a1)), some (zI x2), some (zI x3), none] [zI 0, zI y1, zR (some a1)] σ) := by
  refine Eq.trans (zY_if_eq (by exact rfl) (by exact dX3_round_101) (t := 108) (by exact rfl) (a2 := nrm y0) (by exact rfl) (zcn (by exact rfl)) (zcn (by exact rfl))) (zif ?_ ?_)
  · exact zY_step (by exact rfl) (by exact dX3_round_108) (by exact rfl) (pc' := 110) (S' := [zI x4, zI y1, zR (some a1)]) (L2 := [some (zR (some 36)), some (zR (some a1)), some (zI x2), some (zI x3), none]) (by exact rfl) (by exact rfl)
  · refine Eq.trans (zY_step (by exact rfl) (by exact dX3_round_104) (by exact rfl) (pc' := 105) (S' := [zI 0, zI y1, zR (some a1)]) (by exact rfl) (zcn (by exact rfl))) ?_
    exact zY_step (by exact rfl) (by exact dX3_round_105) (by exact rfl) (pc' := 110) (S' := [zI 0, zI y1, zR (some a1)]) (L2 := [some (zR (some 36)), some (zR (some a1)), some (zI x2), some (zI x3), none]) (by exact rfl) (by exact rfl)
theorem b_X3_round_110 (d : Nat) (y0 y1 x2 x3 : Int) {a1 : Nat} (ha1 : zkd a1 = 4) (hn1 : zln a1 = 35) (σ : zS) : zq d mX3_round 110 [some (zR (some 36)), some (zR (some a1)), some (zI x2), some (zI x3), none] [zI y0, zI y1, zR (some a1)] σ = (if zix y1 35 then zq d mX3_round 37 [some (zR (some 36)), some (zR (some a1)), some (zI x2), some (zI (x3 + 1)), none] [] (zup σ a1 (nrm y1).toNat y0) else none) := by
  refine Eq.trans (zY_iast (by exact rfl) (by exact dX3_round_110) (by exact ha1) (by exact hn1) (zcn (by exact rfl))) (zif ?_ rfl)
  · refine Eq.trans (zY_step (by exact rfl) (by exact dX3_round_111) (by exact rfl) (pc' := 114) (L' := [some (zR (some 36)), some (zR (some a1)), some (zI x2), some (zI (x3 + 1)), none]) (S' := []) (by exact rfl) (zcn (by exact rfl))) ?_
    exact zY_step (by exact rfl) (by exact dX3_round_114) (by exact rfl) (pc' := 37) (S' := []) (by exact rfl) (zcn (by exact rfl))
theorem e_X3_roundsOn (d : Nat) (x2 : Int) {a1 : Nat} (ha1 : zkd a1 = 4) (hn1 : zln a1 = 35) (σ : zS) : zc d mX3_roundsOn [zR (some 36), zR (some a1), zI x2] σ = zq d mX3_roundsOn 2 [some (zR (some 36)), some (zR (some a1)), some (zI x2), some (zI 0)] [] σ := by
  refine Eq.trans (zc_zq (L := [some (zR (some 36)), some (zR (some a1)), some (zI x2), none]) (by exact rfl)) ?_
  refine Eq.trans (zY_step (by exact rfl) (by exact dX3_roundsOn_0) (by exact rfl) (pc' := 1) (S' := [zI 0]) (by exact rfl) (zcn (by exact rfl))) ?_
  exact zY_step (by exact rfl) (by exact dX3_roundsOn_1) (by exact rfl) (pc' := 2) (L' := [some (zR (some 36)), some (zR (some a1)), some (zI x2), some (zI 0)]) (S' := []) (by exact rfl) (zcn (by exact rfl))
theorem b_X3_roundsOn_2 (d : Nat) (x2 x3 : Int) {a1 : Nat} (ha1 : zkd a1 = 4) (hn1 : zln a1 = 35) (σ : zS) : zq (d + 1) mX3_roundsOn 2 [some (zR (some 36)), some (zR (some a1)), some (zI x2), some (zI x3)] [] σ = (if nrm x2 ≤ nrm x3 then some (none, σ) else (zc d mX3_round [zR (some 36), zR (some a1), zI 0] σ).bind fun r => zq (d + 1) mX3_roundsOn 13 [some (zR (some 36)), some (zR (some a1)), some (zI x2), some (zI x3)] (r.1.toList ++ []) r.2) := by
  refine Eq.trans (zY_step (by exact rfl) (by exact dX3_roundsOn_2) (by exact rfl) (pc' := 3) (S' := [zI x3]) (by exact rfl) (zcn (by exact rfl))) ?_
  refine Eq.trans (zY_step (by exact rfl) (by exact dX3_roundsOn_3) (by exact rfl) (pc' := 4) (S' := [zI x2, zI x3]) (by exact rfl) (zcn (by exact rfl))) ?_
  refine Eq.trans (zY_ic_ge (by exact rfl) (by exact dX3_roundsOn_4) (t := 19) (by exact rfl) (a2 := nrm x3) (b2 := nrm x2) (by exact rfl) (by exact rfl) (zcn (by exact rfl)) (zcn (by exact rfl))) (zif ?_ ?_)
  · exact zq_ret (by exact dX3_roundsOn_19) (by exact rfl) (rv := none) (by exact rfl)
  · refine Eq.trans (zY_step (by exact rfl) (by exact dX3_roundsOn_7) (by exact rfl) (pc' := 8) (S' := [zR (some 36)]) (by exact rfl) (zcn (by exact rfl))) ?_
    refine Eq.trans (zY_step (by exact rfl) (by exact dX3_roundsOn_8) (by exact rfl) (pc' := 9) (S' := [zR (some a1), zR (some 36)]) (by exact rfl) (zcn (by exact rfl))) ?_
    refine Eq.trans (zY_step (by exact rfl) (by exact dX3_roundsOn_9) (by exact rfl) (pc' := 10) (S' := [zI 0, zR (some a1), zR (some 36)]) (by exact rfl) (zcn (by exact rfl))) ?_
    exact zY_V (by exact rfl) (by exact dX3_roundsOn_10) (by exact rfl) (as := [zR (some a1), zI 0]) (S' := []) (by exact rfl) (by exact rfl) (by exact rfl) (by exact Nat.le_of_ble_eq_true rfl) (by exact Nat.le_of_ble_eq_true rfl) (by exact Nat.le_of_ble_eq_true rfl) (zcn (by exact rfl))
theorem b_X3_roundsOn_13 (d : Nat) (x2 x3 : Int) {a1 : Nat} (ha1 : zkd a1 = 4) (hn1 : zln a1 = 35) (σ : zS) : zq d mX3_roundsOn 13 [some (zR (some 36)), some (zR (some a1)), some (zI x2), some (zI x3)] [] σ = zq d mX3_roundsOn 2 [some (zR (some 36)), some (zR (some a1)), some (zI x2), some (zI (x3 + 1))] [] σ := by
  refine Eq.trans (zY_step (by exact rfl) (by exact dX3_roundsOn_13) (by exact rfl) (pc' := 16) (L' := [some (zR (some 36)), some (zR (some a1)), some (zI x2), some (zI (x3 + 1))]) (S' := []) (by exact rfl) (zcn (by exact rfl))) ?_
  exact zY_step (by exact rfl) (by exact dX3_roundsOn_16) (by exact rfl) (pc' := 2) (S' := []) (by exact rfl) (zcn (by exact rfl))
theorem e_X3_upright (d : Nat) {a0 : Nat} (ha0 : zkd a0 = 4) (hn0 : zln a0 = 35) (σ : zS) : zc d mX3_upright [zR (some a0)] σ = zq d mX3_upright 2 [some (zR (some a0)), some (zI 0)] [] σ := by
  refine Eq.trans (zc_zq (L := [some (zR (some a0)), none]) (by exact rfl)) ?_
  refine Eq.trans (zY_step (by exact rfl) (by exact dX3_upright_0) (by exact rfl) (pc' := 1) (S' := [zI 0]) (by exact rfl) (zcn (by exact rfl))) ?_
  exact zY_step (by exact rfl) (by exact dX3_upright_1) (by exact rfl) (pc' := 2) (L' := [some (zR (some a0)), some (zI 0)]) (S' := []) (by exact rfl) (zcn (by exact rfl))
theorem b_X3_upright_2 (d : Nat) (x1 : Int) {a0 : Nat} (ha0 : zkd a0 = 4) (hn0 : zln a0 = 35) (σ : zS) : zq (d + 1) mX3_upright 2 [some (zR (some a0)), some (zI x1)] [] σ = (if 8 ≤ nrm x1 then some (none, σ) else (zc d mX3_of [zI x1, zI 2] σ).bind fun r => zq (d + 1) mX3_upright 14 [some (zR (some a0)), some (zI x1)] (r.1.toList ++ [zR (some a0)]) r.2) := by
  refine Eq.trans (zY_step (by exact rfl) (by exact dX3_upright_2) (by exact rfl) (pc' := 3) (S' := [zI x1]) (by exact rfl) (zcn (by exact rfl))) ?_
  refine Eq.trans (zY_step (by exact rfl) (by exact dX3_upright_3) (by exact rfl) (pc' := 5) (S' := [zI 8, zI x1]) (by exact rfl) (zcn (by exact rfl))) ?_
  refine Eq.trans (zY_ic_ge (by exact rfl) (by exact dX3_upright_5) (t := 22) (by exact rfl) (a2 := nrm x1) (b2 := 8) (by exact rfl) (by decide) (zcn (by exact rfl)) (zcn (by exact rfl))) (zif ?_ ?_)
  · exact zq_ret (by exact dX3_upright_22) (by exact rfl) (rv := none) (by exact rfl)
  · refine Eq.trans (zY_step (by exact rfl) (by exact dX3_upright_8) (by exact rfl) (pc' := 9) (S' := [zR (some a0)]) (by exact rfl) (zcn (by exact rfl))) ?_
    refine Eq.trans (zY_step (by exact rfl) (by exact dX3_upright_9) (by exact rfl) (pc' := 10) (S' := [zI x1, zR (some a0)]) (by exact rfl) (zcn (by exact rfl))) ?_
    refine Eq.trans (zY_step (by exact rfl) (by exact dX3_upright_10) (by exact rfl) (pc' := 11) (S' := [zI 2, zI x1, zR (some a0)]) (by exact rfl) (zcn (by exact rfl))) ?_
    exact zY_S (by exact rfl) (by exact dX3_upright_11) (by exact rfl) (by exact Or.inl rfl) (as := [zI x1, zI 2]) (S' := [zR (some a0)]) (by exact rfl) (by exact rfl) (by exact Nat.le_of_ble_eq_true rfl) (by exact Nat.le_of_ble_eq_true rfl) (zcn (by exact rfl))
theorem b_X3_upright_14 (d : Nat) (y0 x1 : Int) {a0 : Nat} (ha0 : zkd a0 = 4) (hn0 : zln a0 = 35) (σ : zS) : zq d mX3_upright 14 [some (zR (some a0)), some (zI x1)] [zI y0, zR (some a0)] σ = (if zix y0 35 then zq d mX3_upright 2 [some (zR (some a0)), some (zI (x1 + 1))] [] (zup σ a0 (nrm y0).toNat 0) else none) := by
  refine Eq.trans (zY_step (by exact rfl) (by exact dX3_upright_14) (by exact rfl) (pc' := 15) (S' := [zI 0, zI y0, zR (some a0)]) (by exact rfl) (zcn (by exact rfl))) ?_
  refine Eq.trans (zY_iast (by exact rfl) (by exact dX3_upright_15) (by exact ha0) (by exact hn0) (zcn (by exact rfl))) (zif ?_ rfl)
  · refine Eq.trans (zY_step (by exact rfl) (by exact dX3_upright_16) (by exact rfl) (pc' := 19) (L' := [some (zR (some a0)), some (zI (x1 + 1))]) (S' := []) (by exact rfl) (zcn (by exact rfl))) ?_
    exact zY_step (by exact rfl) (by exact dX3_upright_19) (by exact rfl) (pc' := 2) (S' := []) (by exact rfl) (zcn (by exact rfl))
theorem e_X3_blocksIn (d : Nat) (x1 : Int) {a0 : Nat} (ha0 : zkd a0 = 4) (hn0 : zln a0 = 35) (σ : zS) : zc (d + 1) mX3_blocksIn [zR (some a0), zI x1] σ = (zc d mX3_of [zI x1, zI 3] σ).bind fun r => zq (d + 1) mX3_blocksIn 6 [some (zR (some a0)), some (zI x1)] (r.1.toList ++ [zR (some a0)]) r.2 := by
  refine Eq.trans (zc_zq (L := [some (zR (some a0)), some (zI x1)]) (by exact rfl)) ?_
  refine Eq.trans (zY_step (by exact rfl) (by exact dX3_blocksIn_0) (by exact rfl) (pc' := 1) (S' := [zR (some a0)]) (by exact rfl) (zcn (by exact rfl))) ?_
  refine Eq.trans (zY_step (by exact rfl) (by exact dX3_blocksIn_1) (by exact rfl) (pc' := 2) (S' := [zI x1, zR (some a0)]) (by exact rfl) (zcn (by exact rfl))) ?_
  refine Eq.trans (zY_step (by exact rfl) (by exact dX3_blocksIn_2) (by exact rfl) (pc' := 3) (S' := [zI 3, zI x1, zR (some a0)]) (by exact rfl) (zcn (by exact rfl))) ?_
  exact zY_S (by exact rfl) (by exact dX3_blocksIn_3) (by exact rfl) (by exact Or.inl rfl) (as := [zI x1, zI 3]) (S' := [zR (some a0)]) (by exact rfl) (by exact rfl) (by exact Nat.le_of_ble_eq_true rfl) (by exact Nat.le_of_ble_eq_true rfl) (zcn (by exact rfl))
theorem b_X3_blocksIn_6 (d : Nat) (y0 x1 : Int) {a0 : Nat} (ha0 : zkd a0 = 4) (hn0 : zln a0 = 35) (σ : zS) : zq (d + 1) mX3_blocksIn 6 [some (zR (some a0)), some (zI x1)] [zI y0, zR (some a0)] σ = (if zix y0 35 then (zc d mX3_of [zI x1, zI 2] (zup σ a0 (nrm y0).toNat 1)).bind fun r => zq (d + 1) mX3_blocksIn 14 [some (zR (some a0)), some (zI x1)] (r.1.toList ++ [zR (some a0)]) r.2 else none) := by
  refine Eq.trans (zY_step (by exact rfl) (by exact dX3_blocksIn_6) (by exact rfl) (pc' := 7) (S' := [zI 1, zI y0, zR (some a0)]) (by exact rfl) (zcn (by exact rfl))) ?_
  refine Eq.trans (zY_iast (by exact rfl) (by exact dX3_blocksIn_7) (by exact ha0) (by exact hn0) (zcn (by exact rfl))) (zif ?_ rfl)
  · refine Eq.trans (zY_step (by exact rfl) (by exact dX3_blocksIn_8) (by exact rfl) (pc' := 9) (S' := [zR (some a0)]) (by exact rfl) (zcn (by exact rfl))) ?_
    refine Eq.trans (zY_step (by exact rfl) (by exact dX3_blocksIn_9) (by exact rfl) (pc' := 10) (S' := [zI x1, zR (some a0)]) (by exact rfl) (zcn (by exact rfl))) ?_
    refine Eq.trans (zY_step (by exact rfl) (by exact dX3_blocksIn_10) (by exact rfl) (pc' := 11) (S' := [zI 2, zI x1, zR (some a0)]) (by exact rfl) (zcn (by exact rfl))) ?_
    exact zY_S (by exact rfl) (by exact dX3_blocksIn_11) (by exact rfl) (by exact Or.inl rfl) (as := [zI x1, zI 2]) (S' := [zR (some a0)]) (by exact rfl) (by exact rfl) (by exact Nat.le_of_ble_eq_true rfl) (by exact Nat.le_of_ble_eq_true rfl) (zcn (by exact rfl))
theorem b_X3_blocksIn_14 (d : Nat) (y0 x1 : Int) {a0 : Nat} (ha0 : zkd a0 = 4) (hn0 : zln a0 = 35) (σ : zS) : zq d mX3_blocksIn 14 [some (zR (some a0)), some (zI x1)] [zI y0, zR (some a0)] σ = (if zix y0 35 then some (none, zup σ a0 (nrm y0).toNat 0) else none) := by
  refine Eq.trans (zY_step (by exact rfl) (by exact dX3_blocksIn_14) (by exact rfl) (pc' := 15) (S' := [zI 0, zI y0, zR (some a0)]) (by exact rfl) (zcn (by exact rfl))) ?_
  refine Eq.trans (zY_iast (by exact rfl) (by exact dX3_blocksIn_15) (by exact ha0) (by exact hn0) (zcn (by exact rfl))) (zif ?_ rfl)
  · exact zq_ret (by exact dX3_blocksIn_16) (by exact rfl) (rv := none) (by exact rfl)
theorem e_X3_changes (d : Nat) (x1 x2 : Int) {a0 : Nat} (ha0 : zkd a0 = 4) (hn0 : zln a0 = 35) (σ : zS) : zc d mX3_changes [zR (some a0), zI x1, zI x2] σ = zq d mX3_changes 2 [some (zR (some a0)), some (zI x1), some (zI x2), some (zI 0), none] [] σ := by
  refine Eq.trans (zc_zq (L := [some (zR (some a0)), some (zI x1), some (zI x2), none, none]) (by exact rfl)) ?_
  refine Eq.trans (zY_step (by exact rfl) (by exact dX3_changes_0) (by exact rfl) (pc' := 1) (S' := [zI 0]) (by exact rfl) (zcn (by exact rfl))) ?_
  exact zY_step (by exact rfl) (by exact dX3_changes_1) (by exact rfl) (pc' := 2) (L' := [some (zR (some a0)), some (zI x1), some (zI x2), some (zI 0), none]) (S' := []) (L2 := [some (zR (some a0)), some (zI x1), some (zI x2), some (zI 0), none]) (by exact rfl) (by exact rfl)
theorem b_X3_changes_2 (d : Nat) (x1 x2 x3 : Int) {a0 : Nat} (ha0 : zkd a0 = 4) (hn0 : zln a0 = 35) (σ : zS) : zq (d + 1) mX3_changes 2 [some (zR (some a0)), some (zI x1), some (zI x2), some (zI x3), none] [] σ = (if 1 < nrm x3 then (zc d mX3_upright [zR (some a0)] σ).bind fun r => zq (d + 1) mX3_changes 49 [some (zR (some a0)), some (zI x1), some (zI x2), some (zI x3), none] (r.1.toList ++ []) r.2 else (zc d mX3_of [zI x1, zI x3] σ).bind fun r => zq (d + 1) mX3_changes 13 [some (zR (some a0)), some (zI x1), some (zI x2), some (zI x3), none] (r.1.toList ++ [zR (some a0)]) r.2) := by
  refine Eq.trans (zY_step (by exact rfl) (by exact dX3_changes_2) (by exact rfl) (pc' := 3) (S' := [zI x3]) (by exact rfl) (zcn (by exact rfl))) ?_
  refine Eq.trans (zY_step (by exact rfl) (by exact dX3_changes_3) (by exact rfl) (pc' := 4) (S' := [zI 1, zI x3]) (by exact rfl) (zcn (by exact rfl))) ?_
  refine Eq.trans (zY_ic_gt (by exact rfl) (by exact dX3_changes_4) (t := 45) (by exact rfl) (a2 := nrm x3) (b2 := 1) (by exact rfl) (by decide) (zcn (by exact rfl)) (zcn (by exact rfl))) (zif ?_ ?_)
  · refine Eq.trans (zY_step (by exact rfl) (by exact dX3_changes_45) (by exact rfl) (pc' := 46) (S' := [zR (some a0)]) (by exact rfl) (zcn (by exact rfl))) ?_
    exact zY_S (by exact rfl) (by exact dX3_changes_46) (by exact rfl) (by exact Or.inl rfl) (as := [zR (some a0)]) (S' := []) (by exact rfl) (by exact rfl) (by exact Nat.le_of_ble_eq_true rfl) (by exact Nat.le_of_ble_eq_true rfl) (zcn (by exact rfl))
  · refine Eq.trans (zY_step (by exact rfl) (by exact dX3_changes_7) (by exact rfl) (pc' := 8) (S' := [zR (some a0)]) (by exact rfl) (zcn (by exact rfl))) ?_
    refine Eq.trans (zY_step (by exact rfl) (by exact dX3_changes_8) (by exact rfl) (pc' := 9) (S' := [zI x1, zR (some a0)]) (by exact rfl) (zcn (by exact rfl))) ?_
    refine Eq.trans (zY_step (by exact rfl) (by exact dX3_changes_9) (by exact rfl) (pc' := 10) (S' := [zI x3, zI x1, zR (some a0)]) (by exact rfl) (zcn (by exact rfl))) ?_
    exact zY_S (by exact rfl) (by exact dX3_changes_10) (by exact rfl) (by exact Or.inl rfl) (as := [zI x1, zI x3]) (S' := [zR (some a0)]) (by exact rfl) (by exact rfl) (by exact Nat.le_of_ble_eq_true rfl) (by exact Nat.le_of_ble_eq_true rfl) (zcn (by exact rfl))
theorem b_X3_changes_49 (d : Nat) (x1 x2 x3 : Int) {a0 : Nat} (ha0 : zkd a0 = 4) (hn0 : zln a0 = 35) (σ : zS) : zq d mX3_changes 49 [some (zR (some a0)), some (zI x1), some (zI x2), some (zI x3), none] [] σ = some (none, σ) := by
  exact zq_ret (by exact dX3_changes_49) (by exact rfl) (rv := none) (by exact rfl)
theorem b_X3_changes_13 (d : Nat) (y0 x1 x2 x3 : Int) {a0 : Nat} (ha0 : zkd a0 = 4) (hn0 : zln a0 = 35) (σ : zS) : zq (d + 1) mX3_changes 13 [some (zR (some a0)), some (zI x1), some (zI x2), some (zI x3), none] [zI y0, zR (some a0)] σ = (if zix y0 35 then (zc d mX3_of [zI x1, zI x3] σ).bind fun r => zq (d + 1) mX3_changes 22 [some (zR (some a0)), some (zI x1), some (zI x2), some (zI x3), some (zI (σ a0 (nrm y0).toNat))] (r.1.toList ++ [zR (some a0)]) r.2 else none) := by
  refine Eq.trans (zY_iald (by exact rfl) (by exact dX3_changes_13) (by exact ha0) (by exact hn0) (zcn (by exact rfl))) (zif ?_ rfl)
  · refine Eq.trans (zY_step (by exact rfl) (by exact dX3_changes_14) (by exact rfl) (pc' := 16) (L' := [some (zR (some a0)), some (zI x1), some (zI x2), some (zI x3), some (zI (σ a0 (nrm y0).toNat))]) (S' := []) (by exact rfl) (zcn (by exact rfl))) ?_
    refine Eq.trans (zY_step (by exact rfl) (by exact dX3_changes_16) (by exact rfl) (pc' := 17) (S' := [zR (some a0)]) (by exact rfl) (zcn (by exact rfl))) ?_
    refine Eq.trans (zY_step (by exact rfl) (by exact dX3_changes_17) (by exact rfl) (pc' := 18) (S' := [zI x1, zR (some a0)]) (by exact rfl) (zcn (by exact rfl))) ?_
    refine Eq.trans (zY_step (by exact rfl) (by exact dX3_changes_18) (by exact rfl) (pc' := 19) (S' := [zI x3, zI x1, zR (some a0)]) (by exact rfl) (zcn (by exact rfl))) ?_
    exact zY_S (by exact rfl) (by exact dX3_changes_19) (by exact rfl) (by exact Or.inl rfl) (as := [zI x1, zI x3]) (S' := [zR (some a0)]) (by exact rfl) (by exact rfl) (by exact Nat.le_of_ble_eq_true rfl) (by exact Nat.le_of_ble_eq_true rfl) (zcn (by exact rfl))
theorem b_X3_changes_22 (d : Nat) (y0 x1 x2 x3 x4 : Int) {a0 : Nat} (ha0 : zkd a0 = 4) (hn0 : zln a0 = 35) (σ : zS) : zq (d + 1) mX3_changes 22 [some (zR (some a0)), some (zI x1), some (zI x2), some (zI x3), some (zI x4)] [zI y0, zR (some a0)] σ = (zc d mX3_of [zI x2, zI x3] σ).bind fun r => zq (d + 1) mX3_changes 28 [some (zR (some a0)), some (zI x1), some (zI x2), some (zI x3), some (zI x4)] (r.1.toList ++ [zR (some a0), zI y0, zR (some a0)]) r.2 := by
  refine Eq.trans (zY_step (by exact rfl) (by exact dX3_changes_22) (by exact rfl) (pc' := 23) (S' := [zR (some a0), zI y0, zR (some a0)]) (by exact rfl) (zcn (by exact rfl))) ?_
  refine Eq.trans (zY_step (by exact rfl) (by exact dX3_changes_23) (by exact rfl) (pc' := 24) (S' := [zI x2, zR (some a0), zI y0, zR (some a0)]) (by exact rfl) (zcn (by exact rfl))) ?_
  refine Eq.trans (zY_step (by exact rfl) (by exact dX3_changes_24) (by exact rfl) (pc' := 25) (S' := [zI x3, zI x2, zR (some a0), zI y0, zR (some a0)]) (by exact rfl) (zcn (by exact rfl))) ?_
  exact zY_S (by exact rfl) (by exact dX3_changes_25) (by exact rfl) (by exact Or.inl rfl) (as := [zI x2, zI x3]) (S' := [zR (some a0), zI y0, zR (some a0)]) (by exact rfl) (by exact rfl) (by exact Nat.le_of_ble_eq_true rfl) (by exact Nat.le_of_ble_eq_true rfl) (zcn (by exact rfl))
theorem b_X3_changes_28 (d : Nat) (y0 y2 x1 x2 x3 x4 : Int) {a0 : Nat} (ha0 : zkd a0 = 4) (hn0 : zln a0 = 35) (σ : zS) : zq (d + 1) mX3_changes 28 [some (zR (some a0)), some (zI x1), some (zI x2), some (zI x3), some (zI x4)] [zI y0, zR (some a0), zI y2, zR (some a0)] σ = (if zix y0 35 then (if zix y2 35 then (zc d mX3_of [zI x2, zI x3] (zup σ a0 (nrm y2).toNat (σ a0 (nrm y0).toNat))).bind fun r => zq (d + 1) mX3_changes 36 [some (zR (some a0)), some (zI x1), some (zI x2), some (zI x3), some (zI x4)] (r.1.toList ++ [zR (some a0)]) r.2 else none) else none) := by
  refine Eq.trans (zY_iald (by exact rfl) (by exact dX3_changes_28) (by exact ha0) (by exact hn0) (zcn (by exact rfl))) (zif ?_ rfl)
  · refine Eq.trans (zY_iast (by exact rfl) (by exact dX3_changes_29) (by exact ha0) (by exact hn0) (zcn (by exact rfl))) (zif ?_ rfl)
    · refine Eq.trans (zY_step (by exact rfl) (by exact dX3_changes_30) (by exact rfl) (pc' := 31) (S' := [zR (some a0)]) (by exact rfl) (zcn (by exact rfl))) ?_
      refine Eq.trans (zY_step (by exact rfl) (by exact dX3_changes_31) (by exact rfl) (pc' := 32) (S' := [zI x2, zR (some a0)]) (by exact rfl) (zcn (by exact rfl))) ?_
      refine Eq.trans (zY_step (by exact rfl) (by exact dX3_changes_32) (by exact rfl) (pc' := 33) (S' := [zI x3, zI x2, zR (some a0)]) (by exact rfl) (zcn (by exact rfl))) ?_
      exact zY_S (by exact rfl) (by exact dX3_changes_33) (by exact rfl) (by exact Or.inl rfl) (as := [zI x2, zI x3]) (S' := [zR (some a0)]) (by exact rfl) (by exact rfl) (by exact Nat.le_of_ble_eq_true rfl) (by exact Nat.le_of_ble_eq_true rfl) (zcn (by exact rfl))
theorem b_X3_changes_36 (d : Nat) (y0 x1 x2 x3 x4 : Int) {a0 : Nat} (ha0 : zkd a0 = 4) (hn0 : zln a0 = 35) (σ : zS) : zq d mX3_changes 36 [some (zR (some a0)), some (zI x1), some (zI x2), some (zI x3), some (zI x4)] [zI y0, zR (some a0)] σ = (if zix y0 35 then zq d mX3_changes 2 [some (zR (some a0)), some (zI x1), some (zI x2), some (zI (x3 + 1)), none] [] (zup σ a0 (nrm y0).toNat x4) else none) := by
  refine Eq.trans (zY_step (by exact rfl) (by exact dX3_changes_36) (by exact rfl) (pc' := 38) (S' := [zI x4, zI y0, zR (some a0)]) (by exact rfl) (zcn (by exact rfl))) ?_
  refine Eq.trans (zY_iast (by exact rfl) (by exact dX3_changes_38) (by exact ha0) (by exact hn0) (zcn (by exact rfl))) (zif ?_ rfl)
  · refine Eq.trans (zY_step (by exact rfl) (by exact dX3_changes_39) (by exact rfl) (pc' := 42) (L' := [some (zR (some a0)), some (zI x1), some (zI x2), some (zI (x3 + 1)), some (zI x4)]) (S' := []) (by exact rfl) (zcn (by exact rfl))) ?_
    exact zY_step (by exact rfl) (by exact dX3_changes_42) (by exact rfl) (pc' := 2) (S' := []) (L2 := [some (zR (some a0)), some (zI x1), some (zI x2), some (zI (x3 + 1)), none]) (by exact rfl) (by exact rfl)
theorem e_X3_here (d : Nat) (σ : zS) : zc d mX3_here [zR (some 36)] σ = (if nrm (σ 36 8) ≤ nrm (σ 36 6) then some (some (zI ((-1))), σ) else (if zix ((σ 36 7) + (σ 36 6)) 800 then some (some (zI (zand (σ 50 (nrm ((σ 36 7) + (σ 36 6))).toNat) 255)), σ) else none)) := by
  refine Eq.trans (zc_zq (L := [some (zR (some 36))]) (by exact rfl)) ?_
  refine Eq.trans (zY_step (by exact rfl) (by exact dX3_here_0) (by exact rfl) (pc' := 1) (S' := [zR (some 36)]) (by exact rfl) (zcn (by exact rfl))) ?_
  refine Eq.trans (zY_getI (by exact rfl) (by exact dX3_here_1) (by exact rfl) (by exact rfl) (by exact rfl) (zcn (by exact rfl))) ?_
  refine Eq.trans (zY_step (by exact rfl) (by exact dX3_here_4) (by exact rfl) (pc' := 5) (S' := [zR (some 36), zI (σ 36 6)]) (by exact rfl) (zcn (by exact rfl))) ?_
  refine Eq.trans (zY_getI (by exact rfl) (by exact dX3_here_5) (by exact rfl) (by exact rfl) (by exact rfl) (zcn (by exact rfl))) ?_
  refine Eq.trans (zY_ic_ge (by exact rfl) (by exact dX3_here_8) (t := 32) (by exact rfl) (a2 := nrm (σ 36 6)) (b2 := nrm (σ 36 8)) (by exact rfl) (by exact rfl) (zcn (by exact rfl)) (zcn (by exact rfl))) (zif ?_ ?_)
  · refine Eq.trans (zY_step (by exact rfl) (by exact dX3_here_32) (by exact rfl) (pc' := 33) (S' := [zI ((-1))]) (L2 := [none]) (by exact rfl) (by exact rfl)) ?_
    exact zq_ret (by exact dX3_here_33) (by exact rfl) (rv := some (zI ((-1)))) (by exact rfl)
  · refine Eq.trans (zY_step (by exact rfl) (by exact dX3_here_11) (by exact rfl) (pc' := 12) (S' := [zR (some 36)]) (by exact rfl) (zcn (by exact rfl))) ?_
    refine Eq.trans (zY_getR (by exact rfl) (by exact dX3_here_12) (by exact rfl) (by exact rfl) (t := 50) (by exact rfl) (zcn (by exact rfl))) ?_
    refine Eq.trans (zY_step (by exact rfl) (by exact dX3_here_15) (by exact rfl) (pc' := 16) (S' := [zR (some 36), zR (some 50)]) (by exact rfl) (zcn (by exact rfl))) ?_
    refine Eq.trans (zY_getI (by exact rfl) (by exact dX3_here_16) (by exact rfl) (by exact rfl) (by exact rfl) (zcn (by exact rfl))) ?_
    refine Eq.trans (zY_step (by exact rfl) (by exact dX3_here_19) (by exact rfl) (pc' := 20) (S' := [zR (some 36), zI (σ 36 7), zR (some 50)]) (by exact rfl) (zcn (by exact rfl))) ?_
    refine Eq.trans (zY_getI (by exact rfl) (by exact dX3_here_20) (by exact rfl) (by exact rfl) (by exact rfl) (zcn (by exact rfl))) ?_
    refine Eq.trans (zY_step (by exact rfl) (by exact dX3_here_23) (by exact rfl) (pc' := 24) (S' := [zI ((σ 36 7) + (σ 36 6)), zR (some 50)]) (by exact rfl) (zcn (by exact rfl))) ?_
    refine Eq.trans (zY_iald (by exact rfl) (by exact dX3_here_24) (by exact rfl) (by exact rfl) (zcn (by exact rfl))) (zif ?_ rfl)
    · refine Eq.trans (zY_step (by exact rfl) (by exact dX3_here_25) (by exact rfl) (pc' := 28) (S' := [zI 255, zI (σ 50 (nrm ((σ 36 7) + (σ 36 6))).toNat)]) (by exact rfl) (zcn (by exact rfl))) ?_
      refine Eq.trans (zY_step (by exact rfl) (by exact dX3_here_28) (by exact rfl) (pc' := 29) (S' := [zI (zand (σ 50 (nrm ((σ 36 7) + (σ 36 6))).toNat) 255)]) (by exact rfl) (zcn (by exact rfl))) ?_
      refine Eq.trans (zY_step (by exact rfl) (by exact dX3_here_29) (by exact rfl) (pc' := 33) (S' := [zI (zand (σ 50 (nrm ((σ 36 7) + (σ 36 6))).toNat) 255)]) (L2 := [none]) (by exact rfl) (by exact rfl)) ?_
      exact zq_ret (by exact dX3_here_33) (by exact rfl) (rv := some (zI (zand (σ 50 (nrm ((σ 36 7) + (σ 36 6))).toNat) 255))) (by exact rfl)
theorem e_X3_readsNumber (d : Nat) (x1 x2 : Int) (σ : zS) : zc d mX3_readsNumber [zR (some 36), zI x1, zI x2] σ = (if zix x1 2 then zq d mX3_readsNumber 9 [some (zR (some 36)), some (zI x1), some (zI x2), some (zI 0)] [] (zup σ 42 (nrm x1).toNat 0) else none) := by
  refine Eq.trans (zc_zq (L := [some (zR (some 36)), some (zI x1), some (zI x2), none]) (by exact rfl)) ?_
  refine Eq.trans (zY_step (by exact rfl) (by exact dX3_readsNumber_0) (by exact rfl) (pc' := 1) (S' := [zR (some 36)]) (by exact rfl) (zcn (by exact rfl))) ?_
  refine Eq.trans (zY_getR (by exact rfl) (by exact dX3_readsNumber_1) (by exact rfl) (by exact rfl) (t := 42) (by exact rfl) (zcn (by exact rfl))) ?_
  refine Eq.trans (zY_step (by exact rfl) (by exact dX3_readsNumber_4) (by exact rfl) (pc' := 5) (S' := [zI x1, zR (some 42)]) (by exact rfl) (zcn (by exact rfl))) ?_
  refine Eq.trans (zY_step (by exact rfl) (by exact dX3_readsNumber_5) (by exact rfl) (pc' := 6) (S' := [zI 0, zI x1, zR (some 42)]) (by exact rfl) (zcn (by exact rfl))) ?_
  refine Eq.trans (zY_iast (by exact rfl) (by exact dX3_readsNumber_6) (by exact rfl) (by exact rfl) (zcn (by exact rfl))) (zif ?_ rfl)
  · refine Eq.trans (zY_step (by exact rfl) (by exact dX3_readsNumber_7) (by exact rfl) (pc' := 8) (S' := [zI 0]) (by exact rfl) (zcn (by exact rfl))) ?_
    exact zY_step (by exact rfl) (by exact dX3_readsNumber_8) (by exact rfl) (pc' := 9) (L' := [some (zR (some 36)), some (zI x1), some (zI x2), some (zI 0)]) (S' := []) (by exact rfl) (zcn (by exact rfl))
theorem b_X3_readsNumber_9 (d : Nat) (x1 x2 x3 : Int) (σ : zS) : zq (d + 1) mX3_readsNumber 9 [some (zR (some 36)), some (zI x1), some (zI x2), some (zI x3)] [] σ = (if nrm x2 ≤ nrm x3 then some (some (zI 1), σ) else (zc d mX3_here [zR (some 36)] σ).bind fun r => zq (d + 1) mX3_readsNumber 18 [some (zR (some 36)), some (zI x1), some (zI x2), some (zI x3)] (r.1.toList ++ []) r.2) := by
  refine Eq.trans (zY_step (by exact rfl) (by exact dX3_readsNumber_9) (by exact rfl) (pc' := 10) (S' := [zI x3]) (by exact rfl) (zcn (by exact rfl))) ?_
  refine Eq.trans (zY_step (by exact rfl) (by exact dX3_readsNumber_10) (by exact rfl) (pc' := 11) (S' := [zI x2, zI x3]) (by exact rfl) (zcn (by exact rfl))) ?_
  refine Eq.trans (zY_ic_ge (by exact rfl) (by exact dX3_readsNumber_11) (t := 69) (by exact rfl) (a2 := nrm x3) (b2 := nrm x2) (by exact rfl) (by exact rfl) (zcn (by exact rfl)) (zcn (by exact rfl))) (zif ?_ ?_)
  · refine Eq.trans (zY_step (by exact rfl) (by exact dX3_readsNumber_69) (by exact rfl) (pc' := 70) (S' := [zI 1]) (by exact rfl) (zcn (by exact rfl))) ?_
    exact zq_ret (by exact dX3_readsNumber_70) (by exact rfl) (rv := some (zI 1)) (by exact rfl)
  · refine Eq.trans (zY_step (by exact rfl) (by exact dX3_readsNumber_14) (by exact rfl) (pc' := 15) (S' := [zR (some 36)]) (by exact rfl) (zcn (by exact rfl))) ?_
    exact zY_V (by exact rfl) (by exact dX3_readsNumber_15) (by exact rfl) (as := []) (S' := []) (by exact rfl) (by exact rfl) (by exact rfl) (by exact Nat.le_of_ble_eq_true rfl) (by exact Nat.le_of_ble_eq_true rfl) (by exact Nat.le_of_ble_eq_true rfl) (zcn (by exact rfl))
theorem b_X3_readsNumber_18 (d : Nat) (y0 x1 x2 x3 : Int) (σ : zS) : zq (d + 1) mX3_readsNumber 18 [some (zR (some 36)), some (zI x1), some (zI x2), some (zI x3)] [zI y0] σ = (zc d mX3_isIn [zI y0, zI 48, zI 57] σ).bind fun r => zq (d + 1) mX3_readsNumber 25 [some (zR (some 36)), some (zI x1), some (zI x2), some (zI x3)] (r.1.toList ++ []) r.2 := by
  refine Eq.trans (zY_step (by exact rfl) (by exact dX3_readsNumber_18) (by exact rfl) (pc' := 20) (S' := [zI 48, zI y0]) (by exact rfl) (zcn (by exact rfl))) ?_
  refine Eq.trans (zY_step (by exact rfl) (by exact dX3_readsNumber_20) (by exact rfl) (pc' := 22) (S' := [zI 57, zI 48, zI y0]) (by exact rfl) (zcn (by exact rfl))) ?_
  exact zY_S (by exact rfl) (by exact dX3_readsNumber_22) (by exact rfl) (by exact Or.inl rfl) (as := [zI y0, zI 48, zI 57]) (S' := []) (by exact rfl) (by exact rfl) (by exact Nat.le_of_ble_eq_true rfl) (by exact Nat.le_of_ble_eq_true rfl) (zcn (by exact rfl))
theorem b_X3_readsNumber_25 (d : Nat) (y0 x1 x2 x3 : Int) (σ : zS) : zq (d + 1) mX3_readsNumber 25 [some (zR (some 36)), some (zI x1), some (zI x2), some (zI x3)] [zI y0] σ = (if ¬ nrm y0 = 0 then (if zix x1 2 then (zc d mX3_here [zR (some 36)] σ).bind fun r => zq (d + 1) mX3_readsNumber 48 [some (zR (some 36)), some (zI x1), some (zI x2), some (zI x3)] (r.1.toList ++ [zI (10 * (σ 42 (nrm x1).toNat)), zI x1, zR (some 42)]) r.2 else none) else some (some (zI 0), σ)) := by
  refine Eq.trans (zY_if_ne (by exact rfl) (by exact dX3_readsNumber_25) (t := 30) (by exact rfl) (a2 := nrm y0) (by exact rfl) (zcn (by exact rfl)) (zcn (by exact rfl))) (zif ?_ ?_)
  · refine Eq.trans (zY_step (by exact rfl) (by exact dX3_readsNumber_30) (by exact rfl) (pc' := 31) (S' := [zR (some 36)]) (by exact rfl) (zcn (by exact rfl))) ?_
    refine Eq.trans (zY_getR (by exact rfl) (by exact dX3_readsNumber_31) (by exact rfl) (by exact rfl) (t := 42) (by exact rfl) (zcn (by exact rfl))) ?_
    refine Eq.trans (zY_step (by exact rfl) (by exact dX3_readsNumber_34) (by exact rfl) (pc' := 35) (S' := [zI x1, zR (some 42)]) (by exact rfl) (zcn (by exact rfl))) ?_
    refine Eq.trans (zY_step (by exact rfl) (by exact dX3_readsNumber_35) (by exact rfl) (pc' := 37) (S' := [zI 10, zI x1, zR (some 42)]) (by exact rfl) (zcn (by exact rfl))) ?_
    refine Eq.trans (zY_step (by exact rfl) (by exact dX3_readsNumber_37) (by exact rfl) (pc' := 38) (S' := [zR (some 36), zI 10, zI x1, zR (some 42)]) (by exact rfl) (zcn (by exact rfl))) ?_
    refine Eq.trans (zY_getR (by exact rfl) (by exact dX3_readsNumber_38) (by exact rfl) (by exact rfl) (t := 42) (by exact rfl) (zcn (by exact rfl))) ?_
    refine Eq.trans (zY_step (by exact rfl) (by exact dX3_readsNumber_41) (by exact rfl) (pc' := 42) (S' := [zI x1, zR (some 42), zI 10, zI x1, zR (some 42)]) (by exact rfl) (zcn (by exact rfl))) ?_
    refine Eq.trans (zY_iald (by exact rfl) (by exact dX3_readsNumber_42) (by exact rfl) (by exact rfl) (zcn (by exact rfl))) (zif ?_ rfl)
    · refine Eq.trans (zY_step (by exact rfl) (by exact dX3_readsNumber_43) (by exact rfl) (pc' := 44) (S' := [zI (10 * (σ 42 (nrm x1).toNat)), zI x1, zR (some 42)]) (by exact rfl) (zcn (by exact rfl))) ?_
      refine Eq.trans (zY_step (by exact rfl) (by exact dX3_readsNumber_44) (by exact rfl) (pc' := 45) (S' := [zR (some 36), zI (10 * (σ 42 (nrm x1).toNat)), zI x1, zR (some 42)]) (by exact rfl) (zcn (by exact rfl))) ?_
      exact zY_V (by exact rfl) (by exact dX3_readsNumber_45) (by exact rfl) (as := []) (S' := [zI (10 * (σ 42 (nrm x1).toNat)), zI x1, zR (some 42)]) (by exact rfl) (by exact rfl) (by exact rfl) (by exact Nat.le_of_ble_eq_true rfl) (by exact Nat.le_of_ble_eq_true rfl) (by exact Nat.le_of_ble_eq_true rfl) (zcn (by exact rfl))
  · refine Eq.trans (zY_step (by exact rfl) (by exact dX3_readsNumber_28) (by exact rfl) (pc' := 29) (S' := [zI 0]) (by exact rfl) (zcn (by exact rfl))) ?_
    exact zq_ret (by exact dX3_readsNumber_29) (by exact rfl) (rv := some (zI 0)) (by exact rfl)
theorem b_X3_readsNumber_48 (d : Nat) (y0 y1 y2 x1 x2 x3 : Int) (σ : zS) : zq d mX3_readsNumber 48 [some (zR (some 36)), some (zI x1), some (zI x2), some (zI x3)] [zI y0, zI y1, zI y2, zR (some 42)] σ = (if zix y2 2 then zq d mX3_readsNumber 9 [some (zR (some 36)), some (zI x1), some (zI x2), some (zI (x3 + 1))] [] (zup (zup σ 42 (nrm y2).toNat ((y1 + y0) - 48)) 36 6 (((zup σ 42 (nrm y2).toNat ((y1 + y0) - 48)) 36 6) + 1)) else none) := by
  refine Eq.trans (zY_step (by exact rfl) (by exact dX3_readsNumber_48) (by exact rfl) (pc' := 49) (S' := [zI (y1 + y0), zI y2, zR (some 42)]) (by exact rfl) (zcn (by exact rfl))) ?_
  refine Eq.trans (zY_step (by exact rfl) (by exact dX3_readsNumber_49) (by exact rfl) (pc' := 51) (S' := [zI 48, zI (y1 + y0), zI y2, zR (some 42)]) (by exact rfl) (zcn (by exact rfl))) ?_
  refine Eq.trans (zY_step (by exact rfl) (by exact dX3_readsNumber_51) (by exact rfl) (pc' := 52) (S' := [zI ((y1 + y0) - 48), zI y2, zR (some 42)]) (by exact rfl) (zcn (by exact rfl))) ?_
  refine Eq.trans (zY_iast (by exact rfl) (by exact dX3_readsNumber_52) (by exact rfl) (by exact rfl) (zcn (by exact rfl))) (zif ?_ rfl)
  · refine Eq.trans (zY_step (by exact rfl) (by exact dX3_readsNumber_53) (by exact rfl) (pc' := 54) (S' := [zR (some 36)]) (by exact rfl) (zcn (by exact rfl))) ?_
    refine Eq.trans (zY_step (by exact rfl) (by exact dX3_readsNumber_54) (by exact rfl) (pc' := 55) (S' := [zR (some 36), zR (some 36)]) (by exact rfl) (zcn (by exact rfl))) ?_
    refine Eq.trans (zY_getI (by exact rfl) (by exact dX3_readsNumber_55) (by exact rfl) (by exact rfl) (by exact rfl) (zcn (by exact rfl))) ?_
    refine Eq.trans (zY_step (by exact rfl) (by exact dX3_readsNumber_58) (by exact rfl) (pc' := 59) (S' := [zI 1, zI ((zup σ 42 (nrm y2).toNat ((y1 + y0) - 48)) 36 6), zR (some 36)]) (by exact rfl) (zcn (by exact rfl))) ?_
    refine Eq.trans (zY_step (by exact rfl) (by exact dX3_readsNumber_59) (by exact rfl) (pc' := 60) (S' := [zI (((zup σ 42 (nrm y2).toNat ((y1 + y0) - 48)) 36 6) + 1), zR (some 36)]) (by exact rfl) (zcn (by exact rfl))) ?_
    refine Eq.trans (zY_putI (by exact rfl) (by exact dX3_readsNumber_60) (by exact rfl) (by exact rfl) (by exact rfl) (by exact fun h => absurd h (by decide)) (zcn (by exact rfl))) ?_
    refine Eq.trans (zY_step (by exact rfl) (by exact dX3_readsNumber_63) (by exact rfl) (pc' := 66) (L' := [some (zR (some 36)), some (zI x1), some (zI x2), some (zI (x3 + 1))]) (S' := []) (by exact rfl) (zcn (by exact rfl))) ?_
    exact zY_step (by exact rfl) (by exact dX3_readsNumber_66) (by exact rfl) (pc' := 9) (S' := []) (by exact rfl) (zcn (by exact rfl))
theorem e_X3_readsStatement (d : Nat) (σ : zS) : zc (d + 1) mX3_readsStatement [zR (some 36)] σ = (zc d mX3_here [zR (some 36)] σ).bind fun r => zq (d + 1) mX3_readsStatement 4 [some (zR (some 36)), none, none] (r.1.toList ++ []) r.2 := by
  refine Eq.trans (zc_zq (L := [some (zR (some 36)), none, none]) (by exact rfl)) ?_
  refine Eq.trans (zY_step (by exact rfl) (by exact dX3_readsStatement_0) (by exact rfl) (pc' := 1) (S' := [zR (some 36)]) (by exact rfl) (zcn (by exact rfl))) ?_
  exact zY_V (by exact rfl) (by exact dX3_readsStatement_1) (by exact rfl) (as := []) (S' := []) (by exact rfl) (by exact rfl) (by exact rfl) (by exact Nat.le_of_ble_eq_true rfl) (by exact Nat.le_of_ble_eq_true rfl) (by exact Nat.le_of_ble_eq_true rfl) (zcn (by exact rfl))
theorem b_X3_readsStatement_4 (d : Nat) (y0 : Int) (σ : zS) : zq (d + 1) mX3_readsStatement 4 [some (zR (some 36)), none, none] [zI y0] σ = (if 98 = nrm y0 then (zc d mX3_readsNumber [zR (some 36), zI 0, zI 1] (zup σ 36 6 ((σ 36 6) + 1))).bind fun r => zq (d + 1) mX3_readsStatement 136 [some (zR (some 36)), some (zI y0), none] (r.1.toList ++ []) r.2 else (if 104 = nrm y0 then zq (d + 1) mX3_readsStatement 140 [some (zR (some 36)), none, none] [] (zup σ 36 6 ((σ 36 6) + 1)) else (if 112 = nrm y0 then zq (d + 1) mX3_readsStatement 76 [some (zR (some 36)), none, none] [] (zup σ 36 6 ((σ 36 6) + 1)) else (if 114 = nrm y0 then zq (d + 1) mX3_readsStatement 140 [some (zR (some 36)), none, none] [] (zup σ 36 6 ((σ 36 6) + 1)) else (if 116 = nrm y0 then (zc d mX3_readsNumber [zR (some 36), zI 0, zI 1] (zup σ 36 6 ((σ 36 6) + 1))).bind fun r => zq (d + 1) mX3_readsStatement 109 [some (zR (some 36)), some (zI y0), none] (r.1.toList ++ []) r.2 else (if 120 = nrm y0 then zq (d + 1) mX3_readsStatement 76 [some (zR (some 36)), none, none] [] (zup σ 36 6 ((σ 36 6) + 1)) else some (some (zI 0), zup (zup σ 36 6 ((σ 36 6) + 1)) 36 6 (((zup σ 36 6 ((σ 36 6) + 1)) 36 6) - 1)))))))) := by
  refine Eq.trans (zY_step (by exact rfl) (by exact dX3_readsStatement_4) (by exact rfl) (pc' := 5) (L' := [some (zR (some 36)), some (zI y0), none]) (S' := []) (by exact rfl) (zcn (by exact rfl))) ?_
  refine Eq.trans (zY_step (by exact rfl) (by exact dX3_readsStatement_5) (by exact rfl) (pc' := 6) (S' := [zR (some 36)]) (by exact rfl) (zcn (by exact rfl))) ?_
  refine Eq.trans (zY_step (by exact rfl) (by exact dX3_readsStatement_6) (by exact rfl) (pc' := 7) (S' := [zR (some 36), zR (some 36)]) (by exact rfl) (zcn (by exact rfl))) ?_
  refine Eq.trans (zY_getI (by exact rfl) (by exact dX3_readsStatement_7) (by exact rfl) (by exact rfl) (by exact rfl) (zcn (by exact rfl))) ?_
  refine Eq.trans (zY_step (by exact rfl) (by exact dX3_readsStatement_10) (by exact rfl) (pc' := 11) (S' := [zI 1, zI (σ 36 6), zR (some 36)]) (by exact rfl) (zcn (by exact rfl))) ?_
  refine Eq.trans (zY_step (by exact rfl) (by exact dX3_readsStatement_11) (by exact rfl) (pc' := 12) (S' := [zI ((σ 36 6) + 1), zR (some 36)]) (by exact rfl) (zcn (by exact rfl))) ?_
  refine Eq.trans (zY_putI (by exact rfl) (by exact dX3_readsStatement_12) (by exact rfl) (by exact rfl) (by exact rfl) (by exact fun h => absurd h (by decide)) (zcn (by exact rfl))) ?_
  refine Eq.trans (zY_step (by exact rfl) (by exact dX3_readsStatement_15) (by exact rfl) (pc' := 16) (S' := [zI y0]) (by exact rfl) (zcn (by exact rfl))) ?_
  refine Eq.trans (zY_lsw (by exact rfl) (by exact dX3_readsStatement_16) (by exact rfl) (dt := 150) (by exact rfl) (ts := [(98, 130), (104, 140), (112, 76), (114, 140), (116, 103), (120, 76)]) (by exact rfl)) ?_
  refine zif ?_ (zif ?_ (zif ?_ (zif ?_ (zif ?_ (zif ?_ (?_))))))
  · refine Eq.trans (zY_at (L2 := [some (zR (some 36)), some (zI y0), none]) (zcn (by exact rfl))) ?_
    refine Eq.trans (zY_step (by exact rfl) (by exact dX3_readsStatement_130) (by exact rfl) (pc' := 131) (S' := [zR (some 36)]) (by exact rfl) (zcn (by exact rfl))) ?_
    refine Eq.trans (zY_step (by exact rfl) (by exact dX3_readsStatement_131) (by exact rfl) (pc' := 132) (S' := [zI 0, zR (some 36)]) (by exact rfl) (zcn (by exact rfl))) ?_
    refine Eq.trans (zY_step (by exact rfl) (by exact dX3_readsStatement_132) (by exact rfl) (pc' := 133) (S' := [zI 1, zI 0, zR (some 36)]) (by exact rfl) (zcn (by exact rfl))) ?_
    exact zY_V (by exact rfl) (by exact dX3_readsStatement_133) (by exact rfl) (as := [zI 0, zI 1]) (S' := []) (by exact rfl) (by exact rfl) (by exact rfl) (by exact Nat.le_of_ble_eq_true rfl) (by exact Nat.le_of_ble_eq_true rfl) (by exact Nat.le_of_ble_eq_true rfl) (zcn (by exact rfl))
  · exact zY_at (L2 := [some (zR (some 36)), none, none]) (by exact rfl)
  · exact zY_at (L2 := [some (zR (some 36)), none, none]) (by exact rfl)
  · exact zY_at (L2 := [some (zR (some 36)), none, none]) (by exact rfl)
  · refine Eq.trans (zY_at (L2 := [some (zR (some 36)), some (zI y0), none]) (zcn (by exact rfl))) ?_
    refine Eq.trans (zY_step (by exact rfl) (by exact dX3_readsStatement_103) (by exact rfl) (pc' := 104) (S' := [zR (some 36)]) (by exact rfl) (zcn (by exact rfl))) ?_
    refine Eq.trans (zY_step (by exact rfl) (by exact dX3_readsStatement_104) (by exact rfl) (pc' := 105) (S' := [zI 0, zR (some 36)]) (by exact rfl) (zcn (by exact rfl))) ?_
    refine Eq.trans (zY_step (by exact rfl) (by exact dX3_readsStatement_105) (by exact rfl) (pc' := 106) (S' := [zI 1, zI 0, zR (some 36)]) (by exact rfl) (zcn (by exact rfl))) ?_
    exact zY_V (by exact rfl) (by exact dX3_readsStatement_106) (by exact rfl) (as := [zI 0, zI 1]) (S' := []) (by exact rfl) (by exact rfl) (by exact rfl) (by exact Nat.le_of_ble_eq_true rfl) (by exact Nat.le_of_ble_eq_true rfl) (by exact Nat.le_of_ble_eq_true rfl) (zcn (by exact rfl))
  · exact zY_at (L2 := [some (zR (some 36)), none, none]) (by exact rfl)
  · refine Eq.trans (zY_at (L2 := [some (zR (some 36)), some (zI y0), none]) (zcn (by exact rfl))) ?_
    refine Eq.trans (zY_step (by exact rfl) (by exact dX3_readsStatement_150) (by exact rfl) (pc' := 151) (S' := [zR (some 36)]) (by exact rfl) (zcn (by exact rfl))) ?_
    refine Eq.trans (zY_step (by exact rfl) (by exact dX3_readsStatement_151) (by exact rfl) (pc' := 152) (S' := [zR (some 36), zR (some 36)]) (by exact rfl) (zcn (by exact rfl))) ?_
    refine Eq.trans (zY_getI (by exact rfl) (by exact dX3_readsStatement_152) (by exact rfl) (by exact rfl) (by exact rfl) (zcn (by exact rfl))) ?_
    refine Eq.trans (zY_step (by exact rfl) (by exact dX3_readsStatement_155) (by exact rfl) (pc' := 156) (S' := [zI 1, zI ((zup σ 36 6 ((σ 36 6) + 1)) 36 6), zR (some 36)]) (by exact rfl) (zcn (by exact rfl))) ?_
    refine Eq.trans (zY_step (by exact rfl) (by exact dX3_readsStatement_156) (by exact rfl) (pc' := 157) (S' := [zI (((zup σ 36 6 ((σ 36 6) + 1)) 36 6) - 1), zR (some 36)]) (by exact rfl) (zcn (by exact rfl))) ?_
    refine Eq.trans (zY_putI (by exact rfl) (by exact dX3_readsStatement_157) (by exact rfl) (by exact rfl) (by exact rfl) (by exact fun h => absurd h (by decide)) (zcn (by exact rfl))) ?_
    refine Eq.trans (zY_step (by exact rfl) (by exact dX3_readsStatement_160) (by exact rfl) (pc' := 161) (S' := [zI 0]) (by exact rfl) (zcn (by exact rfl))) ?_
    exact zq_ret (by exact dX3_readsStatement_161) (by exact rfl) (rv := some (zI 0)) (by exact rfl)
theorem b_X3_readsStatement_136 (d : Nat) (y0 x1 : Int) (σ : zS) : zq d mX3_readsStatement 136 [some (zR (some 36)), some (zI x1), none] [zI y0] σ = zq d mX3_readsStatement 162 [some (zR (some 36)), none, some (zI y0)] [] σ := by
  refine Eq.trans (zY_step (by exact rfl) (by exact dX3_readsStatement_136) (by exact rfl) (pc' := 137) (L' := [some (zR (some 36)), some (zI x1), some (zI y0)]) (S' := []) (by exact rfl) (zcn (by exact rfl))) ?_
  exact zY_step (by exact rfl) (by exact dX3_readsStatement_137) (by exact rfl) (pc' := 162) (S' := []) (L2 := [some (zR (some 36)), none, some (zI y0)]) (by exact rfl) (by exact rfl)
theorem b_X3_readsStatement_140 (d : Nat) (σ : zS) : zq (d + 1) mX3_readsStatement 140 [some (zR (some 36)), none, none] [] σ = (zc d mX3_readsNumber [zR (some 36), zI 0, zI 2] σ).bind fun r => zq (d + 1) mX3_readsStatement 146 [some (zR (some 36)), none, none] (r.1.toList ++ []) r.2 := by
  refine Eq.trans (zY_step (by exact rfl) (by exact dX3_readsStatement_140) (by exact rfl) (pc' := 141) (S' := [zR (some 36)]) (by exact rfl) (zcn (by exact rfl))) ?_
  refine Eq.trans (zY_step (by exact rfl) (by exact dX3_readsStatement_141) (by exact rfl) (pc' := 142) (S' := [zI 0, zR (some 36)]) (by exact rfl) (zcn (by exact rfl))) ?_
  refine Eq.trans (zY_step (by exact rfl) (by exact dX3_readsStatement_142) (by exact rfl) (pc' := 143) (S' := [zI 2, zI 0, zR (some 36)]) (by exact rfl) (zcn (by exact rfl))) ?_
  exact zY_V (by exact rfl) (by exact dX3_readsStatement_143) (by exact rfl) (as := [zI 0, zI 2]) (S' := []) (by exact rfl) (by exact rfl) (by exact rfl) (by exact Nat.le_of_ble_eq_true rfl) (by exact Nat.le_of_ble_eq_true rfl) (by exact Nat.le_of_ble_eq_true rfl) (zcn (by exact rfl))
theorem b_X3_readsStatement_76 (d : Nat) (σ : zS) : zq (d + 1) mX3_readsStatement 76 [some (zR (some 36)), none, none] [] σ = (zc d mX3_readsNumber [zR (some 36), zI 0, zI 1] σ).bind fun r => zq (d + 1) mX3_readsStatement 82 [some (zR (some 36)), none, none] (r.1.toList ++ []) r.2 := by
  refine Eq.trans (zY_step (by exact rfl) (by exact dX3_readsStatement_76) (by exact rfl) (pc' := 77) (S' := [zR (some 36)]) (by exact rfl) (zcn (by exact rfl))) ?_
  refine Eq.trans (zY_step (by exact rfl) (by exact dX3_readsStatement_77) (by exact rfl) (pc' := 78) (S' := [zI 0, zR (some 36)]) (by exact rfl) (zcn (by exact rfl))) ?_
  refine Eq.trans (zY_step (by exact rfl) (by exact dX3_readsStatement_78) (by exact rfl) (pc' := 79) (S' := [zI 1, zI 0, zR (some 36)]) (by exact rfl) (zcn (by exact rfl))) ?_
  exact zY_V (by exact rfl) (by exact dX3_readsStatement_79) (by exact rfl) (as := [zI 0, zI 1]) (S' := []) (by exact rfl) (by exact rfl) (by exact rfl) (by exact Nat.le_of_ble_eq_true rfl) (by exact Nat.le_of_ble_eq_true rfl) (by exact Nat.le_of_ble_eq_true rfl) (zcn (by exact rfl))
theorem b_X3_readsStatement_109 (d : Nat) (y0 x1 : Int) (σ : zS) : zq (d + 1) mX3_readsStatement 109 [some (zR (some 36)), some (zI x1), none] [zI y0] σ = (if nrm y0 = 0 then zq (d + 1) mX3_readsStatement 125 [some (zR (some 36)), none, none] [] σ else (zc d mX3_readsNumber [zR (some 36), zI 1, zI 2] σ).bind fun r => zq (d + 1) mX3_readsStatement 118 [some (zR (some 36)), some (zI x1), none] (r.1.toList ++ []) r.2) := by
  refine Eq.trans (zY_if_eq (by exact rfl) (by exact dX3_readsStatement_109) (t := 125) (by exact rfl) (a2 := nrm y0) (by exact rfl) (L1 := [some (zR (some 36)), none, none]) (by exact rfl) (zcn (by exact rfl))) (zif ?_ ?_)
  · exact rfl
  · refine Eq.trans (zY_step (by exact rfl) (by exact dX3_readsStatement_112) (by exact rfl) (pc' := 113) (S' := [zR (some 36)]) (by exact rfl) (zcn (by exact rfl))) ?_
    refine Eq.trans (zY_step (by exact rfl) (by exact dX3_readsStatement_113) (by exact rfl) (pc' := 114) (S' := [zI 1, zR (some 36)]) (by exact rfl) (zcn (by exact rfl))) ?_
    refine Eq.trans (zY_step (by exact rfl) (by exact dX3_readsStatement_114) (by exact rfl) (pc' := 115) (S' := [zI 2, zI 1, zR (some 36)]) (by exact rfl) (zcn (by exact rfl))) ?_
    exact zY_V (by exact rfl) (by exact dX3_readsStatement_115) (by exact rfl) (as := [zI 1, zI 2]) (S' := []) (by exact rfl) (by exact rfl) (by exact rfl) (by exact Nat.le_of_ble_eq_true rfl) (by exact Nat.le_of_ble_eq_true rfl) (by exact Nat.le_of_ble_eq_true rfl) (zcn (by exact rfl))
theorem b_X3_readsStatement_162 (d : Nat) (x2 : Int) (σ : zS) : zq (d + 1) mX3_readsStatement 162 [some (zR (some 36)), none, some (zI x2)] [] σ = (if nrm x2 = 0 then some (some (zI 0), σ) else (zc d mX3_here [zR (some 36)] σ).bind fun r => zq (d + 1) mX3_readsStatement 170 [some (zR (some 36)), none, some (zI x2)] (r.1.toList ++ []) r.2) := by
  refine Eq.trans (zY_step (by exact rfl) (by exact dX3_readsStatement_162) (by exact rfl) (pc' := 163) (S' := [zI x2]) (by exact rfl) (zcn (by exact rfl))) ?_
  refine Eq.trans (zY_if_eq (by exact rfl) (by exact dX3_readsStatement_163) (t := 175) (by exact rfl) (a2 := nrm x2) (by exact rfl) (L1 := [none, none, none]) (by exact rfl) (zcn (by exact rfl))) (zif ?_ ?_)
  · refine Eq.trans (zY_step (by exact rfl) (by exact dX3_readsStatement_175) (by exact rfl) (pc' := 176) (S' := [zI 0]) (by exact rfl) (zcn (by exact rfl))) ?_
    exact zq_ret (by exact dX3_readsStatement_176) (by exact rfl) (rv := some (zI 0)) (by exact rfl)
  · refine Eq.trans (zY_step (by exact rfl) (by exact dX3_readsStatement_166) (by exact rfl) (pc' := 167) (S' := [zR (some 36)]) (by exact rfl) (zcn (by exact rfl))) ?_
    exact zY_V (by exact rfl) (by exact dX3_readsStatement_167) (by exact rfl) (as := []) (S' := []) (by exact rfl) (by exact rfl) (by exact rfl) (by exact Nat.le_of_ble_eq_true rfl) (by exact Nat.le_of_ble_eq_true rfl) (by exact Nat.le_of_ble_eq_true rfl) (zcn (by exact rfl))
theorem b_X3_readsStatement_146 (d : Nat) (y0 : Int) (σ : zS) : zq d mX3_readsStatement 146 [some (zR (some 36)), none, none] [zI y0] σ = zq d mX3_readsStatement 162 [some (zR (some 36)), none, some (zI y0)] [] σ := by
  refine Eq.trans (zY_step (by exact rfl) (by exact dX3_readsStatement_146) (by exact rfl) (pc' := 147) (L' := [some (zR (some 36)), none, some (zI y0)]) (S' := []) (by exact rfl) (zcn (by exact rfl))) ?_
  exact zY_step (by exact rfl) (by exact dX3_readsStatement_147) (by exact rfl) (pc' := 162) (S' := []) (L2 := [some (zR (some 36)), none, some (zI y0)]) (by exact rfl) (by exact rfl)
theorem b_X3_readsStatement_82 (d : Nat) (y0 : Int) (σ : zS) : zq (d + 1) mX3_readsStatement 82 [some (zR (some 36)), none, none] [zI y0] σ = (if nrm y0 = 0 then zq (d + 1) mX3_readsStatement 98 [some (zR (some 36)), none, none] [] σ else (zc d mX3_readsNumber [zR (some 36), zI 1, zI 1] σ).bind fun r => zq (d + 1) mX3_readsStatement 91 [some (zR (some 36)), none, none] (r.1.toList ++ []) r.2) := by
  refine Eq.trans (zY_if_eq (by exact rfl) (by exact dX3_readsStatement_82) (t := 98) (by exact rfl) (a2 := nrm y0) (by exact rfl) (zcn (by exact rfl)) (zcn (by exact rfl))) (zif ?_ ?_)
  · exact rfl
  · refine Eq.trans (zY_step (by exact rfl) (by exact dX3_readsStatement_85) (by exact rfl) (pc' := 86) (S' := [zR (some 36)]) (by exact rfl) (zcn (by exact rfl))) ?_
    refine Eq.trans (zY_step (by exact rfl) (by exact dX3_readsStatement_86) (by exact rfl) (pc' := 87) (S' := [zI 1, zR (some 36)]) (by exact rfl) (zcn (by exact rfl))) ?_
    refine Eq.trans (zY_step (by exact rfl) (by exact dX3_readsStatement_87) (by exact rfl) (pc' := 88) (S' := [zI 1, zI 1, zR (some 36)]) (by exact rfl) (zcn (by exact rfl))) ?_
    exact zY_V (by exact rfl) (by exact dX3_readsStatement_88) (by exact rfl) (as := [zI 1, zI 1]) (S' := []) (by exact rfl) (by exact rfl) (by exact rfl) (by exact Nat.le_of_ble_eq_true rfl) (by exact Nat.le_of_ble_eq_true rfl) (by exact Nat.le_of_ble_eq_true rfl) (zcn (by exact rfl))
theorem b_X3_readsStatement_125 (d : Nat) (σ : zS) : zq d mX3_readsStatement 125 [some (zR (some 36)), none, none] [] σ = zq d mX3_readsStatement 126 [some (zR (some 36)), none, none] [zI 0] σ := by
  exact zY_step (by exact rfl) (by exact dX3_readsStatement_125) (by exact rfl) (pc' := 126) (S' := [zI 0]) (L2 := [some (zR (some 36)), none, none]) (by exact rfl) (by exact rfl)
theorem b_X3_readsStatement_118 (d : Nat) (y0 x1 : Int) (σ : zS) : zq d mX3_readsStatement 118 [some (zR (some 36)), some (zI x1), none] [zI y0] σ = (if nrm y0 = 0 then zq d mX3_readsStatement 125 [some (zR (some 36)), none, none] [] σ else zq d mX3_readsStatement 126 [some (zR (some 36)), none, none] [zI 1] σ) := by
  refine Eq.trans (zY_if_eq (by exact rfl) (by exact dX3_readsStatement_118) (t := 125) (by exact rfl) (a2 := nrm y0) (by exact rfl) (L1 := [some (zR (some 36)), none, none]) (by exact rfl) (zcn (by exact rfl))) (zif ?_ ?_)
  · exact rfl
  · refine Eq.trans (zY_step (by exact rfl) (by exact dX3_readsStatement_121) (by exact rfl) (pc' := 122) (S' := [zI 1]) (by exact rfl) (zcn (by exact rfl))) ?_
    exact zY_step (by exact rfl) (by exact dX3_readsStatement_122) (by exact rfl) (pc' := 126) (S' := [zI 1]) (L2 := [some (zR (some 36)), none, none]) (by exact rfl) (by exact rfl)
theorem b_X3_readsStatement_170 (d : Nat) (y0 x2 : Int) (σ : zS) : zq d mX3_readsStatement 170 [some (zR (some 36)), none, some (zI x2)] [zI y0] σ = (if nrm y0 = 59 then some (some (zI 1), zup σ 36 6 ((σ 36 6) + 1)) else some (some (zI 0), σ)) := by
  refine Eq.trans (zY_step (by exact rfl) (by exact dX3_readsStatement_170) (by exact rfl) (pc' := 172) (S' := [zI 59, zI y0]) (by exact rfl) (zcn (by exact rfl))) ?_
  refine Eq.trans (zY_ic_eq (by exact rfl) (by exact dX3_readsStatement_172) (t := 177) (by exact rfl) (a2 := nrm y0) (b2 := 59) (by exact rfl) (by decide) (L2 := [none, none, none]) (zcn (by exact rfl)) (by exact rfl)) (zif ?_ ?_)
  · refine Eq.trans (zY_step (by exact rfl) (by exact dX3_readsStatement_177) (by exact rfl) (pc' := 178) (S' := [zR (some 36)]) (by exact rfl) (zcn (by exact rfl))) ?_
    refine Eq.trans (zY_step (by exact rfl) (by exact dX3_readsStatement_178) (by exact rfl) (pc' := 179) (S' := [zR (some 36), zR (some 36)]) (by exact rfl) (zcn (by exact rfl))) ?_
    refine Eq.trans (zY_getI (by exact rfl) (by exact dX3_readsStatement_179) (by exact rfl) (by exact rfl) (by exact rfl) (zcn (by exact rfl))) ?_
    refine Eq.trans (zY_step (by exact rfl) (by exact dX3_readsStatement_182) (by exact rfl) (pc' := 183) (S' := [zI 1, zI (σ 36 6), zR (some 36)]) (by exact rfl) (zcn (by exact rfl))) ?_
    refine Eq.trans (zY_step (by exact rfl) (by exact dX3_readsStatement_183) (by exact rfl) (pc' := 184) (S' := [zI ((σ 36 6) + 1), zR (some 36)]) (by exact rfl) (zcn (by exact rfl))) ?_
    refine Eq.trans (zY_putI (by exact rfl) (by exact dX3_readsStatement_184) (by exact rfl) (by exact rfl) (by exact rfl) (by exact fun h => absurd h (by decide)) (zcn (by exact rfl))) ?_
    refine Eq.trans (zY_step (by exact rfl) (by exact dX3_readsStatement_187) (by exact rfl) (pc' := 188) (S' := [zI 1]) (by exact rfl) (zcn (by exact rfl))) ?_
    exact zq_ret (by exact dX3_readsStatement_188) (by exact rfl) (rv := some (zI 1)) (by exact rfl)
  · refine Eq.trans (zY_step (by exact rfl) (by exact dX3_readsStatement_175) (by exact rfl) (pc' := 176) (S' := [zI 0]) (by exact rfl) (zcn (by exact rfl))) ?_
    exact zq_ret (by exact dX3_readsStatement_176) (by exact rfl) (rv := some (zI 0)) (by exact rfl)
theorem b_X3_readsStatement_98 (d : Nat) (σ : zS) : zq d mX3_readsStatement 98 [some (zR (some 36)), none, none] [] σ = zq d mX3_readsStatement 99 [some (zR (some 36)), none, none] [zI 0] σ := by
  exact zY_step (by exact rfl) (by exact dX3_readsStatement_98) (by exact rfl) (pc' := 99) (S' := [zI 0]) (by exact rfl) (zcn (by exact rfl))
theorem b_X3_readsStatement_91 (d : Nat) (y0 : Int) (σ : zS) : zq d mX3_readsStatement 91 [some (zR (some 36)), none, none] [zI y0] σ = (if nrm y0 = 0 then zq d mX3_readsStatement 98 [some (zR (some 36)), none, none] [] σ else zq d mX3_readsStatement 99 [some (zR (some 36)), none, none] [zI 1] σ) := by
  refine Eq.trans (zY_if_eq (by exact rfl) (by exact dX3_readsStatement_91) (t := 98) (by exact rfl) (a2 := nrm y0) (by exact rfl) (zcn (by exact rfl)) (zcn (by exact rfl))) (zif ?_ ?_)
  · exact rfl
  · refine Eq.trans (zY_step (by exact rfl) (by exact dX3_readsStatement_94) (by exact rfl) (pc' := 95) (S' := [zI 1]) (by exact rfl) (zcn (by exact rfl))) ?_
    exact zY_step (by exact rfl) (by exact dX3_readsStatement_95) (by exact rfl) (pc' := 99) (S' := [zI 1]) (by exact rfl) (zcn (by exact rfl))
theorem b_X3_readsStatement_126 (d : Nat) (y0 : Int) (σ : zS) : zq d mX3_readsStatement 126 [some (zR (some 36)), none, none] [zI y0] σ = zq d mX3_readsStatement 162 [some (zR (some 36)), none, some (zI y0)] [] σ := by
  refine Eq.trans (zY_step (by exact rfl) (by exact dX3_readsStatement_126) (by exact rfl) (pc' := 127) (L' := [some (zR (some 36)), none, some (zI y0)]) (S' := []) (by exact rfl) (zcn (by exact rfl))) ?_
  exact zY_step (by exact rfl) (by exact dX3_readsStatement_127) (by exact rfl) (pc' := 162) (S' := []) (L2 := [some (zR (some 36)), none, some (zI y0)]) (by exact rfl) (by exact rfl)
theorem b_X3_readsStatement_99 (d : Nat) (y0 : Int) (σ : zS) : zq d mX3_readsStatement 99 [some (zR (some 36)), none, none] [zI y0] σ = zq d mX3_readsStatement 162 [some (zR (some 36)), none, some (zI y0)] [] σ := by
  refine Eq.trans (zY_step (by exact rfl) (by exact dX3_readsStatement_99) (by exact rfl) (pc' := 100) (L' := [some (zR (some 36)), none, some (zI y0)]) (S' := []) (by exact rfl) (zcn (by exact rfl))) ?_
  exact zY_step (by exact rfl) (by exact dX3_readsStatement_100) (by exact rfl) (pc' := 162) (S' := []) (L2 := [some (zR (some 36)), none, some (zI y0)]) (by exact rfl) (by exact rfl)
theorem e_X3_adds (d : Nat) (x1 x2 : Int) (σ : zS) : zc (d + 1) mX3_adds [zR (some 36), zI x1, zI x2] σ = (zc d mX3_of [zI (σ 37 0), zI 0] σ).bind fun r => zq (d + 1) mX3_adds 16 [some (zR (some 36)), some (zI x1), some (zI x2), some (zI (σ 37 0))] (r.1.toList ++ [zR (some 37)]) r.2 := by
  refine Eq.trans (zc_zq (L := [some (zR (some 36)), some (zI x1), some (zI x2), none]) (by exact rfl)) ?_
  refine Eq.trans (zY_step (by exact rfl) (by exact dX3_adds_0) (by exact rfl) (pc' := 1) (S' := [zR (some 36)]) (by exact rfl) (zcn (by exact rfl))) ?_
  refine Eq.trans (zY_getR (by exact rfl) (by exact dX3_adds_1) (by exact rfl) (by exact rfl) (t := 37) (by exact rfl) (zcn (by exact rfl))) ?_
  refine Eq.trans (zY_step (by exact rfl) (by exact dX3_adds_4) (by exact rfl) (pc' := 5) (S' := [zI 0, zR (some 37)]) (by exact rfl) (zcn (by exact rfl))) ?_
  refine Eq.trans (zY_ialdc (by exact rfl) (by exact dX3_adds_5) (by exact rfl) (by exact rfl) (j := 0) (by decide) (by decide) (zcn (by exact rfl))) ?_
  refine Eq.trans (zY_step (by exact rfl) (by exact dX3_adds_6) (by exact rfl) (pc' := 7) (L' := [some (zR (some 36)), some (zI x1), some (zI x2), some (zI (σ 37 0))]) (S' := []) (by exact rfl) (zcn (by exact rfl))) ?_
  refine Eq.trans (zY_step (by exact rfl) (by exact dX3_adds_7) (by exact rfl) (pc' := 8) (S' := [zR (some 36)]) (by exact rfl) (zcn (by exact rfl))) ?_
  refine Eq.trans (zY_getR (by exact rfl) (by exact dX3_adds_8) (by exact rfl) (by exact rfl) (t := 37) (by exact rfl) (zcn (by exact rfl))) ?_
  refine Eq.trans (zY_step (by exact rfl) (by exact dX3_adds_11) (by exact rfl) (pc' := 12) (S' := [zI (σ 37 0), zR (some 37)]) (by exact rfl) (zcn (by exact rfl))) ?_
  refine Eq.trans (zY_step (by exact rfl) (by exact dX3_adds_12) (by exact rfl) (pc' := 13) (S' := [zI 0, zI (σ 37 0), zR (some 37)]) (by exact rfl) (zcn (by exact rfl))) ?_
  exact zY_S (by exact rfl) (by exact dX3_adds_13) (by exact rfl) (by exact Or.inl rfl) (as := [zI (σ 37 0), zI 0]) (S' := [zR (some 37)]) (by exact rfl) (by exact rfl) (by exact Nat.le_of_ble_eq_true rfl) (by exact Nat.le_of_ble_eq_true rfl) (zcn (by exact rfl))
theorem b_X3_adds_16 (d : Nat) (y0 x1 x2 x3 : Int) (σ : zS) : zq (d + 1) mX3_adds 16 [some (zR (some 36)), some (zI x1), some (zI x2), some (zI x3)] [zI y0, zR (some 37)] σ = (if zix y0 35 then (zc d mX3_of [zI x3, zI 1] (zup σ 37 (nrm y0).toNat x1)).bind fun r => zq (d + 1) mX3_adds 27 [some (zR (some 36)), some (zI x1), some (zI x2), some (zI x3)] (r.1.toList ++ [zR (some 37)]) r.2 else none) := by
  refine Eq.trans (zY_step (by exact rfl) (by exact dX3_adds_16) (by exact rfl) (pc' := 17) (S' := [zI x1, zI y0, zR (some 37)]) (by exact rfl) (zcn (by exact rfl))) ?_
  refine Eq.trans (zY_iast (by exact rfl) (by exact dX3_adds_17) (by exact rfl) (by exact rfl) (zcn (by exact rfl))) (zif ?_ rfl)
  · refine Eq.trans (zY_step (by exact rfl) (by exact dX3_adds_18) (by exact rfl) (pc' := 19) (S' := [zR (some 36)]) (by exact rfl) (zcn (by exact rfl))) ?_
    refine Eq.trans (zY_getR (by exact rfl) (by exact dX3_adds_19) (by exact rfl) (by exact rfl) (t := 37) (by exact rfl) (zcn (by exact rfl))) ?_
    refine Eq.trans (zY_step (by exact rfl) (by exact dX3_adds_22) (by exact rfl) (pc' := 23) (S' := [zI x3, zR (some 37)]) (by exact rfl) (zcn (by exact rfl))) ?_
    refine Eq.trans (zY_step (by exact rfl) (by exact dX3_adds_23) (by exact rfl) (pc' := 24) (S' := [zI 1, zI x3, zR (some 37)]) (by exact rfl) (zcn (by exact rfl))) ?_
    exact zY_S (by exact rfl) (by exact dX3_adds_24) (by exact rfl) (by exact Or.inl rfl) (as := [zI x3, zI 1]) (S' := [zR (some 37)]) (by exact rfl) (by exact rfl) (by exact Nat.le_of_ble_eq_true rfl) (by exact Nat.le_of_ble_eq_true rfl) (zcn (by exact rfl))
theorem b_X3_adds_27 (d : Nat) (y0 x1 x2 x3 : Int) (σ : zS) : zq (d + 1) mX3_adds 27 [some (zR (some 36)), some (zI x1), some (zI x2), some (zI x3)] [zI y0, zR (some 37)] σ = (if zix y0 35 then (zc d mX3_of [zI x3, zI 2] (zup σ 37 (nrm y0).toNat x2)).bind fun r => zq (d + 1) mX3_adds 38 [some (zR (some 36)), some (zI x1), some (zI x2), some (zI x3)] (r.1.toList ++ [zR (some 37)]) r.2 else none) := by
  refine Eq.trans (zY_step (by exact rfl) (by exact dX3_adds_27) (by exact rfl) (pc' := 28) (S' := [zI x2, zI y0, zR (some 37)]) (by exact rfl) (zcn (by exact rfl))) ?_
  refine Eq.trans (zY_iast (by exact rfl) (by exact dX3_adds_28) (by exact rfl) (by exact rfl) (zcn (by exact rfl))) (zif ?_ rfl)
  · refine Eq.trans (zY_step (by exact rfl) (by exact dX3_adds_29) (by exact rfl) (pc' := 30) (S' := [zR (some 36)]) (by exact rfl) (zcn (by exact rfl))) ?_
    refine Eq.trans (zY_getR (by exact rfl) (by exact dX3_adds_30) (by exact rfl) (by exact rfl) (t := 37) (by exact rfl) (zcn (by exact rfl))) ?_
    refine Eq.trans (zY_step (by exact rfl) (by exact dX3_adds_33) (by exact rfl) (pc' := 34) (S' := [zI x3, zR (some 37)]) (by exact rfl) (zcn (by exact rfl))) ?_
    refine Eq.trans (zY_step (by exact rfl) (by exact dX3_adds_34) (by exact rfl) (pc' := 35) (S' := [zI 2, zI x3, zR (some 37)]) (by exact rfl) (zcn (by exact rfl))) ?_
    exact zY_S (by exact rfl) (by exact dX3_adds_35) (by exact rfl) (by exact Or.inl rfl) (as := [zI x3, zI 2]) (S' := [zR (some 37)]) (by exact rfl) (by exact rfl) (by exact Nat.le_of_ble_eq_true rfl) (by exact Nat.le_of_ble_eq_true rfl) (zcn (by exact rfl))
theorem b_X3_adds_38 (d : Nat) (y0 x1 x2 x3 : Int) (σ : zS) : zq (d + 1) mX3_adds 38 [some (zR (some 36)), some (zI x1), some (zI x2), some (zI x3)] [zI y0, zR (some 37)] σ = (if zix y0 35 then (zc d mX3_of [zI x3, zI 3] (zup σ 37 (nrm y0).toNat 0)).bind fun r => zq (d + 1) mX3_adds 49 [some (zR (some 36)), some (zI x1), some (zI x2), some (zI x3)] (r.1.toList ++ [zR (some 37)]) r.2 else none) := by
  refine Eq.trans (zY_step (by exact rfl) (by exact dX3_adds_38) (by exact rfl) (pc' := 39) (S' := [zI 0, zI y0, zR (some 37)]) (by exact rfl) (zcn (by exact rfl))) ?_
  refine Eq.trans (zY_iast (by exact rfl) (by exact dX3_adds_39) (by exact rfl) (by exact rfl) (zcn (by exact rfl))) (zif ?_ rfl)
  · refine Eq.trans (zY_step (by exact rfl) (by exact dX3_adds_40) (by exact rfl) (pc' := 41) (S' := [zR (some 36)]) (by exact rfl) (zcn (by exact rfl))) ?_
    refine Eq.trans (zY_getR (by exact rfl) (by exact dX3_adds_41) (by exact rfl) (by exact rfl) (t := 37) (by exact rfl) (zcn (by exact rfl))) ?_
    refine Eq.trans (zY_step (by exact rfl) (by exact dX3_adds_44) (by exact rfl) (pc' := 45) (S' := [zI x3, zR (some 37)]) (by exact rfl) (zcn (by exact rfl))) ?_
    refine Eq.trans (zY_step (by exact rfl) (by exact dX3_adds_45) (by exact rfl) (pc' := 46) (S' := [zI 3, zI x3, zR (some 37)]) (by exact rfl) (zcn (by exact rfl))) ?_
    exact zY_S (by exact rfl) (by exact dX3_adds_46) (by exact rfl) (by exact Or.inl rfl) (as := [zI x3, zI 3]) (S' := [zR (some 37)]) (by exact rfl) (by exact rfl) (by exact Nat.le_of_ble_eq_true rfl) (by exact Nat.le_of_ble_eq_true rfl) (zcn (by exact rfl))
theorem b_X3_adds_49 (d : Nat) (y0 x1 x2 x3 : Int) (σ : zS) : zq d mX3_adds 49 [some (zR (some 36)), some (zI x1), some (zI x2), some (zI x3)] [zI y0, zR (some 37)] σ = (if zix y0 35 then some (none, zup (zup σ 37 (nrm y0).toNat 0) 37 0 (((zup σ 37 (nrm y0).toNat 0) 37 0) + 1)) else none) := by
  refine Eq.trans (zY_step (by exact rfl) (by exact dX3_adds_49) (by exact rfl) (pc' := 50) (S' := [zI 0, zI y0, zR (some 37)]) (by exact rfl) (zcn (by exact rfl))) ?_
  refine Eq.trans (zY_iast (by exact rfl) (by exact dX3_adds_50) (by exact rfl) (by exact rfl) (zcn (by exact rfl))) (zif ?_ rfl)
  · refine Eq.trans (zY_step (by exact rfl) (by exact dX3_adds_51) (by exact rfl) (pc' := 52) (S' := [zR (some 36)]) (by exact rfl) (zcn (by exact rfl))) ?_
    refine Eq.trans (zY_getR (by exact rfl) (by exact dX3_adds_52) (by exact rfl) (by exact rfl) (t := 37) (by exact rfl) (zcn (by exact rfl))) ?_
    refine Eq.trans (zY_step (by exact rfl) (by exact dX3_adds_55) (by exact rfl) (pc' := 56) (S' := [zI 0, zR (some 37)]) (by exact rfl) (zcn (by exact rfl))) ?_
    refine Eq.trans (zY_step (by exact rfl) (by exact dX3_adds_56) (by exact rfl) (pc' := 57) (S' := [zI 0, zR (some 37), zI 0, zR (some 37)]) (by exact rfl) (zcn (by exact rfl))) ?_
    refine Eq.trans (zY_ialdc (by exact rfl) (by exact dX3_adds_57) (by exact rfl) (by exact rfl) (j := 0) (by decide) (by decide) (zcn (by exact rfl))) ?_
    refine Eq.trans (zY_step (by exact rfl) (by exact dX3_adds_58) (by exact rfl) (pc' := 59) (S' := [zI 1, zI ((zup σ 37 (nrm y0).toNat 0) 37 0), zI 0, zR (some 37)]) (by exact rfl) (zcn (by exact rfl))) ?_
    refine Eq.trans (zY_step (by exact rfl) (by exact dX3_adds_59) (by exact rfl) (pc' := 60) (S' := [zI (((zup σ 37 (nrm y0).toNat 0) 37 0) + 1), zI 0, zR (some 37)]) (by exact rfl) (zcn (by exact rfl))) ?_
    refine Eq.trans (zY_iastc (by exact rfl) (by exact dX3_adds_60) (by exact rfl) (by exact rfl) (j := 0) (by decide) (by decide) (zcn (by exact rfl))) ?_
    exact zq_ret (by exact dX3_adds_61) (by exact rfl) (rv := none) (by exact rfl)
theorem e_X3_turnsBlock (d : Nat) (x1 : Int) (σ : zS) : zc (d + 1) mX3_turnsBlock [zR (some 36), zI x1] σ = (zc d mX3_of [zI x1, zI 3] σ).bind fun r => zq (d + 1) mX3_turnsBlock 10 [some (zR (some 36)), some (zI x1), none] (r.1.toList ++ [zR (some 37), zI 1]) r.2 := by
  refine Eq.trans (zc_zq (L := [some (zR (some 36)), some (zI x1), none]) (by exact rfl)) ?_
  refine Eq.trans (zY_step (by exact rfl) (by exact dX3_turnsBlock_0) (by exact rfl) (pc' := 1) (S' := [zI 1]) (by exact rfl) (zcn (by exact rfl))) ?_
  refine Eq.trans (zY_step (by exact rfl) (by exact dX3_turnsBlock_1) (by exact rfl) (pc' := 2) (S' := [zR (some 36), zI 1]) (by exact rfl) (zcn (by exact rfl))) ?_
  refine Eq.trans (zY_getR (by exact rfl) (by exact dX3_turnsBlock_2) (by exact rfl) (by exact rfl) (t := 37) (by exact rfl) (zcn (by exact rfl))) ?_
  refine Eq.trans (zY_step (by exact rfl) (by exact dX3_turnsBlock_5) (by exact rfl) (pc' := 6) (S' := [zI x1, zR (some 37), zI 1]) (by exact rfl) (zcn (by exact rfl))) ?_
  refine Eq.trans (zY_step (by exact rfl) (by exact dX3_turnsBlock_6) (by exact rfl) (pc' := 7) (S' := [zI 3, zI x1, zR (some 37), zI 1]) (by exact rfl) (zcn (by exact rfl))) ?_
  exact zY_S (by exact rfl) (by exact dX3_turnsBlock_7) (by exact rfl) (by exact Or.inl rfl) (as := [zI x1, zI 3]) (S' := [zR (some 37), zI 1]) (by exact rfl) (by exact rfl) (by exact Nat.le_of_ble_eq_true rfl) (by exact Nat.le_of_ble_eq_true rfl) (zcn (by exact rfl))
theorem b_X3_turnsBlock_10 (d : Nat) (y0 y2 x1 : Int) (σ : zS) : zq (d + 1) mX3_turnsBlock 10 [some (zR (some 36)), some (zI x1), none] [zI y0, zR (some 37), zI y2] σ = (if zix y0 35 then (zc d mX3_of [zI x1, zI 3] σ).bind fun r => zq (d + 1) mX3_turnsBlock 22 [some (zR (some 36)), some (zI x1), some (zI (y2 - (σ 37 (nrm y0).toNat)))] (r.1.toList ++ [zR (some 37)]) r.2 else none) := by
  refine Eq.trans (zY_iald (by exact rfl) (by exact dX3_turnsBlock_10) (by exact rfl) (by exact rfl) (zcn (by exact rfl))) (zif ?_ rfl)
  · refine Eq.trans (zY_step (by exact rfl) (by exact dX3_turnsBlock_11) (by exact rfl) (pc' := 12) (S' := [zI (y2 - (σ 37 (nrm y0).toNat))]) (by exact rfl) (zcn (by exact rfl))) ?_
    refine Eq.trans (zY_step (by exact rfl) (by exact dX3_turnsBlock_12) (by exact rfl) (pc' := 13) (L' := [some (zR (some 36)), some (zI x1), some (zI (y2 - (σ 37 (nrm y0).toNat)))]) (S' := []) (by exact rfl) (zcn (by exact rfl))) ?_
    refine Eq.trans (zY_step (by exact rfl) (by exact dX3_turnsBlock_13) (by exact rfl) (pc' := 14) (S' := [zR (some 36)]) (by exact rfl) (zcn (by exact rfl))) ?_
    refine Eq.trans (zY_getR (by exact rfl) (by exact dX3_turnsBlock_14) (by exact rfl) (by exact rfl) (t := 37) (by exact rfl) (zcn (by exact rfl))) ?_
    refine Eq.trans (zY_step (by exact rfl) (by exact dX3_turnsBlock_17) (by exact rfl) (pc' := 18) (S' := [zI x1, zR (some 37)]) (by exact rfl) (zcn (by exact rfl))) ?_
    refine Eq.trans (zY_step (by exact rfl) (by exact dX3_turnsBlock_18) (by exact rfl) (pc' := 19) (S' := [zI 3, zI x1, zR (some 37)]) (by exact rfl) (zcn (by exact rfl))) ?_
    exact zY_S (by exact rfl) (by exact dX3_turnsBlock_19) (by exact rfl) (by exact Or.inl rfl) (as := [zI x1, zI 3]) (S' := [zR (some 37)]) (by exact rfl) (by exact rfl) (by exact Nat.le_of_ble_eq_true rfl) (by exact Nat.le_of_ble_eq_true rfl) (zcn (by exact rfl))
theorem b_X3_turnsBlock_22 (d : Nat) (y0 x1 x2 : Int) (σ : zS) : zq (d + 1) mX3_turnsBlock 22 [some (zR (some 36)), some (zI x1), some (zI x2)] [zI y0, zR (some 37)] σ = (if zix y0 35 then (if ¬ nrm x2 = 1 then some (none, zup σ 37 (nrm y0).toNat x2) else (zc d mX3_of [zI x1, zI 2] (zup σ 37 (nrm y0).toNat x2)).bind fun r => zq (d + 1) mX3_turnsBlock 38 [some (zR (some 36)), some (zI x1), some (zI x2)] (r.1.toList ++ [zR (some 37)]) r.2) else none) := by
  refine Eq.trans (zY_step (by exact rfl) (by exact dX3_turnsBlock_22) (by exact rfl) (pc' := 23) (S' := [zI x2, zI y0, zR (some 37)]) (by exact rfl) (zcn (by exact rfl))) ?_
  refine Eq.trans (zY_iast (by exact rfl) (by exact dX3_turnsBlock_23) (by exact rfl) (by exact rfl) (zcn (by exact rfl))) (zif ?_ rfl)
  · refine Eq.trans (zY_step (by exact rfl) (by exact dX3_turnsBlock_24) (by exact rfl) (pc' := 25) (S' := [zI x2]) (by exact rfl) (zcn (by exact rfl))) ?_
    refine Eq.trans (zY_step (by exact rfl) (by exact dX3_turnsBlock_25) (by exact rfl) (pc' := 26) (S' := [zI 1, zI x2]) (by exact rfl) (zcn (by exact rfl))) ?_
    refine Eq.trans (zY_ic_ne (by exact rfl) (by exact dX3_turnsBlock_26) (t := 40) (by exact rfl) (a2 := nrm x2) (b2 := 1) (by exact rfl) (by decide) (L1 := [none, none, none]) (by exact rfl) (zcn (by exact rfl))) (zif ?_ ?_)
    · exact zq_ret (by exact dX3_turnsBlock_40) (by exact rfl) (rv := none) (by exact rfl)
    · refine Eq.trans (zY_step (by exact rfl) (by exact dX3_turnsBlock_29) (by exact rfl) (pc' := 30) (S' := [zR (some 36)]) (by exact rfl) (zcn (by exact rfl))) ?_
      refine Eq.trans (zY_getR (by exact rfl) (by exact dX3_turnsBlock_30) (by exact rfl) (by exact rfl) (t := 37) (by exact rfl) (zcn (by exact rfl))) ?_
      refine Eq.trans (zY_step (by exact rfl) (by exact dX3_turnsBlock_33) (by exact rfl) (pc' := 34) (S' := [zI x1, zR (some 37)]) (by exact rfl) (zcn (by exact rfl))) ?_
      refine Eq.trans (zY_step (by exact rfl) (by exact dX3_turnsBlock_34) (by exact rfl) (pc' := 35) (S' := [zI 2, zI x1, zR (some 37)]) (by exact rfl) (zcn (by exact rfl))) ?_
      exact zY_S (by exact rfl) (by exact dX3_turnsBlock_35) (by exact rfl) (by exact Or.inl rfl) (as := [zI x1, zI 2]) (S' := [zR (some 37)]) (by exact rfl) (by exact rfl) (by exact Nat.le_of_ble_eq_true rfl) (by exact Nat.le_of_ble_eq_true rfl) (zcn (by exact rfl))
theorem b_X3_turnsBlock_38 (d : Nat) (y0 x1 x2 : Int) (σ : zS) : zq d mX3_turnsBlock 38 [some (zR (some 36)), some (zI x1), some (zI x2)] [zI y0, zR (some 37)] σ = (if zix y0 35 then some (none, zup σ 37 (nrm y0).toNat 0) else none) := by
  refine Eq.trans (zY_step (by exact rfl) (by exact dX3_turnsBlock_38) (by exact rfl) (pc' := 39) (S' := [zI 0, zI y0, zR (some 37)]) (by exact rfl) (zcn (by exact rfl))) ?_
  refine Eq.trans (zY_iast (by exact rfl) (by exact dX3_turnsBlock_39) (by exact rfl) (by exact rfl) (by exact rfl)) (zif ?_ rfl)
  · exact zq_ret (by exact dX3_turnsBlock_40) (by exact rfl) (rv := none) (by exact rfl)
theorem e_X3_isDone (d : Nat) (x1 : Int) (σ : zS) : zc (d + 1) mX3_isDone [zR (some 36), zI x1] σ = (if 98 = nrm x1 then (zc d mX3_isRow [zR (some 36), zI (σ 42 0)] σ).bind fun r => zq (d + 1) mX3_isDone 131 [some (zR (some 36)), some (zI x1), some (zI (σ 42 0)), some (zI (σ 42 1))] (r.1.toList ++ []) r.2 else (if 104 = nrm x1 then (if 24 ≤ nrm (σ 42 0) then some (some (zI 0), zup σ 37 1 (σ 42 0)) else some (some (zI 1), zup σ 37 1 (σ 42 0))) else (if 112 = nrm x1 then (if 8 ≤ nrm (σ 42 0) then some (some (zI 0), σ) else (if ¬ nrm (σ 37 0) = 8 then (zc d mX3_adds [zR (some 36), zI (σ 42 0), zI (σ 42 1)] σ).bind fun r => zq (d + 1) mX3_isDone 89 [some (zR (some 36)), some (zI x1), some (zI (σ 42 0)), some (zI (σ 42 1))] (r.1.toList ++ []) r.2 else some (some (zI 0), σ))) else (if 114 = nrm x1 then (zc d mX3_isIn [zI (σ 42 0), zI 1, zI 60] σ).bind fun r => zq (d + 1) mX3_isDone 169 [some (zR (some 36)), some (zI x1), some (zI (σ 42 0)), some (zI (σ 42 1))] (r.1.toList ++ []) r.2 else (if 116 = nrm x1 then (zc d mX3_isRow [zR (some 36), zI (σ 42 0)] σ).bind fun r => zq (d + 1) mX3_isDone 96 [some (zR (some 36)), some (zI x1), some (zI (σ 42 0)), some (zI (σ 42 1))] (r.1.toList ++ []) r.2 else (zc d mX3_isRow [zR (some 36), zI (σ 42 0)] σ).bind fun r => zq (d + 1) mX3_isDone 204 [some (zR (some 36)), some (zI x1), some (zI (σ 42 0)), some (zI (σ 42 1))] (r.1.toList ++ []) r.2))))) := by
  refine Eq.trans (zc_zq (L := [some (zR (some 36)), some (zI x1), none, none]) (by exact rfl)) ?_
  refine Eq.trans (zY_step (by exact rfl) (by exact dX3_isDone_0) (by exact rfl) (pc' := 1) (S' := [zR (some 36)]) (by exact rfl) (zcn (by exact rfl))) ?_
  refine Eq.trans (zY_getR (by exact rfl) (by exact dX3_isDone_1) (by exact rfl) (by exact rfl) (t := 42) (by exact rfl) (zcn (by exact rfl))) ?_
  refine Eq.trans (zY_step (by exact rfl) (by exact dX3_isDone_4) (by exact rfl) (pc' := 5) (S' := [zI 0, zR (some 42)]) (by exact rfl) (zcn (by exact rfl))) ?_
  refine Eq.trans (zY_ialdc (by exact rfl) (by exact dX3_isDone_5) (by exact rfl) (by exact rfl) (j := 0) (by decide) (by decide) (zcn (by exact rfl))) ?_
  refine Eq.trans (zY_step (by exact rfl) (by exact dX3_isDone_6) (by exact rfl) (pc' := 7) (L' := [some (zR (some 36)), some (zI x1), some (zI (σ 42 0)), none]) (S' := []) (by exact rfl) (zcn (by exact rfl))) ?_
  refine Eq.trans (zY_step (by exact rfl) (by exact dX3_isDone_7) (by exact rfl) (pc' := 8) (S' := [zR (some 36)]) (by exact rfl) (zcn (by exact rfl))) ?_
  refine Eq.trans (zY_getR (by exact rfl) (by exact dX3_isDone_8) (by exact rfl) (by exact rfl) (t := 42) (by exact rfl) (zcn (by exact rfl))) ?_
  refine Eq.trans (zY_step (by exact rfl) (by exact dX3_isDone_11) (by exact rfl) (pc' := 12) (S' := [zI 1, zR (some 42)]) (by exact rfl) (zcn (by exact rfl))) ?_
  refine Eq.trans (zY_ialdc (by exact rfl) (by exact dX3_isDone_12) (by exact rfl) (by exact rfl) (j := 1) (by decide) (by decide) (zcn (by exact rfl))) ?_
  refine Eq.trans (zY_step (by exact rfl) (by exact dX3_isDone_13) (by exact rfl) (pc' := 14) (L' := [some (zR (some 36)), some (zI x1), some (zI (σ 42 0)), some (zI (σ 42 1))]) (S' := []) (by exact rfl) (zcn (by exact rfl))) ?_
  refine Eq.trans (zY_step (by exact rfl) (by exact dX3_isDone_14) (by exact rfl) (pc' := 15) (S' := [zI x1]) (by exact rfl) (zcn (by exact rfl))) ?_
  refine Eq.trans (zY_lsw (by exact rfl) (by exact dX3_isDone_15) (by exact rfl) (dt := 199) (by exact rfl) (ts := [(98, 126), (104, 143), (112, 64), (114, 162), (116, 91)]) (by exact rfl)) ?_
  refine zif ?_ (zif ?_ (zif ?_ (zif ?_ (zif ?_ (?_)))))
  · refine Eq.trans (zY_at (L2 := [some (zR (some 36)), some (zI x1), some (zI (σ 42 0)), some (zI (σ 42 1))]) (zcn (by exact rfl))) ?_
    refine Eq.trans (zY_step (by exact rfl) (by exact dX3_isDone_126) (by exact rfl) (pc' := 127) (S' := [zR (some 36)]) (by exact rfl) (zcn (by exact rfl))) ?_
    refine Eq.trans (zY_step (by exact rfl) (by exact dX3_isDone_127) (by exact rfl) (pc' := 128) (S' := [zI (σ 42 0), zR (some 36)]) (by exact rfl) (zcn (by exact rfl))) ?_
    exact zY_V (by exact rfl) (by exact dX3_isDone_128) (by exact rfl) (as := [zI (σ 42 0)]) (S' := []) (by exact rfl) (by exact rfl) (by exact rfl) (by exact Nat.le_of_ble_eq_true rfl) (by exact Nat.le_of_ble_eq_true rfl) (by exact Nat.le_of_ble_eq_true rfl) (zcn (by exact rfl))
  · refine Eq.trans (zY_at (L2 := [some (zR (some 36)), some (zI x1), some (zI (σ 42 0)), some (zI (σ 42 1))]) (zcn (by exact rfl))) ?_
    refine Eq.trans (zY_step (by exact rfl) (by exact dX3_isDone_143) (by exact rfl) (pc' := 144) (S' := [zR (some 36)]) (by exact rfl) (zcn (by exact rfl))) ?_
    refine Eq.trans (zY_getR (by exact rfl) (by exact dX3_isDone_144) (by exact rfl) (by exact rfl) (t := 37) (by exact rfl) (zcn (by exact rfl))) ?_
    refine Eq.trans (zY_step (by exact rfl) (by exact dX3_isDone_147) (by exact rfl) (pc' := 148) (S' := [zI 1, zR (some 37)]) (by exact rfl) (zcn (by exact rfl))) ?_
    refine Eq.trans (zY_step (by exact rfl) (by exact dX3_isDone_148) (by exact rfl) (pc' := 149) (S' := [zI (σ 42 0), zI 1, zR (some 37)]) (by exact rfl) (zcn (by exact rfl))) ?_
    refine Eq.trans (zY_iastc (by exact rfl) (by exact dX3_isDone_149) (by exact rfl) (by exact rfl) (j := 1) (by decide) (by decide) (zcn (by exact rfl))) ?_
    refine Eq.trans (zY_step (by exact rfl) (by exact dX3_isDone_150) (by exact rfl) (pc' := 151) (S' := [zI (σ 42 0)]) (by exact rfl) (zcn (by exact rfl))) ?_
    refine Eq.trans (zY_step (by exact rfl) (by exact dX3_isDone_151) (by exact rfl) (pc' := 153) (S' := [zI 24, zI (σ 42 0)]) (by exact rfl) (zcn (by exact rfl))) ?_
    refine Eq.trans (zY_ic_ge (by exact rfl) (by exact dX3_isDone_153) (t := 160) (by exact rfl) (a2 := nrm (σ 42 0)) (b2 := 24) (by exact rfl) (by decide) (zcn (by exact rfl)) (zcn (by exact rfl))) (zif ?_ ?_)
    · refine Eq.trans (zY_step (by exact rfl) (by exact dX3_isDone_160) (by exact rfl) (pc' := 161) (S' := [zI 0]) (L2 := [none, none, none, none]) (by exact rfl) (by exact rfl)) ?_
      exact zq_ret (by exact dX3_isDone_161) (by exact rfl) (rv := some (zI 0)) (by exact rfl)
    · refine Eq.trans (zY_step (by exact rfl) (by exact dX3_isDone_156) (by exact rfl) (pc' := 157) (S' := [zI 1]) (by exact rfl) (zcn (by exact rfl))) ?_
      refine Eq.trans (zY_step (by exact rfl) (by exact dX3_isDone_157) (by exact rfl) (pc' := 161) (S' := [zI 1]) (L2 := [none, none, none, none]) (by exact rfl) (by exact rfl)) ?_
      exact zq_ret (by exact dX3_isDone_161) (by exact rfl) (rv := some (zI 1)) (by exact rfl)
  · refine Eq.trans (zY_at (L2 := [some (zR (some 36)), some (zI x1), some (zI (σ 42 0)), some (zI (σ 42 1))]) (zcn (by exact rfl))) ?_
    refine Eq.trans (zY_step (by exact rfl) (by exact dX3_isDone_64) (by exact rfl) (pc' := 65) (S' := [zI (σ 42 0)]) (by exact rfl) (zcn (by exact rfl))) ?_
    refine Eq.trans (zY_step (by exact rfl) (by exact dX3_isDone_65) (by exact rfl) (pc' := 67) (S' := [zI 8, zI (σ 42 0)]) (by exact rfl) (zcn (by exact rfl))) ?_
    refine Eq.trans (zY_ic_ge (by exact rfl) (by exact dX3_isDone_67) (t := 81) (by exact rfl) (a2 := nrm (σ 42 0)) (b2 := 8) (by exact rfl) (by decide) (L1 := [none, none, none, none]) (by exact rfl) (zcn (by exact rfl))) (zif ?_ ?_)
    · refine Eq.trans (zY_step (by exact rfl) (by exact dX3_isDone_81) (by exact rfl) (pc' := 82) (S' := [zI 0]) (by exact rfl) (zcn (by exact rfl))) ?_
      exact zq_ret (by exact dX3_isDone_82) (by exact rfl) (rv := some (zI 0)) (by exact rfl)
    · refine Eq.trans (zY_step (by exact rfl) (by exact dX3_isDone_70) (by exact rfl) (pc' := 71) (S' := [zR (some 36)]) (by exact rfl) (zcn (by exact rfl))) ?_
      refine Eq.trans (zY_getR (by exact rfl) (by exact dX3_isDone_71) (by exact rfl) (by exact rfl) (t := 37) (by exact rfl) (zcn (by exact rfl))) ?_
      refine Eq.trans (zY_step (by exact rfl) (by exact dX3_isDone_74) (by exact rfl) (pc' := 75) (S' := [zI 0, zR (some 37)]) (by exact rfl) (zcn (by exact rfl))) ?_
      refine Eq.trans (zY_ialdc (by exact rfl) (by exact dX3_isDone_75) (by exact rfl) (by exact rfl) (j := 0) (by decide) (by decide) (zcn (by exact rfl))) ?_
      refine Eq.trans (zY_step (by exact rfl) (by exact dX3_isDone_76) (by exact rfl) (pc' := 78) (S' := [zI 8, zI (σ 37 0)]) (by exact rfl) (zcn (by exact rfl))) ?_
      refine Eq.trans (zY_ic_ne (by exact rfl) (by exact dX3_isDone_78) (t := 83) (by exact rfl) (a2 := nrm (σ 37 0)) (b2 := 8) (by exact rfl) (by decide) (L2 := [none, none, none, none]) (zcn (by exact rfl)) (by exact rfl)) (zif ?_ ?_)
      · refine Eq.trans (zY_step (by exact rfl) (by exact dX3_isDone_83) (by exact rfl) (pc' := 84) (S' := [zR (some 36)]) (by exact rfl) (zcn (by exact rfl))) ?_
        refine Eq.trans (zY_step (by exact rfl) (by exact dX3_isDone_84) (by exact rfl) (pc' := 85) (S' := [zI (σ 42 0), zR (some 36)]) (by exact rfl) (zcn (by exact rfl))) ?_
        refine Eq.trans (zY_step (by exact rfl) (by exact dX3_isDone_85) (by exact rfl) (pc' := 86) (S' := [zI (σ 42 1), zI (σ 42 0), zR (some 36)]) (by exact rfl) (zcn (by exact rfl))) ?_
        exact zY_V (by exact rfl) (by exact dX3_isDone_86) (by exact rfl) (as := [zI (σ 42 0), zI (σ 42 1)]) (S' := []) (by exact rfl) (by exact rfl) (by exact rfl) (by exact Nat.le_of_ble_eq_true rfl) (by exact Nat.le_of_ble_eq_true rfl) (by exact Nat.le_of_ble_eq_true rfl) (zcn (by exact rfl))
      · refine Eq.trans (zY_step (by exact rfl) (by exact dX3_isDone_81) (by exact rfl) (pc' := 82) (S' := [zI 0]) (by exact rfl) (zcn (by exact rfl))) ?_
        exact zq_ret (by exact dX3_isDone_82) (by exact rfl) (rv := some (zI 0)) (by exact rfl)
  · refine Eq.trans (zY_at (L2 := [some (zR (some 36)), some (zI x1), some (zI (σ 42 0)), some (zI (σ 42 1))]) (zcn (by exact rfl))) ?_
    refine Eq.trans (zY_step (by exact rfl) (by exact dX3_isDone_162) (by exact rfl) (pc' := 163) (S' := [zI (σ 42 0)]) (by exact rfl) (zcn (by exact rfl))) ?_
    refine Eq.trans (zY_step (by exact rfl) (by exact dX3_isDone_163) (by exact rfl) (pc' := 164) (S' := [zI 1, zI (σ 42 0)]) (by exact rfl) (zcn (by exact rfl))) ?_
    refine Eq.trans (zY_step (by exact rfl) (by exact dX3_isDone_164) (by exact rfl) (pc' := 166) (S' := [zI 60, zI 1, zI (σ 42 0)]) (by exact rfl) (zcn (by exact rfl))) ?_
    exact zY_S (by exact rfl) (by exact dX3_isDone_166) (by exact rfl) (by exact Or.inl rfl) (as := [zI (σ 42 0), zI 1, zI 60]) (S' := []) (by exact rfl) (by exact rfl) (by exact Nat.le_of_ble_eq_true rfl) (by exact Nat.le_of_ble_eq_true rfl) (zcn (by exact rfl))
  · refine Eq.trans (zY_at (L2 := [some (zR (some 36)), some (zI x1), some (zI (σ 42 0)), some (zI (σ 42 1))]) (zcn (by exact rfl))) ?_
    refine Eq.trans (zY_step (by exact rfl) (by exact dX3_isDone_91) (by exact rfl) (pc' := 92) (S' := [zR (some 36)]) (by exact rfl) (zcn (by exact rfl))) ?_
    refine Eq.trans (zY_step (by exact rfl) (by exact dX3_isDone_92) (by exact rfl) (pc' := 93) (S' := [zI (σ 42 0), zR (some 36)]) (by exact rfl) (zcn (by exact rfl))) ?_
    exact zY_V (by exact rfl) (by exact dX3_isDone_93) (by exact rfl) (as := [zI (σ 42 0)]) (S' := []) (by exact rfl) (by exact rfl) (by exact rfl) (by exact Nat.le_of_ble_eq_true rfl) (by exact Nat.le_of_ble_eq_true rfl) (by exact Nat.le_of_ble_eq_true rfl) (zcn (by exact rfl))
  · refine Eq.trans (zY_at (L2 := [some (zR (some 36)), some (zI x1), some (zI (σ 42 0)), some (zI (σ 42 1))]) (zcn (by exact rfl))) ?_
    refine Eq.trans (zY_step (by exact rfl) (by exact dX3_isDone_199) (by exact rfl) (pc' := 200) (S' := [zR (some 36)]) (by exact rfl) (zcn (by exact rfl))) ?_
    refine Eq.trans (zY_step (by exact rfl) (by exact dX3_isDone_200) (by exact rfl) (pc' := 201) (S' := [zI (σ 42 0), zR (some 36)]) (by exact rfl) (zcn (by exact rfl))) ?_
    exact zY_V (by exact rfl) (by exact dX3_isDone_201) (by exact rfl) (as := [zI (σ 42 0)]) (S' := []) (by exact rfl) (by exact rfl) (by exact rfl) (by exact Nat.le_of_ble_eq_true rfl) (by exact Nat.le_of_ble_eq_true rfl) (by exact Nat.le_of_ble_eq_true rfl) (zcn (by exact rfl))
theorem b_X3_isDone_204 (d : Nat) (y0 x1 x2 x3 : Int) (σ : zS) : zq (d + 1) mX3_isDone 204 [some (zR (some 36)), some (zI x1), some (zI x2), some (zI x3)] [zI y0] σ = (if nrm y0 = 0 then some (some (zI 0), σ) else (zc d mX3_isRow [zR (some 36), zI x3] σ).bind fun r => zq (d + 1) mX3_isDone 212 [some (zR (some 36)), some (zI x1), some (zI x2), some (zI x3)] (r.1.toList ++ []) r.2) := by
  refine Eq.trans (zY_if_eq (by exact rfl) (by exact dX3_isDone_204) (t := 220) (by exact rfl) (a2 := nrm y0) (by exact rfl) (L1 := [none, none, none, none]) (by exact rfl) (zcn (by exact rfl))) (zif ?_ ?_)
  · refine Eq.trans (zY_step (by exact rfl) (by exact dX3_isDone_220) (by exact rfl) (pc' := 221) (S' := [zI 0]) (by exact rfl) (zcn (by exact rfl))) ?_
    exact zq_ret (by exact dX3_isDone_221) (by exact rfl) (rv := some (zI 0)) (by exact rfl)
  · refine Eq.trans (zY_step (by exact rfl) (by exact dX3_isDone_207) (by exact rfl) (pc' := 208) (S' := [zR (some 36)]) (by exact rfl) (zcn (by exact rfl))) ?_
    refine Eq.trans (zY_step (by exact rfl) (by exact dX3_isDone_208) (by exact rfl) (pc' := 209) (S' := [zI x3, zR (some 36)]) (by exact rfl) (zcn (by exact rfl))) ?_
    exact zY_V (by exact rfl) (by exact dX3_isDone_209) (by exact rfl) (as := [zI x3]) (S' := []) (by exact rfl) (by exact rfl) (by exact rfl) (by exact Nat.le_of_ble_eq_true rfl) (by exact Nat.le_of_ble_eq_true rfl) (by exact Nat.le_of_ble_eq_true rfl) (zcn (by exact rfl))
theorem b_X3_isDone_131 (d : Nat) (y0 x1 x2 x3 : Int) (σ : zS) : zq (d + 1) mX3_isDone 131 [some (zR (some 36)), some (zI x1), some (zI x2), some (zI x3)] [zI y0] σ = (if ¬ nrm y0 = 0 then (zc d mX3_turnsBlock [zR (some 36), zI x2] σ).bind fun r => zq (d + 1) mX3_isDone 141 [some (zR (some 36)), some (zI x1), some (zI x2), some (zI x3)] (r.1.toList ++ []) r.2 else some (some (zI 0), σ)) := by
  refine Eq.trans (zY_if_ne (by exact rfl) (by exact dX3_isDone_131) (t := 136) (by exact rfl) (a2 := nrm y0) (by exact rfl) (zcn (by exact rfl)) (zcn (by exact rfl))) (zif ?_ ?_)
  · refine Eq.trans (zY_step (by exact rfl) (by exact dX3_isDone_136) (by exact rfl) (pc' := 137) (S' := [zR (some 36)]) (by exact rfl) (zcn (by exact rfl))) ?_
    refine Eq.trans (zY_step (by exact rfl) (by exact dX3_isDone_137) (by exact rfl) (pc' := 138) (S' := [zI x2, zR (some 36)]) (by exact rfl) (zcn (by exact rfl))) ?_
    exact zY_V (by exact rfl) (by exact dX3_isDone_138) (by exact rfl) (as := [zI x2]) (S' := []) (by exact rfl) (by exact rfl) (by exact rfl) (by exact Nat.le_of_ble_eq_true rfl) (by exact Nat.le_of_ble_eq_true rfl) (by exact Nat.le_of_ble_eq_true rfl) (zcn (by exact rfl))
  · refine Eq.trans (zY_step (by exact rfl) (by exact dX3_isDone_134) (by exact rfl) (pc' := 135) (S' := [zI 0]) (by exact rfl) (zcn (by exact rfl))) ?_
    exact zq_ret (by exact dX3_isDone_135) (by exact rfl) (rv := some (zI 0)) (by exact rfl)
theorem b_X3_isDone_89 (d : Nat) (x1 x2 x3 : Int) (σ : zS) : zq d mX3_isDone 89 [some (zR (some 36)), some (zI x1), some (zI x2), some (zI x3)] [] σ = some (some (zI 1), σ) := by
  refine Eq.trans (zY_step (by exact rfl) (by exact dX3_isDone_89) (by exact rfl) (pc' := 90) (S' := [zI 1]) (by exact rfl) (zcn (by exact rfl))) ?_
  exact zq_ret (by exact dX3_isDone_90) (by exact rfl) (rv := some (zI 1)) (by exact rfl)
theorem b_X3_isDone_169 (d : Nat) (y0 x1 x2 x3 : Int) (σ : zS) : zq (d + 1) mX3_isDone 169 [some (zR (some 36)), some (zI x1), some (zI x2), some (zI x3)] [zI y0] σ = (if nrm y0 = 0 then some (some (zI 0), σ) else (if nrm ((σ 37 2) + x2) ≤ 999 then (zc d mX3_roundsOn [zR (some 36), zR (some 37), zI x2] σ).bind fun r => zq (d + 1) mX3_isDone 197 [some (zR (some 36)), some (zI x1), some (zI x2), some (zI x3)] (r.1.toList ++ []) r.2 else some (some (zI 0), σ))) := by
  refine Eq.trans (zY_if_eq (by exact rfl) (by exact dX3_isDone_169) (t := 186) (by exact rfl) (a2 := nrm y0) (by exact rfl) (L1 := [none, none, none, none]) (by exact rfl) (zcn (by exact rfl))) (zif ?_ ?_)
  · refine Eq.trans (zY_step (by exact rfl) (by exact dX3_isDone_186) (by exact rfl) (pc' := 187) (S' := [zI 0]) (by exact rfl) (zcn (by exact rfl))) ?_
    exact zq_ret (by exact dX3_isDone_187) (by exact rfl) (rv := some (zI 0)) (by exact rfl)
  · refine Eq.trans (zY_step (by exact rfl) (by exact dX3_isDone_172) (by exact rfl) (pc' := 173) (S' := [zR (some 36)]) (by exact rfl) (zcn (by exact rfl))) ?_
    refine Eq.trans (zY_getR (by exact rfl) (by exact dX3_isDone_173) (by exact rfl) (by exact rfl) (t := 37) (by exact rfl) (zcn (by exact rfl))) ?_
    refine Eq.trans (zY_step (by exact rfl) (by exact dX3_isDone_176) (by exact rfl) (pc' := 177) (S' := [zI 2, zR (some 37)]) (by exact rfl) (zcn (by exact rfl))) ?_
    refine Eq.trans (zY_ialdc (by exact rfl) (by exact dX3_isDone_177) (by exact rfl) (by exact rfl) (j := 2) (by decide) (by decide) (zcn (by exact rfl))) ?_
    refine Eq.trans (zY_step (by exact rfl) (by exact dX3_isDone_178) (by exact rfl) (pc' := 179) (S' := [zI x2, zI (σ 37 2)]) (by exact rfl) (zcn (by exact rfl))) ?_
    refine Eq.trans (zY_step (by exact rfl) (by exact dX3_isDone_179) (by exact rfl) (pc' := 180) (S' := [zI ((σ 37 2) + x2)]) (by exact rfl) (zcn (by exact rfl))) ?_
    refine Eq.trans (zY_step (by exact rfl) (by exact dX3_isDone_180) (by exact rfl) (pc' := 183) (S' := [zI 999, zI ((σ 37 2) + x2)]) (by exact rfl) (zcn (by exact rfl))) ?_
    refine Eq.trans (zY_ic_le (by exact rfl) (by exact dX3_isDone_183) (t := 188) (by exact rfl) (a2 := nrm ((σ 37 2) + x2)) (b2 := 999) (by exact rfl) (by decide) (L2 := [none, none, none, none]) (zcn (by exact rfl)) (by exact rfl)) (zif ?_ ?_)
    · refine Eq.trans (zY_step (by exact rfl) (by exact dX3_isDone_188) (by exact rfl) (pc' := 189) (S' := [zR (some 36)]) (by exact rfl) (zcn (by exact rfl))) ?_
      refine Eq.trans (zY_step (by exact rfl) (by exact dX3_isDone_189) (by exact rfl) (pc' := 190) (S' := [zR (some 36), zR (some 36)]) (by exact rfl) (zcn (by exact rfl))) ?_
      refine Eq.trans (zY_getR (by exact rfl) (by exact dX3_isDone_190) (by exact rfl) (by exact rfl) (t := 37) (by exact rfl) (zcn (by exact rfl))) ?_
      refine Eq.trans (zY_step (by exact rfl) (by exact dX3_isDone_193) (by exact rfl) (pc' := 194) (S' := [zI x2, zR (some 37), zR (some 36)]) (by exact rfl) (zcn (by exact rfl))) ?_
      exact zY_V (by exact rfl) (by exact dX3_isDone_194) (by exact rfl) (as := [zR (some 37), zI x2]) (S' := []) (by exact rfl) (by exact rfl) (by exact rfl) (by exact Nat.le_of_ble_eq_true rfl) (by exact Nat.le_of_ble_eq_true rfl) (by exact Nat.le_of_ble_eq_true rfl) (zcn (by exact rfl))
    · refine Eq.trans (zY_step (by exact rfl) (by exact dX3_isDone_186) (by exact rfl) (pc' := 187) (S' := [zI 0]) (by exact rfl) (zcn (by exact rfl))) ?_
      exact zq_ret (by exact dX3_isDone_187) (by exact rfl) (rv := some (zI 0)) (by exact rfl)
theorem b_X3_isDone_96 (d : Nat) (y0 x1 x2 x3 : Int) (σ : zS) : zq (d + 1) mX3_isDone 96 [some (zR (some 36)), some (zI x1), some (zI x2), some (zI x3)] [zI y0] σ = (if nrm y0 = 0 then some (some (zI 0), σ) else (zc d mX3_can [zR (some 37), zI x2] σ).bind fun r => zq (d + 1) mX3_isDone 108 [some (zR (some 36)), some (zI x1), some (zI x2), some (zI x3)] (r.1.toList ++ [zI x3]) r.2) := by
  refine Eq.trans (zY_if_eq (by exact rfl) (by exact dX3_isDone_96) (t := 111) (by exact rfl) (a2 := nrm y0) (by exact rfl) (L1 := [none, none, none, none]) (by exact rfl) (zcn (by exact rfl))) (zif ?_ ?_)
  · refine Eq.trans (zY_step (by exact rfl) (by exact dX3_isDone_111) (by exact rfl) (pc' := 112) (S' := [zI 0]) (by exact rfl) (zcn (by exact rfl))) ?_
    exact zq_ret (by exact dX3_isDone_112) (by exact rfl) (rv := some (zI 0)) (by exact rfl)
  · refine Eq.trans (zY_step (by exact rfl) (by exact dX3_isDone_99) (by exact rfl) (pc' := 100) (S' := [zI x3]) (by exact rfl) (zcn (by exact rfl))) ?_
    refine Eq.trans (zY_step (by exact rfl) (by exact dX3_isDone_100) (by exact rfl) (pc' := 101) (S' := [zR (some 36), zI x3]) (by exact rfl) (zcn (by exact rfl))) ?_
    refine Eq.trans (zY_getR (by exact rfl) (by exact dX3_isDone_101) (by exact rfl) (by exact rfl) (t := 37) (by exact rfl) (zcn (by exact rfl))) ?_
    refine Eq.trans (zY_step (by exact rfl) (by exact dX3_isDone_104) (by exact rfl) (pc' := 105) (S' := [zI x2, zR (some 37), zI x3]) (by exact rfl) (zcn (by exact rfl))) ?_
    exact zY_S (by exact rfl) (by exact dX3_isDone_105) (by exact rfl) (by exact Or.inl rfl) (as := [zR (some 37), zI x2]) (S' := [zI x3]) (by exact rfl) (by exact rfl) (by exact Nat.le_of_ble_eq_true rfl) (by exact Nat.le_of_ble_eq_true rfl) (zcn (by exact rfl))
theorem b_X3_isDone_212 (d : Nat) (y0 x1 x2 x3 : Int) (σ : zS) : zq (d + 1) mX3_isDone 212 [some (zR (some 36)), some (zI x1), some (zI x2), some (zI x3)] [zI y0] σ = (if nrm y0 = 0 then some (some (zI 0), σ) else (if ¬ nrm x2 = nrm x3 then (zc d mX3_changes [zR (some 37), zI x2, zI x3] σ).bind fun r => zq (d + 1) mX3_isDone 231 [some (zR (some 36)), some (zI x1), some (zI x2), some (zI x3)] (r.1.toList ++ []) r.2 else some (some (zI 0), σ))) := by
  refine Eq.trans (zY_if_eq (by exact rfl) (by exact dX3_isDone_212) (t := 220) (by exact rfl) (a2 := nrm y0) (by exact rfl) (L1 := [none, none, none, none]) (by exact rfl) (zcn (by exact rfl))) (zif ?_ ?_)
  · refine Eq.trans (zY_step (by exact rfl) (by exact dX3_isDone_220) (by exact rfl) (pc' := 221) (S' := [zI 0]) (by exact rfl) (zcn (by exact rfl))) ?_
    exact zq_ret (by exact dX3_isDone_221) (by exact rfl) (rv := some (zI 0)) (by exact rfl)
  · refine Eq.trans (zY_step (by exact rfl) (by exact dX3_isDone_215) (by exact rfl) (pc' := 216) (S' := [zI x2]) (by exact rfl) (zcn (by exact rfl))) ?_
    refine Eq.trans (zY_step (by exact rfl) (by exact dX3_isDone_216) (by exact rfl) (pc' := 217) (S' := [zI x3, zI x2]) (by exact rfl) (zcn (by exact rfl))) ?_
    refine Eq.trans (zY_ic_ne (by exact rfl) (by exact dX3_isDone_217) (t := 222) (by exact rfl) (a2 := nrm x2) (b2 := nrm x3) (by exact rfl) (by exact rfl) (L2 := [none, none, none, none]) (zcn (by exact rfl)) (by exact rfl)) (zif ?_ ?_)
    · refine Eq.trans (zY_step (by exact rfl) (by exact dX3_isDone_222) (by exact rfl) (pc' := 223) (S' := [zR (some 36)]) (by exact rfl) (zcn (by exact rfl))) ?_
      refine Eq.trans (zY_getR (by exact rfl) (by exact dX3_isDone_223) (by exact rfl) (by exact rfl) (t := 37) (by exact rfl) (zcn (by exact rfl))) ?_
      refine Eq.trans (zY_step (by exact rfl) (by exact dX3_isDone_226) (by exact rfl) (pc' := 227) (S' := [zI x2, zR (some 37)]) (by exact rfl) (zcn (by exact rfl))) ?_
      refine Eq.trans (zY_step (by exact rfl) (by exact dX3_isDone_227) (by exact rfl) (pc' := 228) (S' := [zI x3, zI x2, zR (some 37)]) (by exact rfl) (zcn (by exact rfl))) ?_
      exact zY_S (by exact rfl) (by exact dX3_isDone_228) (by exact rfl) (by exact Or.inl rfl) (as := [zR (some 37), zI x2, zI x3]) (S' := []) (by exact rfl) (by exact rfl) (by exact Nat.le_of_ble_eq_true rfl) (by exact Nat.le_of_ble_eq_true rfl) (zcn (by exact rfl))
    · refine Eq.trans (zY_step (by exact rfl) (by exact dX3_isDone_220) (by exact rfl) (pc' := 221) (S' := [zI 0]) (by exact rfl) (zcn (by exact rfl))) ?_
      exact zq_ret (by exact dX3_isDone_221) (by exact rfl) (rv := some (zI 0)) (by exact rfl)
theorem b_X3_isDone_141 (d : Nat) (x1 x2 x3 : Int) (σ : zS) : zq d mX3_isDone 141 [some (zR (some 36)), some (zI x1), some (zI x2), some (zI x3)] [] σ = some (some (zI 1), σ) := by
  refine Eq.trans (zY_step (by exact rfl) (by exact dX3_isDone_141) (by exact rfl) (pc' := 142) (S' := [zI 1]) (by exact rfl) (zcn (by exact rfl))) ?_
  exact zq_ret (by exact dX3_isDone_142) (by exact rfl) (rv := some (zI 1)) (by exact rfl)
theorem b_X3_isDone_197 (d : Nat) (x1 x2 x3 : Int) (σ : zS) : zq d mX3_isDone 197 [some (zR (some 36)), some (zI x1), some (zI x2), some (zI x3)] [] σ = some (some (zI 1), σ) := by
  refine Eq.trans (zY_step (by exact rfl) (by exact dX3_isDone_197) (by exact rfl) (pc' := 198) (S' := [zI 1]) (by exact rfl) (zcn (by exact rfl))) ?_
  exact zq_ret (by exact dX3_isDone_198) (by exact rfl) (rv := some (zI 1)) (by exact rfl)
theorem b_X3_isDone_108 (d : Nat) (y0 y1 x1 x2 x3 : Int) (σ : zS) : zq (d + 1) mX3_isDone 108 [some (zR (some 36)), some (zI x1), some (zI x2), some (zI x3)] [zI y0, zI y1] σ = (if nrm y1 ≤ nrm y0 then (zc d mX3_of [zI x2, zI 2] σ).bind fun r => zq (d + 1) mX3_isDone 122 [some (zR (some 36)), some (zI x1), some (zI x2), some (zI x3)] (r.1.toList ++ [zR (some 37)]) r.2 else some (some (zI 0), σ)) := by
  refine Eq.trans (zY_ic_le (by exact rfl) (by exact dX3_isDone_108) (t := 113) (by exact rfl) (a2 := nrm y1) (b2 := nrm y0) (by exact rfl) (by exact rfl) (L2 := [none, none, none, none]) (zcn (by exact rfl)) (by exact rfl)) (zif ?_ ?_)
  · refine Eq.trans (zY_step (by exact rfl) (by exact dX3_isDone_113) (by exact rfl) (pc' := 114) (S' := [zR (some 36)]) (by exact rfl) (zcn (by exact rfl))) ?_
    refine Eq.trans (zY_getR (by exact rfl) (by exact dX3_isDone_114) (by exact rfl) (by exact rfl) (t := 37) (by exact rfl) (zcn (by exact rfl))) ?_
    refine Eq.trans (zY_step (by exact rfl) (by exact dX3_isDone_117) (by exact rfl) (pc' := 118) (S' := [zI x2, zR (some 37)]) (by exact rfl) (zcn (by exact rfl))) ?_
    refine Eq.trans (zY_step (by exact rfl) (by exact dX3_isDone_118) (by exact rfl) (pc' := 119) (S' := [zI 2, zI x2, zR (some 37)]) (by exact rfl) (zcn (by exact rfl))) ?_
    exact zY_S (by exact rfl) (by exact dX3_isDone_119) (by exact rfl) (by exact Or.inl rfl) (as := [zI x2, zI 2]) (S' := [zR (some 37)]) (by exact rfl) (by exact rfl) (by exact Nat.le_of_ble_eq_true rfl) (by exact Nat.le_of_ble_eq_true rfl) (zcn (by exact rfl))
  · refine Eq.trans (zY_step (by exact rfl) (by exact dX3_isDone_111) (by exact rfl) (pc' := 112) (S' := [zI 0]) (by exact rfl) (zcn (by exact rfl))) ?_
    exact zq_ret (by exact dX3_isDone_112) (by exact rfl) (rv := some (zI 0)) (by exact rfl)
theorem b_X3_isDone_231 (d : Nat) (x1 x2 x3 : Int) (σ : zS) : zq d mX3_isDone 231 [some (zR (some 36)), some (zI x1), some (zI x2), some (zI x3)] [] σ = some (some (zI 1), σ) := by
  refine Eq.trans (zY_step (by exact rfl) (by exact dX3_isDone_231) (by exact rfl) (pc' := 232) (S' := [zI 1]) (by exact rfl) (zcn (by exact rfl))) ?_
  exact zq_ret (by exact dX3_isDone_232) (by exact rfl) (rv := some (zI 1)) (by exact rfl)
theorem b_X3_isDone_122 (d : Nat) (y0 x1 x2 x3 : Int) (σ : zS) : zq d mX3_isDone 122 [some (zR (some 36)), some (zI x1), some (zI x2), some (zI x3)] [zI y0, zR (some 37)] σ = (if zix y0 35 then some (some (zI 1), zup σ 37 (nrm y0).toNat x3) else none) := by
  refine Eq.trans (zY_step (by exact rfl) (by exact dX3_isDone_122) (by exact rfl) (pc' := 123) (S' := [zI x3, zI y0, zR (some 37)]) (by exact rfl) (zcn (by exact rfl))) ?_
  refine Eq.trans (zY_iast (by exact rfl) (by exact dX3_isDone_123) (by exact rfl) (by exact rfl) (zcn (by exact rfl))) (zif ?_ rfl)
  · refine Eq.trans (zY_step (by exact rfl) (by exact dX3_isDone_124) (by exact rfl) (pc' := 125) (S' := [zI 1]) (by exact rfl) (zcn (by exact rfl))) ?_
    exact zq_ret (by exact dX3_isDone_125) (by exact rfl) (rv := some (zI 1)) (by exact rfl)
theorem e_X3_coach (d : Nat) (x1 : Int) (σ : zS) : zc (d + 1) mX3_coach [zR (some 36), zI x1] σ = (zc d mX3_wrongRow [zR (some 36), zI x1, zI 0] σ).bind fun r => zq (d + 1) mX3_coach 6 [some (zR (some 36)), some (zI x1), none, none, none, none, none, none] (r.1.toList ++ []) r.2 := by
  refine Eq.trans (zc_zq (L := [some (zR (some 36)), some (zI x1), none, none, none, none, none, none]) (by exact rfl)) ?_
  refine Eq.trans (zY_step (by exact rfl) (by exact dX3_coach_0) (by exact rfl) (pc' := 1) (S' := [zR (some 36)]) (by exact rfl) (zcn (by exact rfl))) ?_
  refine Eq.trans (zY_step (by exact rfl) (by exact dX3_coach_1) (by exact rfl) (pc' := 2) (S' := [zI x1, zR (some 36)]) (by exact rfl) (zcn (by exact rfl))) ?_
  refine Eq.trans (zY_step (by exact rfl) (by exact dX3_coach_2) (by exact rfl) (pc' := 3) (S' := [zI 0, zI x1, zR (some 36)]) (by exact rfl) (zcn (by exact rfl))) ?_
  exact zY_V (by exact rfl) (by exact dX3_coach_3) (by exact rfl) (as := [zI x1, zI 0]) (S' := []) (by exact rfl) (by exact rfl) (by exact rfl) (by exact Nat.le_of_ble_eq_true rfl) (by exact Nat.le_of_ble_eq_true rfl) (by exact Nat.le_of_ble_eq_true rfl) (zcn (by exact rfl))
theorem b_X3_coach_6 (d : Nat) (y0 x1 : Int) (σ : zS) : zq d mX3_coach 6 [some (zR (some 36)), some (zI x1), none, none, none, none, none, none] [zI y0] σ = (if nrm y0 = 0 then (if zix x1 8 then zq d mX3_coach 41 [some (zR (some 36)), none, none, some (zI 0), some (zI 0), none, none, none] [] (zup (zup (zup σ 36 7 (100 * x1)) 36 8 ((zup σ 36 7 (100 * x1)) 49 (nrm x1).toNat)) 36 6 0) else none) else some (some (zI y0), σ)) := by
  refine Eq.trans (zY_step (by exact rfl) (by exact dX3_coach_6) (by exact rfl) (pc' := 7) (L' := [some (zR (some 36)), some (zI x1), some (zI y0), none, none, none, none, none]) (S' := []) (by exact rfl) (zcn (by exact rfl))) ?_
  refine Eq.trans (zY_step (by exact rfl) (by exact dX3_coach_7) (by exact rfl) (pc' := 8) (S' := [zI y0]) (by exact rfl) (zcn (by exact rfl))) ?_
  refine Eq.trans (zY_if_eq (by exact rfl) (by exact dX3_coach_8) (t := 13) (by exact rfl) (a2 := nrm y0) (by exact rfl) (zcn (by exact rfl)) (zcn (by exact rfl))) (zif ?_ ?_)
  · refine Eq.trans (zY_step (by exact rfl) (by exact dX3_coach_13) (by exact rfl) (pc' := 14) (S' := [zR (some 36)]) (by exact rfl) (zcn (by exact rfl))) ?_
    refine Eq.trans (zY_step (by exact rfl) (by exact dX3_coach_14) (by exact rfl) (pc' := 16) (S' := [zI 100, zR (some 36)]) (by exact rfl) (zcn (by exact rfl))) ?_
    refine Eq.trans (zY_step (by exact rfl) (by exact dX3_coach_16) (by exact rfl) (pc' := 17) (S' := [zI x1, zI 100, zR (some 36)]) (by exact rfl) (zcn (by exact rfl))) ?_
    refine Eq.trans (zY_step (by exact rfl) (by exact dX3_coach_17) (by exact rfl) (pc' := 18) (S' := [zI (100 * x1), zR (some 36)]) (by exact rfl) (zcn (by exact rfl))) ?_
    refine Eq.trans (zY_putI (by exact rfl) (by exact dX3_coach_18) (by exact rfl) (by exact rfl) (by exact rfl) (by exact fun h => absurd h (by decide)) (zcn (by exact rfl))) ?_
    refine Eq.trans (zY_step (by exact rfl) (by exact dX3_coach_21) (by exact rfl) (pc' := 22) (S' := [zR (some 36)]) (by exact rfl) (zcn (by exact rfl))) ?_
    refine Eq.trans (zY_step (by exact rfl) (by exact dX3_coach_22) (by exact rfl) (pc' := 23) (S' := [zR (some 36), zR (some 36)]) (by exact rfl) (zcn (by exact rfl))) ?_
    refine Eq.trans (zY_getR (by exact rfl) (by exact dX3_coach_23) (by exact rfl) (by exact rfl) (t := 49) (by exact rfl) (zcn (by exact rfl))) ?_
    refine Eq.trans (zY_step (by exact rfl) (by exact dX3_coach_26) (by exact rfl) (pc' := 27) (S' := [zI x1, zR (some 49), zR (some 36)]) (by exact rfl) (zcn (by exact rfl))) ?_
    refine Eq.trans (zY_iald (by exact rfl) (by exact dX3_coach_27) (by exact rfl) (by exact rfl) (zcn (by exact rfl))) (zif ?_ rfl)
    · refine Eq.trans (zY_putI (by exact rfl) (by exact dX3_coach_28) (by exact rfl) (by exact rfl) (by exact rfl) (by exact fun h => absurd h (by decide)) (zcn (by exact rfl))) ?_
      refine Eq.trans (zY_step (by exact rfl) (by exact dX3_coach_31) (by exact rfl) (pc' := 32) (S' := [zR (some 36)]) (by exact rfl) (zcn (by exact rfl))) ?_
      refine Eq.trans (zY_step (by exact rfl) (by exact dX3_coach_32) (by exact rfl) (pc' := 33) (S' := [zI 0, zR (some 36)]) (by exact rfl) (zcn (by exact rfl))) ?_
      refine Eq.trans (zY_putI (by exact rfl) (by exact dX3_coach_33) (by exact rfl) (by exact rfl) (by exact rfl) (by exact fun h => absurd h (by decide)) (zcn (by exact rfl))) ?_
      refine Eq.trans (zY_step (by exact rfl) (by exact dX3_coach_36) (by exact rfl) (pc' := 37) (S' := [zI 0]) (by exact rfl) (zcn (by exact rfl))) ?_
      refine Eq.trans (zY_step (by exact rfl) (by exact dX3_coach_37) (by exact rfl) (pc' := 38) (L' := [some (zR (some 36)), some (zI x1), some (zI y0), some (zI 0), none, none, none, none]) (S' := []) (by exact rfl) (zcn (by exact rfl))) ?_
      refine Eq.trans (zY_step (by exact rfl) (by exact dX3_coach_38) (by exact rfl) (pc' := 39) (S' := [zI 0]) (by exact rfl) (zcn (by exact rfl))) ?_
      exact zY_step (by exact rfl) (by exact dX3_coach_39) (by exact rfl) (pc' := 41) (L' := [some (zR (some 36)), some (zI x1), some (zI y0), some (zI 0), some (zI 0), none, none, none]) (S' := []) (L2 := [some (zR (some 36)), none, none, some (zI 0), some (zI 0), none, none, none]) (by exact rfl) (by exact rfl)
  · refine Eq.trans (zY_step (by exact rfl) (by exact dX3_coach_11) (by exact rfl) (pc' := 12) (S' := [zI y0]) (by exact rfl) (zcn (by exact rfl))) ?_
    exact zq_ret (by exact dX3_coach_12) (by exact rfl) (rv := some (zI y0)) (by exact rfl)
theorem b_X3_coach_41 (d : Nat) (x3 x4 : Int) (σ : zS) : zq (d + 1) mX3_coach 41 [some (zR (some 36)), none, none, some (zI x3), some (zI x4), none, none, none] [] σ = (zc d mX3_readsStatement [zR (some 36)] σ).bind fun r => zq (d + 1) mX3_coach 45 [some (zR (some 36)), none, none, some (zI x3), some (zI x4), none, none, none] (r.1.toList ++ []) r.2 := by
  refine Eq.trans (zY_step (by exact rfl) (by exact dX3_coach_41) (by exact rfl) (pc' := 42) (S' := [zR (some 36)]) (by exact rfl) (zcn (by exact rfl))) ?_
  exact zY_V (by exact rfl) (by exact dX3_coach_42) (by exact rfl) (as := []) (S' := []) (by exact rfl) (by exact rfl) (by exact rfl) (by exact Nat.le_of_ble_eq_true rfl) (by exact Nat.le_of_ble_eq_true rfl) (by exact Nat.le_of_ble_eq_true rfl) (zcn (by exact rfl))
theorem b_X3_coach_45 (d : Nat) (y0 x3 x4 : Int) (σ : zS) : zq d mX3_coach 45 [some (zR (some 36)), none, none, some (zI x3), some (zI x4), none, none, none] [zI y0] σ = (if ¬ nrm y0 = 0 then zq d mX3_coach 58 [some (zR (some 36)), none, none, some (zI x3), some (zI x4), none, none, none] [] σ else zq d mX3_coach 58 [some (zR (some 36)), none, none, some (zI x3), some (zI (((-1000)) - (σ 36 6))), none, none, none] [] σ) := by
  refine Eq.trans (zY_if_ne (by exact rfl) (by exact dX3_coach_45) (t := 58) (by exact rfl) (a2 := nrm y0) (by exact rfl) (zcn (by exact rfl)) (zcn (by exact rfl))) (zif ?_ ?_)
  · exact rfl
  · refine Eq.trans (zY_step (by exact rfl) (by exact dX3_coach_48) (by exact rfl) (pc' := 51) (S' := [zI ((-1000))]) (by exact rfl) (zcn (by exact rfl))) ?_
    refine Eq.trans (zY_step (by exact rfl) (by exact dX3_coach_51) (by exact rfl) (pc' := 52) (S' := [zR (some 36), zI ((-1000))]) (by exact rfl) (zcn (by exact rfl))) ?_
    refine Eq.trans (zY_getI (by exact rfl) (by exact dX3_coach_52) (by exact rfl) (by exact rfl) (by exact rfl) (zcn (by exact rfl))) ?_
    refine Eq.trans (zY_step (by exact rfl) (by exact dX3_coach_55) (by exact rfl) (pc' := 56) (S' := [zI (((-1000)) - (σ 36 6))]) (by exact rfl) (zcn (by exact rfl))) ?_
    exact zY_step (by exact rfl) (by exact dX3_coach_56) (by exact rfl) (pc' := 58) (L' := [some (zR (some 36)), none, none, some (zI x3), some (zI (((-1000)) - (σ 36 6))), none, none, none]) (S' := []) (by exact rfl) (zcn (by exact rfl))
theorem b_X3_coach_58 (d : Nat) (x3 x4 : Int) (σ : zS) : zq d mX3_coach 58 [some (zR (some 36)), none, none, some (zI x3), some (zI x4), none, none, none] [] σ = (if ¬ nrm x4 = 0 then zq d mX3_coach 77 [some (zR (some 36)), none, none, some (zI (x3 + 1)), some (zI x4), none, none, none] [] σ else (if nrm (σ 36 6) < nrm (σ 36 8) then zq d mX3_coach 41 [some (zR (some 36)), none, none, some (zI (x3 + 1)), some (zI x4), none, none, none] [] σ else zq d mX3_coach 77 [some (zR (some 36)), none, none, some (zI (x3 + 1)), some (zI x4), none, none, none] [] σ)) := by
  refine Eq.trans (zY_step (by exact rfl) (by exact dX3_coach_58) (by exact rfl) (pc' := 61) (L' := [some (zR (some 36)), none, none, some (zI (x3 + 1)), some (zI x4), none, none, none]) (S' := []) (by exact rfl) (zcn (by exact rfl))) ?_
  refine Eq.trans (zY_step (by exact rfl) (by exact dX3_coach_61) (by exact rfl) (pc' := 63) (S' := [zI x4]) (by exact rfl) (zcn (by exact rfl))) ?_
  refine Eq.trans (zY_if_ne (by exact rfl) (by exact dX3_coach_63) (t := 77) (by exact rfl) (a2 := nrm x4) (by exact rfl) (zcn (by exact rfl)) (zcn (by exact rfl))) (zif ?_ ?_)
  · exact rfl
  · refine Eq.trans (zY_step (by exact rfl) (by exact dX3_coach_66) (by exact rfl) (pc' := 67) (S' := [zR (some 36)]) (by exact rfl) (zcn (by exact rfl))) ?_
    refine Eq.trans (zY_getI (by exact rfl) (by exact dX3_coach_67) (by exact rfl) (by exact rfl) (by exact rfl) (zcn (by exact rfl))) ?_
    refine Eq.trans (zY_step (by exact rfl) (by exact dX3_coach_70) (by exact rfl) (pc' := 71) (S' := [zR (some 36), zI (σ 36 6)]) (by exact rfl) (zcn (by exact rfl))) ?_
    refine Eq.trans (zY_getI (by exact rfl) (by exact dX3_coach_71) (by exact rfl) (by exact rfl) (by exact rfl) (zcn (by exact rfl))) ?_
    refine Eq.trans (zY_ic_lt (by exact rfl) (by exact dX3_coach_74) (t := 41) (by exact rfl) (a2 := nrm (σ 36 6)) (b2 := nrm (σ 36 8)) (by exact rfl) (by exact rfl) (L1 := [some (zR (some 36)), none, none, some (zI (x3 + 1)), some (zI x4), none, none, none]) (by exact rfl) (zcn (by exact rfl))) (zif ?_ ?_)
    · exact rfl
    · exact rfl
theorem b_X3_coach_77 (d : Nat) (x3 x4 : Int) (σ : zS) : zq (d + 1) mX3_coach 77 [some (zR (some 36)), none, none, some (zI x3), some (zI x4), none, none, none] [] σ = (zc d mX3_copies [zR (some 37), zR (some 40)] σ).bind fun r => zq (d + 1) mX3_coach 88 [some (zR (some 36)), none, none, some (zI x3), some (zI x4), none, none, none] (r.1.toList ++ []) r.2 := by
  refine Eq.trans (zY_step (by exact rfl) (by exact dX3_coach_77) (by exact rfl) (pc' := 78) (S' := [zR (some 36)]) (by exact rfl) (zcn (by exact rfl))) ?_
  refine Eq.trans (zY_getR (by exact rfl) (by exact dX3_coach_78) (by exact rfl) (by exact rfl) (t := 37) (by exact rfl) (zcn (by exact rfl))) ?_
  refine Eq.trans (zY_step (by exact rfl) (by exact dX3_coach_81) (by exact rfl) (pc' := 82) (S' := [zR (some 36), zR (some 37)]) (by exact rfl) (zcn (by exact rfl))) ?_
  refine Eq.trans (zY_getR (by exact rfl) (by exact dX3_coach_82) (by exact rfl) (by exact rfl) (t := 40) (by exact rfl) (zcn (by exact rfl))) ?_
  exact zY_S (by exact rfl) (by exact dX3_coach_85) (by exact rfl) (by exact Or.inl rfl) (as := [zR (some 37), zR (some 40)]) (S' := []) (by exact rfl) (by exact rfl) (by exact Nat.le_of_ble_eq_true rfl) (by exact Nat.le_of_ble_eq_true rfl) (zcn (by exact rfl))
theorem b_X3_coach_88 (d : Nat) (x3 x4 : Int) (σ : zS) : zq d mX3_coach 88 [some (zR (some 36)), none, none, some (zI x3), some (zI x4), none, none, none] [] σ = zq d mX3_coach 93 [some (zR (some 36)), none, none, some (zI x3), some (zI x4), none, none, none] [] (zup σ 36 6 0) := by
  refine Eq.trans (zY_step (by exact rfl) (by exact dX3_coach_88) (by exact rfl) (pc' := 89) (S' := [zR (some 36)]) (by exact rfl) (zcn (by exact rfl))) ?_
  refine Eq.trans (zY_step (by exact rfl) (by exact dX3_coach_89) (by exact rfl) (pc' := 90) (S' := [zI 0, zR (some 36)]) (by exact rfl) (zcn (by exact rfl))) ?_
  exact zY_putI (by exact rfl) (by exact dX3_coach_90) (by exact rfl) (by exact rfl) (by exact rfl) (by exact fun h => absurd h (by decide)) (L2 := [some (zR (some 36)), none, none, some (zI x3), some (zI x4), none, none, none]) (by exact rfl)
theorem b_X3_coach_93 (d : Nat) (x3 x4 : Int) (σ : zS) : zq (d + 1) mX3_coach 93 [some (zR (some 36)), none, none, some (zI x3), some (zI x4), none, none, none] [] σ = (if ¬ nrm x4 = 0 then zq (d + 1) mX3_coach 161 [none, none, none, some (zI x3), some (zI x4), none, none, none] [] σ else (if nrm (σ 36 8) ≤ nrm (σ 36 6) then zq (d + 1) mX3_coach 161 [none, none, none, some (zI x3), some (zI x4), none, none, none] [] σ else (zc d mX3_here [zR (some 36)] σ).bind fun r => zq (d + 1) mX3_coach 119 [some (zR (some 36)), none, none, some (zI x3), some (zI x4), some (zI (σ 36 6)), none, none] (r.1.toList ++ []) r.2)) := by
  refine Eq.trans (zY_step (by exact rfl) (by exact dX3_coach_93) (by exact rfl) (pc' := 95) (S' := [zI x4]) (by exact rfl) (zcn (by exact rfl))) ?_
  refine Eq.trans (zY_if_ne (by exact rfl) (by exact dX3_coach_95) (t := 161) (by exact rfl) (a2 := nrm x4) (by exact rfl) (L1 := [none, none, none, some (zI x3), some (zI x4), none, none, none]) (by exact rfl) (zcn (by exact rfl))) (zif ?_ ?_)
  · exact rfl
  · refine Eq.trans (zY_step (by exact rfl) (by exact dX3_coach_98) (by exact rfl) (pc' := 99) (S' := [zR (some 36)]) (by exact rfl) (zcn (by exact rfl))) ?_
    refine Eq.trans (zY_getI (by exact rfl) (by exact dX3_coach_99) (by exact rfl) (by exact rfl) (by exact rfl) (zcn (by exact rfl))) ?_
    refine Eq.trans (zY_step (by exact rfl) (by exact dX3_coach_102) (by exact rfl) (pc' := 103) (S' := [zR (some 36), zI (σ 36 6)]) (by exact rfl) (zcn (by exact rfl))) ?_
    refine Eq.trans (zY_getI (by exact rfl) (by exact dX3_coach_103) (by exact rfl) (by exact rfl) (by exact rfl) (zcn (by exact rfl))) ?_
    refine Eq.trans (zY_ic_ge (by exact rfl) (by exact dX3_coach_106) (t := 161) (by exact rfl) (a2 := nrm (σ 36 6)) (b2 := nrm (σ 36 8)) (by exact rfl) (by exact rfl) (L1 := [none, none, none, some (zI x3), some (zI x4), none, none, none]) (by exact rfl) (zcn (by exact rfl))) (zif ?_ ?_)
    · exact rfl
    · refine Eq.trans (zY_step (by exact rfl) (by exact dX3_coach_109) (by exact rfl) (pc' := 110) (S' := [zR (some 36)]) (by exact rfl) (zcn (by exact rfl))) ?_
      refine Eq.trans (zY_getI (by exact rfl) (by exact dX3_coach_110) (by exact rfl) (by exact rfl) (by exact rfl) (zcn (by exact rfl))) ?_
      refine Eq.trans (zY_step (by exact rfl) (by exact dX3_coach_113) (by exact rfl) (pc' := 115) (L' := [some (zR (some 36)), none, none, some (zI x3), some (zI x4), some (zI (σ 36 6)), none, none]) (S' := []) (by exact rfl) (zcn (by exact rfl))) ?_
      refine Eq.trans (zY_step (by exact rfl) (by exact dX3_coach_115) (by exact rfl) (pc' := 116) (S' := [zR (some 36)]) (by exact rfl) (zcn (by exact rfl))) ?_
      exact zY_V (by exact rfl) (by exact dX3_coach_116) (by exact rfl) (as := []) (S' := []) (by exact rfl) (by exact rfl) (by exact rfl) (by exact Nat.le_of_ble_eq_true rfl) (by exact Nat.le_of_ble_eq_true rfl) (by exact Nat.le_of_ble_eq_true rfl) (zcn (by exact rfl))
theorem b_X3_coach_161 (d : Nat) (x3 x4 : Int) (σ : zS) : zq d mX3_coach 161 [none, none, none, some (zI x3), some (zI x4), none, none, none] [] σ = (if ¬ nrm x4 = 0 then some (some (zI x4), σ) else some (some (zI x3), σ)) := by
  refine Eq.trans (zY_step (by exact rfl) (by exact dX3_coach_161) (by exact rfl) (pc' := 163) (S' := [zI x4]) (by exact rfl) (zcn (by exact rfl))) ?_
  refine Eq.trans (zY_if_ne (by exact rfl) (by exact dX3_coach_163) (t := 170) (by exact rfl) (a2 := nrm x4) (by exact rfl) (zcn (by exact rfl)) (zcn (by exact rfl))) (zif ?_ ?_)
  · refine Eq.trans (zY_step (by exact rfl) (by exact dX3_coach_170) (by exact rfl) (pc' := 172) (S' := [zI x4]) (L2 := [none, none, none, none, none, none, none, none]) (by exact rfl) (by exact rfl)) ?_
    exact zq_ret (by exact dX3_coach_172) (by exact rfl) (rv := some (zI x4)) (by exact rfl)
  · refine Eq.trans (zY_step (by exact rfl) (by exact dX3_coach_166) (by exact rfl) (pc' := 167) (S' := [zI x3]) (by exact rfl) (zcn (by exact rfl))) ?_
    refine Eq.trans (zY_step (by exact rfl) (by exact dX3_coach_167) (by exact rfl) (pc' := 172) (S' := [zI x3]) (L2 := [none, none, none, none, none, none, none, none]) (by exact rfl) (by exact rfl)) ?_
    exact zq_ret (by exact dX3_coach_172) (by exact rfl) (rv := some (zI x3)) (by exact rfl)
theorem b_X3_coach_119 (d : Nat) (y0 x3 x4 x5 : Int) (σ : zS) : zq (d + 1) mX3_coach 119 [some (zR (some 36)), none, none, some (zI x3), some (zI x4), some (zI x5), none, none] [zI y0] σ = (zc d mX3_readsStatement [zR (some 36)] σ).bind fun r => zq (d + 1) mX3_coach 125 [some (zR (some 36)), none, none, some (zI x3), some (zI x4), some (zI x5), some (zI y0), none] (r.1.toList ++ []) r.2 := by
  refine Eq.trans (zY_step (by exact rfl) (by exact dX3_coach_119) (by exact rfl) (pc' := 121) (L' := [some (zR (some 36)), none, none, some (zI x3), some (zI x4), some (zI x5), some (zI y0), none]) (S' := []) (by exact rfl) (zcn (by exact rfl))) ?_
  refine Eq.trans (zY_step (by exact rfl) (by exact dX3_coach_121) (by exact rfl) (pc' := 122) (S' := [zR (some 36)]) (by exact rfl) (zcn (by exact rfl))) ?_
  exact zY_V (by exact rfl) (by exact dX3_coach_122) (by exact rfl) (as := []) (S' := []) (by exact rfl) (by exact rfl) (by exact rfl) (by exact Nat.le_of_ble_eq_true rfl) (by exact Nat.le_of_ble_eq_true rfl) (by exact Nat.le_of_ble_eq_true rfl) (zcn (by exact rfl))
theorem b_X3_coach_125 (d : Nat) (y0 x3 x4 x5 x6 : Int) (σ : zS) : zq (d + 1) mX3_coach 125 [some (zR (some 36)), none, none, some (zI x3), some (zI x4), some (zI x5), some (zI x6), none] [zI y0] σ = (zc d mX3_isDone [zR (some 36), zI x6] σ).bind fun r => zq (d + 1) mX3_coach 133 [some (zR (some 36)), none, none, some (zI x3), some (zI x4), some (zI x5), some (zI x6), some (zI y0)] (r.1.toList ++ []) r.2 := by
  refine Eq.trans (zY_step (by exact rfl) (by exact dX3_coach_125) (by exact rfl) (pc' := 127) (L' := [some (zR (some 36)), none, none, some (zI x3), some (zI x4), some (zI x5), some (zI x6), some (zI y0)]) (S' := []) (by exact rfl) (zcn (by exact rfl))) ?_
  refine Eq.trans (zY_step (by exact rfl) (by exact dX3_coach_127) (by exact rfl) (pc' := 128) (S' := [zR (some 36)]) (by exact rfl) (zcn (by exact rfl))) ?_
  refine Eq.trans (zY_step (by exact rfl) (by exact dX3_coach_128) (by exact rfl) (pc' := 130) (S' := [zI x6, zR (some 36)]) (by exact rfl) (zcn (by exact rfl))) ?_
  exact zY_V (by exact rfl) (by exact dX3_coach_130) (by exact rfl) (as := [zI x6]) (S' := []) (by exact rfl) (by exact rfl) (by exact rfl) (by exact Nat.le_of_ble_eq_true rfl) (by exact Nat.le_of_ble_eq_true rfl) (by exact Nat.le_of_ble_eq_true rfl) (zcn (by exact rfl))
theorem b_X3_coach_133 (d : Nat) (y0 x3 x4 x5 x6 x7 : Int) (σ : zS) : zq (d + 1) mX3_coach 133 [some (zR (some 36)), none, none, some (zI x3), some (zI x4), some (zI x5), some (zI x6), some (zI x7)] [zI y0] σ = (if nrm y0 = 0 then (zc d mX3_copies [zR (some 40), zR (some 37)] σ).bind fun r => zq (d + 1) mX3_coach 158 [some (zR (some 36)), none, none, some (zI x3), some (zI (((-2000)) - x5)), some (zI x5), some (zI x6), some (zI x7)] (r.1.toList ++ []) r.2 else zq (d + 1) mX3_coach 93 [some (zR (some 36)), none, none, some (zI x3), some (zI x4), none, none, none] [] σ) := by
  refine Eq.trans (zY_if_eq (by exact rfl) (by exact dX3_coach_133) (t := 139) (by exact rfl) (a2 := nrm y0) (by exact rfl) (zcn (by exact rfl)) (zcn (by exact rfl))) (zif ?_ ?_)
  · refine Eq.trans (zY_step (by exact rfl) (by exact dX3_coach_139) (by exact rfl) (pc' := 142) (S' := [zI ((-2000))]) (by exact rfl) (zcn (by exact rfl))) ?_
    refine Eq.trans (zY_step (by exact rfl) (by exact dX3_coach_142) (by exact rfl) (pc' := 144) (S' := [zI x5, zI ((-2000))]) (by exact rfl) (zcn (by exact rfl))) ?_
    refine Eq.trans (zY_step (by exact rfl) (by exact dX3_coach_144) (by exact rfl) (pc' := 145) (S' := [zI (((-2000)) - x5)]) (by exact rfl) (zcn (by exact rfl))) ?_
    refine Eq.trans (zY_step (by exact rfl) (by exact dX3_coach_145) (by exact rfl) (pc' := 147) (L' := [some (zR (some 36)), none, none, some (zI x3), some (zI (((-2000)) - x5)), some (zI x5), some (zI x6), some (zI x7)]) (S' := []) (by exact rfl) (zcn (by exact rfl))) ?_
    refine Eq.trans (zY_step (by exact rfl) (by exact dX3_coach_147) (by exact rfl) (pc' := 148) (S' := [zR (some 36)]) (by exact rfl) (zcn (by exact rfl))) ?_
    refine Eq.trans (zY_getR (by exact rfl) (by exact dX3_coach_148) (by exact rfl) (by exact rfl) (t := 40) (by exact rfl) (zcn (by exact rfl))) ?_
    refine Eq.trans (zY_step (by exact rfl) (by exact dX3_coach_151) (by exact rfl) (pc' := 152) (S' := [zR (some 36), zR (some 40)]) (by exact rfl) (zcn (by exact rfl))) ?_
    refine Eq.trans (zY_getR (by exact rfl) (by exact dX3_coach_152) (by exact rfl) (by exact rfl) (t := 37) (by exact rfl) (zcn (by exact rfl))) ?_
    exact zY_S (by exact rfl) (by exact dX3_coach_155) (by exact rfl) (by exact Or.inl rfl) (as := [zR (some 40), zR (some 37)]) (S' := []) (by exact rfl) (by exact rfl) (by exact Nat.le_of_ble_eq_true rfl) (by exact Nat.le_of_ble_eq_true rfl) (zcn (by exact rfl))
  · exact zY_step (by exact rfl) (by exact dX3_coach_136) (by exact rfl) (pc' := 93) (S' := []) (L2 := [some (zR (some 36)), none, none, some (zI x3), some (zI x4), none, none, none]) (by exact rfl) (by exact rfl)
theorem b_X3_coach_158 (d : Nat) (x3 x4 x5 x6 x7 : Int) (σ : zS) : zq d mX3_coach 158 [some (zR (some 36)), none, none, some (zI x3), some (zI x4), some (zI x5), some (zI x6), some (zI x7)] [] σ = zq d mX3_coach 93 [some (zR (some 36)), none, none, some (zI x3), some (zI x4), none, none, none] [] σ := by
  exact zY_step (by exact rfl) (by exact dX3_coach_158) (by exact rfl) (pc' := 93) (S' := []) (L2 := [some (zR (some 36)), none, none, some (zI x3), some (zI x4), none, none, none]) (by exact rfl) (by exact rfl)
theorem e_X3_seat (d : Nat) (x1 x2 : Int) (σ : zS) : zc (d + 1) mX3_seat [zR (some 36), zI x1, zI x2] σ = (zc d mX3_isRow [zR (some 36), zI x1] σ).bind fun r => zq (d + 1) mX3_seat 5 [some (zR (some 36)), some (zI x1), some (zI x2)] (r.1.toList ++ []) r.2 := by
  refine Eq.trans (zc_zq (L := [some (zR (some 36)), some (zI x1), some (zI x2)]) (by exact rfl)) ?_
  refine Eq.trans (zY_step (by exact rfl) (by exact dX3_seat_0) (by exact rfl) (pc' := 1) (S' := [zR (some 36)]) (by exact rfl) (zcn (by exact rfl))) ?_
  refine Eq.trans (zY_step (by exact rfl) (by exact dX3_seat_1) (by exact rfl) (pc' := 2) (S' := [zI x1, zR (some 36)]) (by exact rfl) (zcn (by exact rfl))) ?_
  exact zY_V (by exact rfl) (by exact dX3_seat_2) (by exact rfl) (as := [zI x1]) (S' := []) (by exact rfl) (by exact rfl) (by exact rfl) (by exact Nat.le_of_ble_eq_true rfl) (by exact Nat.le_of_ble_eq_true rfl) (by exact Nat.le_of_ble_eq_true rfl) (zcn (by exact rfl))
theorem b_X3_seat_5 (d : Nat) (y0 x1 x2 : Int) (σ : zS) : zq (d + 1) mX3_seat 5 [some (zR (some 36)), some (zI x1), some (zI x2)] [zI y0] σ = (if nrm y0 = 0 then some (some (zI ((-1))), σ) else (zc d mX3_isIn [zI x2, zI 0, zI 7] σ).bind fun r => zq (d + 1) mX3_seat 15 [some (zR (some 36)), some (zI x1), some (zI x2)] (r.1.toList ++ []) r.2) := by
  refine Eq.trans (zY_if_eq (by exact rfl) (by exact dX3_seat_5) (t := 18) (by exact rfl) (a2 := nrm y0) (by exact rfl) (L1 := [none, none, none]) (by exact rfl) (zcn (by exact rfl))) (zif ?_ ?_)
  · refine Eq.trans (zY_step (by exact rfl) (by exact dX3_seat_18) (by exact rfl) (pc' := 19) (S' := [zI ((-1))]) (by exact rfl) (zcn (by exact rfl))) ?_
    exact zq_ret (by exact dX3_seat_19) (by exact rfl) (rv := some (zI ((-1)))) (by exact rfl)
  · refine Eq.trans (zY_step (by exact rfl) (by exact dX3_seat_8) (by exact rfl) (pc' := 9) (S' := [zI x2]) (by exact rfl) (zcn (by exact rfl))) ?_
    refine Eq.trans (zY_step (by exact rfl) (by exact dX3_seat_9) (by exact rfl) (pc' := 10) (S' := [zI 0, zI x2]) (by exact rfl) (zcn (by exact rfl))) ?_
    refine Eq.trans (zY_step (by exact rfl) (by exact dX3_seat_10) (by exact rfl) (pc' := 12) (S' := [zI 7, zI 0, zI x2]) (by exact rfl) (zcn (by exact rfl))) ?_
    exact zY_S (by exact rfl) (by exact dX3_seat_12) (by exact rfl) (by exact Or.inl rfl) (as := [zI x2, zI 0, zI 7]) (S' := []) (by exact rfl) (by exact rfl) (by exact Nat.le_of_ble_eq_true rfl) (by exact Nat.le_of_ble_eq_true rfl) (zcn (by exact rfl))
theorem b_X3_seat_15 (d : Nat) (y0 x1 x2 : Int) (σ : zS) : zq (d + 1) mX3_seat 15 [some (zR (some 36)), some (zI x1), some (zI x2)] [zI y0] σ = (if ¬ nrm y0 = 0 then (if nrm x2 = 4 then (zc d mX3_can [zR (some 37), zI x1] σ).bind fun r => zq (d + 1) mX3_seat 60 [some (zR (some 36)), some (zI x1), some (zI x2)] (r.1.toList ++ []) r.2 else (if nrm x2 = 5 then (zc d mX3_of [zI x1, zI 0] σ).bind fun r => zq (d + 1) mX3_seat 70 [some (zR (some 36)), some (zI x1), some (zI x2)] (r.1.toList ++ [zR (some 37)]) r.2 else (if nrm x2 = 6 then (zc d mX3_worthOf [zR (some 37), zI x1] σ).bind fun r => zq (d + 1) mX3_seat 93 [some (zR (some 36)), some (zI x1), some (zI x2)] (r.1.toList ++ []) r.2 else (if nrm x2 = 7 then (zc d mX3_room [zR (some 37), zI x1] σ).bind fun r => zq (d + 1) mX3_seat 102 [some (zR (some 36)), some (zI x1), some (zI x2)] (r.1.toList ++ []) r.2 else (zc d mX3_of [zI x1, zI x2] σ).bind fun r => zq (d + 1) mX3_seat 112 [some (zR (some 36)), some (zI x1), some (zI x2)] (r.1.toList ++ [zR (some 37)]) r.2)))) else some (some (zI ((-1))), σ)) := by
  refine Eq.trans (zY_if_ne (by exact rfl) (by exact dX3_seat_15) (t := 20) (by exact rfl) (a2 := nrm y0) (by exact rfl) (L2 := [none, none, none]) (zcn (by exact rfl)) (by exact rfl)) (zif ?_ ?_)
  · refine Eq.trans (zY_step (by exact rfl) (by exact dX3_seat_20) (by exact rfl) (pc' := 21) (S' := [zI x2]) (by exact rfl) (zcn (by exact rfl))) ?_
    refine Eq.trans (zY_tsw (by exact rfl) (by exact dX3_seat_21) (by exact rfl) (dt := 103) (by exact rfl) (ts := [(4, 52), (5, 61), (6, 85), (7, 94)]) (by exact rfl)) ?_
    refine zif ?_ (zif ?_ (zif ?_ (zif ?_ (?_))))
    · refine Eq.trans (zY_at (L2 := [some (zR (some 36)), some (zI x1), some (zI x2)]) (zcn (by exact rfl))) ?_
      refine Eq.trans (zY_step (by exact rfl) (by exact dX3_seat_52) (by exact rfl) (pc' := 53) (S' := [zR (some 36)]) (by exact rfl) (zcn (by exact rfl))) ?_
      refine Eq.trans (zY_getR (by exact rfl) (by exact dX3_seat_53) (by exact rfl) (by exact rfl) (t := 37) (by exact rfl) (zcn (by exact rfl))) ?_
      refine Eq.trans (zY_step (by exact rfl) (by exact dX3_seat_56) (by exact rfl) (pc' := 57) (S' := [zI x1, zR (some 37)]) (by exact rfl) (zcn (by exact rfl))) ?_
      exact zY_S (by exact rfl) (by exact dX3_seat_57) (by exact rfl) (by exact Or.inl rfl) (as := [zR (some 37), zI x1]) (S' := []) (by exact rfl) (by exact rfl) (by exact Nat.le_of_ble_eq_true rfl) (by exact Nat.le_of_ble_eq_true rfl) (zcn (by exact rfl))
    · refine Eq.trans (zY_at (L2 := [some (zR (some 36)), some (zI x1), some (zI x2)]) (zcn (by exact rfl))) ?_
      refine Eq.trans (zY_step (by exact rfl) (by exact dX3_seat_61) (by exact rfl) (pc' := 62) (S' := [zR (some 36)]) (by exact rfl) (zcn (by exact rfl))) ?_
      refine Eq.trans (zY_getR (by exact rfl) (by exact dX3_seat_62) (by exact rfl) (by exact rfl) (t := 37) (by exact rfl) (zcn (by exact rfl))) ?_
      refine Eq.trans (zY_step (by exact rfl) (by exact dX3_seat_65) (by exact rfl) (pc' := 66) (S' := [zI x1, zR (some 37)]) (by exact rfl) (zcn (by exact rfl))) ?_
      refine Eq.trans (zY_step (by exact rfl) (by exact dX3_seat_66) (by exact rfl) (pc' := 67) (S' := [zI 0, zI x1, zR (some 37)]) (by exact rfl) (zcn (by exact rfl))) ?_
      exact zY_S (by exact rfl) (by exact dX3_seat_67) (by exact rfl) (by exact Or.inl rfl) (as := [zI x1, zI 0]) (S' := [zR (some 37)]) (by exact rfl) (by exact rfl) (by exact Nat.le_of_ble_eq_true rfl) (by exact Nat.le_of_ble_eq_true rfl) (zcn (by exact rfl))
    · refine Eq.trans (zY_at (L2 := [some (zR (some 36)), some (zI x1), some (zI x2)]) (zcn (by exact rfl))) ?_
      refine Eq.trans (zY_step (by exact rfl) (by exact dX3_seat_85) (by exact rfl) (pc' := 86) (S' := [zR (some 36)]) (by exact rfl) (zcn (by exact rfl))) ?_
      refine Eq.trans (zY_getR (by exact rfl) (by exact dX3_seat_86) (by exact rfl) (by exact rfl) (t := 37) (by exact rfl) (zcn (by exact rfl))) ?_
      refine Eq.trans (zY_step (by exact rfl) (by exact dX3_seat_89) (by exact rfl) (pc' := 90) (S' := [zI x1, zR (some 37)]) (by exact rfl) (zcn (by exact rfl))) ?_
      exact zY_S (by exact rfl) (by exact dX3_seat_90) (by exact rfl) (by exact Or.inl rfl) (as := [zR (some 37), zI x1]) (S' := []) (by exact rfl) (by exact rfl) (by exact Nat.le_of_ble_eq_true rfl) (by exact Nat.le_of_ble_eq_true rfl) (zcn (by exact rfl))
    · refine Eq.trans (zY_at (L2 := [some (zR (some 36)), some (zI x1), some (zI x2)]) (zcn (by exact rfl))) ?_
      refine Eq.trans (zY_step (by exact rfl) (by exact dX3_seat_94) (by exact rfl) (pc' := 95) (S' := [zR (some 36)]) (by exact rfl) (zcn (by exact rfl))) ?_
      refine Eq.trans (zY_getR (by exact rfl) (by exact dX3_seat_95) (by exact rfl) (by exact rfl) (t := 37) (by exact rfl) (zcn (by exact rfl))) ?_
      refine Eq.trans (zY_step (by exact rfl) (by exact dX3_seat_98) (by exact rfl) (pc' := 99) (S' := [zI x1, zR (some 37)]) (by exact rfl) (zcn (by exact rfl))) ?_
      exact zY_S (by exact rfl) (by exact dX3_seat_99) (by exact rfl) (by exact Or.inl rfl) (as := [zR (some 37), zI x1]) (S' := []) (by exact rfl) (by exact rfl) (by exact Nat.le_of_ble_eq_true rfl) (by exact Nat.le_of_ble_eq_true rfl) (zcn (by exact rfl))
    · refine Eq.trans (zY_at (L2 := [some (zR (some 36)), some (zI x1), some (zI x2)]) (zcn (by exact rfl))) ?_
      refine Eq.trans (zY_step (by exact rfl) (by exact dX3_seat_103) (by exact rfl) (pc' := 104) (S' := [zR (some 36)]) (by exact rfl) (zcn (by exact rfl))) ?_
      refine Eq.trans (zY_getR (by exact rfl) (by exact dX3_seat_104) (by exact rfl) (by exact rfl) (t := 37) (by exact rfl) (zcn (by exact rfl))) ?_
      refine Eq.trans (zY_step (by exact rfl) (by exact dX3_seat_107) (by exact rfl) (pc' := 108) (S' := [zI x1, zR (some 37)]) (by exact rfl) (zcn (by exact rfl))) ?_
      refine Eq.trans (zY_step (by exact rfl) (by exact dX3_seat_108) (by exact rfl) (pc' := 109) (S' := [zI x2, zI x1, zR (some 37)]) (by exact rfl) (zcn (by exact rfl))) ?_
      exact zY_S (by exact rfl) (by exact dX3_seat_109) (by exact rfl) (by exact Or.inl rfl) (as := [zI x1, zI x2]) (S' := [zR (some 37)]) (by exact rfl) (by exact rfl) (by exact Nat.le_of_ble_eq_true rfl) (by exact Nat.le_of_ble_eq_true rfl) (zcn (by exact rfl))
  · refine Eq.trans (zY_step (by exact rfl) (by exact dX3_seat_18) (by exact rfl) (pc' := 19) (S' := [zI ((-1))]) (by exact rfl) (zcn (by exact rfl))) ?_
    exact zq_ret (by exact dX3_seat_19) (by exact rfl) (rv := some (zI ((-1)))) (by exact rfl)
theorem b_X3_seat_112 (d : Nat) (y0 x1 x2 : Int) (σ : zS) : zq d mX3_seat 112 [some (zR (some 36)), some (zI x1), some (zI x2)] [zI y0, zR (some 37)] σ = (if zix y0 35 then some (some (zI (σ 37 (nrm y0).toNat)), σ) else none) := by
  refine Eq.trans (zY_iald (by exact rfl) (by exact dX3_seat_112) (by exact rfl) (by exact rfl) (zcn (by exact rfl))) (zif ?_ rfl)
  · exact zq_ret (by exact dX3_seat_113) (by exact rfl) (rv := some (zI (σ 37 (nrm y0).toNat))) (by exact rfl)
theorem b_X3_seat_60 (d : Nat) (y0 x1 x2 : Int) (σ : zS) : zq d mX3_seat 60 [some (zR (some 36)), some (zI x1), some (zI x2)] [zI y0] σ = some (some (zI y0), σ) := by
  exact zq_ret (by exact dX3_seat_60) (by exact rfl) (rv := some (zI y0)) (by exact rfl)
theorem b_X3_seat_70 (d : Nat) (y0 x1 x2 : Int) (σ : zS) : zq (d + 1) mX3_seat 70 [some (zR (some 36)), some (zI x1), some (zI x2)] [zI y0, zR (some 37)] σ = (if zix y0 35 then (zc d mX3_of [zI x1, zI 1] σ).bind fun r => zq (d + 1) mX3_seat 80 [some (zR (some 36)), some (zI x1), some (zI x2)] (r.1.toList ++ [zR (some 37), zI (σ 37 (nrm y0).toNat)]) r.2 else none) := by
  refine Eq.trans (zY_iald (by exact rfl) (by exact dX3_seat_70) (by exact rfl) (by exact rfl) (zcn (by exact rfl))) (zif ?_ rfl)
  · refine Eq.trans (zY_step (by exact rfl) (by exact dX3_seat_71) (by exact rfl) (pc' := 72) (S' := [zR (some 36), zI (σ 37 (nrm y0).toNat)]) (by exact rfl) (zcn (by exact rfl))) ?_
    refine Eq.trans (zY_getR (by exact rfl) (by exact dX3_seat_72) (by exact rfl) (by exact rfl) (t := 37) (by exact rfl) (zcn (by exact rfl))) ?_
    refine Eq.trans (zY_step (by exact rfl) (by exact dX3_seat_75) (by exact rfl) (pc' := 76) (S' := [zI x1, zR (some 37), zI (σ 37 (nrm y0).toNat)]) (by exact rfl) (zcn (by exact rfl))) ?_
    refine Eq.trans (zY_step (by exact rfl) (by exact dX3_seat_76) (by exact rfl) (pc' := 77) (S' := [zI 1, zI x1, zR (some 37), zI (σ 37 (nrm y0).toNat)]) (by exact rfl) (zcn (by exact rfl))) ?_
    exact zY_S (by exact rfl) (by exact dX3_seat_77) (by exact rfl) (by exact Or.inl rfl) (as := [zI x1, zI 1]) (S' := [zR (some 37), zI (σ 37 (nrm y0).toNat)]) (by exact rfl) (by exact rfl) (by exact Nat.le_of_ble_eq_true rfl) (by exact Nat.le_of_ble_eq_true rfl) (zcn (by exact rfl))
theorem b_X3_seat_93 (d : Nat) (y0 x1 x2 : Int) (σ : zS) : zq d mX3_seat 93 [some (zR (some 36)), some (zI x1), some (zI x2)] [zI y0] σ = some (some (zI y0), σ) := by
  exact zq_ret (by exact dX3_seat_93) (by exact rfl) (rv := some (zI y0)) (by exact rfl)
theorem b_X3_seat_102 (d : Nat) (y0 x1 x2 : Int) (σ : zS) : zq d mX3_seat 102 [some (zR (some 36)), some (zI x1), some (zI x2)] [zI y0] σ = some (some (zI y0), σ) := by
  exact zq_ret (by exact dX3_seat_102) (by exact rfl) (rv := some (zI y0)) (by exact rfl)
theorem b_X3_seat_80 (d : Nat) (y0 y2 x1 x2 : Int) (σ : zS) : zq (d + 1) mX3_seat 80 [some (zR (some 36)), some (zI x1), some (zI x2)] [zI y0, zR (some 37), zI y2] σ = (if zix y0 35 then (zc d mX3_knees [zI y2, zI (σ 37 (nrm y0).toNat)] σ).bind fun r => zq (d + 1) mX3_seat 84 [some (zR (some 36)), some (zI x1), some (zI x2)] (r.1.toList ++ []) r.2 else none) := by
  refine Eq.trans (zY_iald (by exact rfl) (by exact dX3_seat_80) (by exact rfl) (by exact rfl) (zcn (by exact rfl))) (zif ?_ rfl)
  · exact zY_S (by exact rfl) (by exact dX3_seat_81) (by exact rfl) (by exact Or.inl rfl) (as := [zI y2, zI (σ 37 (nrm y0).toNat)]) (S' := []) (by exact rfl) (by exact rfl) (by exact Nat.le_of_ble_eq_true rfl) (by exact Nat.le_of_ble_eq_true rfl) (zcn (by exact rfl))
theorem b_X3_seat_84 (d : Nat) (y0 x1 x2 : Int) (σ : zS) : zq d mX3_seat 84 [some (zR (some 36)), some (zI x1), some (zI x2)] [zI y0] σ = some (some (zI y0), σ) := by
  exact zq_ret (by exact dX3_seat_84) (by exact rfl) (rv := some (zI y0)) (by exact rfl)
theorem e_X3_comes (d : Nat) (x1 : Int) (σ : zS) : zc (d + 1) mX3_comes [zR (some 36), zI x1] σ = (zc d mX3_wrongKept [zR (some 36), zI x1] σ).bind fun r => zq (d + 1) mX3_comes 5 [some (zR (some 36)), some (zI x1), none] (r.1.toList ++ []) r.2 := by
  refine Eq.trans (zc_zq (L := [some (zR (some 36)), some (zI x1), none]) (by exact rfl)) ?_
  refine Eq.trans (zY_step (by exact rfl) (by exact dX3_comes_0) (by exact rfl) (pc' := 1) (S' := [zR (some 36)]) (by exact rfl) (zcn (by exact rfl))) ?_
  refine Eq.trans (zY_step (by exact rfl) (by exact dX3_comes_1) (by exact rfl) (pc' := 2) (S' := [zI x1, zR (some 36)]) (by exact rfl) (zcn (by exact rfl))) ?_
  exact zY_V (by exact rfl) (by exact dX3_comes_2) (by exact rfl) (as := [zI x1]) (S' := []) (by exact rfl) (by exact rfl) (by exact rfl) (by exact Nat.le_of_ble_eq_true rfl) (by exact Nat.le_of_ble_eq_true rfl) (by exact Nat.le_of_ble_eq_true rfl) (zcn (by exact rfl))
theorem b_X3_comes_5 (d : Nat) (y0 x1 : Int) (σ : zS) : zq (d + 1) mX3_comes 5 [some (zR (some 36)), some (zI x1), none] [zI y0] σ = (if nrm y0 = 0 then (if ¬ nrm (σ 37 0) = 8 then (if zix x1 8 then (if zix x1 8 then (zc d mX3_adds [zR (some 36), zI (σ 46 (nrm x1).toNat), zI (σ 47 (nrm x1).toNat)] σ).bind fun r => zq (d + 1) mX3_comes 42 [some (zR (some 36)), some (zI x1), some (zI y0)] (r.1.toList ++ []) r.2 else none) else none) else some (some (zI ((-2))), σ)) else some (some (zI y0), σ)) := by
  refine Eq.trans (zY_step (by exact rfl) (by exact dX3_comes_5) (by exact rfl) (pc' := 6) (L' := [some (zR (some 36)), some (zI x1), some (zI y0)]) (S' := []) (by exact rfl) (zcn (by exact rfl))) ?_
  refine Eq.trans (zY_step (by exact rfl) (by exact dX3_comes_6) (by exact rfl) (pc' := 7) (S' := [zI y0]) (by exact rfl) (zcn (by exact rfl))) ?_
  refine Eq.trans (zY_if_eq (by exact rfl) (by exact dX3_comes_7) (t := 12) (by exact rfl) (a2 := nrm y0) (by exact rfl) (zcn (by exact rfl)) (zcn (by exact rfl))) (zif ?_ ?_)
  · refine Eq.trans (zY_step (by exact rfl) (by exact dX3_comes_12) (by exact rfl) (pc' := 13) (S' := [zR (some 36)]) (by exact rfl) (zcn (by exact rfl))) ?_
    refine Eq.trans (zY_getR (by exact rfl) (by exact dX3_comes_13) (by exact rfl) (by exact rfl) (t := 37) (by exact rfl) (zcn (by exact rfl))) ?_
    refine Eq.trans (zY_step (by exact rfl) (by exact dX3_comes_16) (by exact rfl) (pc' := 17) (S' := [zI 0, zR (some 37)]) (by exact rfl) (zcn (by exact rfl))) ?_
    refine Eq.trans (zY_ialdc (by exact rfl) (by exact dX3_comes_17) (by exact rfl) (by exact rfl) (j := 0) (by decide) (by decide) (zcn (by exact rfl))) ?_
    refine Eq.trans (zY_step (by exact rfl) (by exact dX3_comes_18) (by exact rfl) (pc' := 20) (S' := [zI 8, zI (σ 37 0)]) (by exact rfl) (zcn (by exact rfl))) ?_
    refine Eq.trans (zY_ic_ne (by exact rfl) (by exact dX3_comes_20) (t := 26) (by exact rfl) (a2 := nrm (σ 37 0)) (b2 := 8) (by exact rfl) (by decide) (zcn (by exact rfl)) (zcn (by exact rfl))) (zif ?_ ?_)
    · refine Eq.trans (zY_step (by exact rfl) (by exact dX3_comes_26) (by exact rfl) (pc' := 27) (S' := [zR (some 36)]) (by exact rfl) (zcn (by exact rfl))) ?_
      refine Eq.trans (zY_step (by exact rfl) (by exact dX3_comes_27) (by exact rfl) (pc' := 28) (S' := [zR (some 36), zR (some 36)]) (by exact rfl) (zcn (by exact rfl))) ?_
      refine Eq.trans (zY_getR (by exact rfl) (by exact dX3_comes_28) (by exact rfl) (by exact rfl) (t := 46) (by exact rfl) (zcn (by exact rfl))) ?_
      refine Eq.trans (zY_step (by exact rfl) (by exact dX3_comes_31) (by exact rfl) (pc' := 32) (S' := [zI x1, zR (some 46), zR (some 36)]) (by exact rfl) (zcn (by exact rfl))) ?_
      refine Eq.trans (zY_iald (by exact rfl) (by exact dX3_comes_32) (by exact rfl) (by exact rfl) (zcn (by exact rfl))) (zif ?_ rfl)
      · refine Eq.trans (zY_step (by exact rfl) (by exact dX3_comes_33) (by exact rfl) (pc' := 34) (S' := [zR (some 36), zI (σ 46 (nrm x1).toNat), zR (some 36)]) (by exact rfl) (zcn (by exact rfl))) ?_
        refine Eq.trans (zY_getR (by exact rfl) (by exact dX3_comes_34) (by exact rfl) (by exact rfl) (t := 47) (by exact rfl) (zcn (by exact rfl))) ?_
        refine Eq.trans (zY_step (by exact rfl) (by exact dX3_comes_37) (by exact rfl) (pc' := 38) (S' := [zI x1, zR (some 47), zI (σ 46 (nrm x1).toNat), zR (some 36)]) (by exact rfl) (zcn (by exact rfl))) ?_
        refine Eq.trans (zY_iald (by exact rfl) (by exact dX3_comes_38) (by exact rfl) (by exact rfl) (zcn (by exact rfl))) (zif ?_ rfl)
        · exact zY_V (by exact rfl) (by exact dX3_comes_39) (by exact rfl) (as := [zI (σ 46 (nrm x1).toNat), zI (σ 47 (nrm x1).toNat)]) (S' := []) (by exact rfl) (by exact rfl) (by exact rfl) (by exact Nat.le_of_ble_eq_true rfl) (by exact Nat.le_of_ble_eq_true rfl) (by exact Nat.le_of_ble_eq_true rfl) (zcn (by exact rfl))
    · refine Eq.trans (zY_step (by exact rfl) (by exact dX3_comes_23) (by exact rfl) (pc' := 25) (S' := [zI ((-2))]) (by exact rfl) (zcn (by exact rfl))) ?_
      exact zq_ret (by exact dX3_comes_25) (by exact rfl) (rv := some (zI ((-2)))) (by exact rfl)
  · refine Eq.trans (zY_step (by exact rfl) (by exact dX3_comes_10) (by exact rfl) (pc' := 11) (S' := [zI y0]) (by exact rfl) (zcn (by exact rfl))) ?_
    exact zq_ret (by exact dX3_comes_11) (by exact rfl) (rv := some (zI y0)) (by exact rfl)
theorem b_X3_comes_42 (d : Nat) (x1 x2 : Int) (σ : zS) : zq d mX3_comes 42 [some (zR (some 36)), some (zI x1), some (zI x2)] [] σ = some (some (zI ((σ 37 0) - 1)), σ) := by
  refine Eq.trans (zY_step (by exact rfl) (by exact dX3_comes_42) (by exact rfl) (pc' := 43) (S' := [zR (some 36)]) (by exact rfl) (zcn (by exact rfl))) ?_
  refine Eq.trans (zY_getR (by exact rfl) (by exact dX3_comes_43) (by exact rfl) (by exact rfl) (t := 37) (by exact rfl) (zcn (by exact rfl))) ?_
  refine Eq.trans (zY_step (by exact rfl) (by exact dX3_comes_46) (by exact rfl) (pc' := 47) (S' := [zI 0, zR (some 37)]) (by exact rfl) (zcn (by exact rfl))) ?_
  refine Eq.trans (zY_ialdc (by exact rfl) (by exact dX3_comes_47) (by exact rfl) (by exact rfl) (j := 0) (by decide) (by decide) (zcn (by exact rfl))) ?_
  refine Eq.trans (zY_step (by exact rfl) (by exact dX3_comes_48) (by exact rfl) (pc' := 49) (S' := [zI 1, zI (σ 37 0)]) (by exact rfl) (zcn (by exact rfl))) ?_
  refine Eq.trans (zY_step (by exact rfl) (by exact dX3_comes_49) (by exact rfl) (pc' := 50) (S' := [zI ((σ 37 0) - 1)]) (by exact rfl) (zcn (by exact rfl))) ?_
  exact zq_ret (by exact dX3_comes_50) (by exact rfl) (rv := some (zI ((σ 37 0) - 1))) (by exact rfl)
theorem e_X3_tips (d : Nat) (x1 x2 : Int) (σ : zS) : zc (d + 1) mX3_tips [zR (some 36), zI x1, zI x2] σ = (zc d mX3_isRow [zR (some 36), zI x1] σ).bind fun r => zq (d + 1) mX3_tips 5 [some (zR (some 36)), some (zI x1), some (zI x2), none] (r.1.toList ++ []) r.2 := by
  refine Eq.trans (zc_zq (L := [some (zR (some 36)), some (zI x1), some (zI x2), none]) (by exact rfl)) ?_
  refine Eq.trans (zY_step (by exact rfl) (by exact dX3_tips_0) (by exact rfl) (pc' := 1) (S' := [zR (some 36)]) (by exact rfl) (zcn (by exact rfl))) ?_
  refine Eq.trans (zY_step (by exact rfl) (by exact dX3_tips_1) (by exact rfl) (pc' := 2) (S' := [zI x1, zR (some 36)]) (by exact rfl) (zcn (by exact rfl))) ?_
  exact zY_V (by exact rfl) (by exact dX3_tips_2) (by exact rfl) (as := [zI x1]) (S' := []) (by exact rfl) (by exact rfl) (by exact rfl) (by exact Nat.le_of_ble_eq_true rfl) (by exact Nat.le_of_ble_eq_true rfl) (by exact Nat.le_of_ble_eq_true rfl) (zcn (by exact rfl))
theorem b_X3_tips_5 (d : Nat) (y0 x1 x2 : Int) (σ : zS) : zq (d + 1) mX3_tips 5 [some (zR (some 36)), some (zI x1), some (zI x2), none] [zI y0] σ = (if nrm y0 = 0 then some (some (zI ((-1))), σ) else (zc d mX3_isIn [zI x2, zI 0, zI 10] σ).bind fun r => zq (d + 1) mX3_tips 15 [some (zR (some 36)), some (zI x1), some (zI x2), none] (r.1.toList ++ []) r.2) := by
  refine Eq.trans (zY_if_eq (by exact rfl) (by exact dX3_tips_5) (t := 18) (by exact rfl) (a2 := nrm y0) (by exact rfl) (L1 := [none, none, none, none]) (by exact rfl) (zcn (by exact rfl))) (zif ?_ ?_)
  · refine Eq.trans (zY_step (by exact rfl) (by exact dX3_tips_18) (by exact rfl) (pc' := 19) (S' := [zI ((-1))]) (by exact rfl) (zcn (by exact rfl))) ?_
    exact zq_ret (by exact dX3_tips_19) (by exact rfl) (rv := some (zI ((-1)))) (by exact rfl)
  · refine Eq.trans (zY_step (by exact rfl) (by exact dX3_tips_8) (by exact rfl) (pc' := 9) (S' := [zI x2]) (by exact rfl) (zcn (by exact rfl))) ?_
    refine Eq.trans (zY_step (by exact rfl) (by exact dX3_tips_9) (by exact rfl) (pc' := 10) (S' := [zI 0, zI x2]) (by exact rfl) (zcn (by exact rfl))) ?_
    refine Eq.trans (zY_step (by exact rfl) (by exact dX3_tips_10) (by exact rfl) (pc' := 12) (S' := [zI 10, zI 0, zI x2]) (by exact rfl) (zcn (by exact rfl))) ?_
    exact zY_S (by exact rfl) (by exact dX3_tips_12) (by exact rfl) (by exact Or.inl rfl) (as := [zI x2, zI 0, zI 10]) (S' := []) (by exact rfl) (by exact rfl) (by exact Nat.le_of_ble_eq_true rfl) (by exact Nat.le_of_ble_eq_true rfl) (zcn (by exact rfl))
theorem b_X3_tips_15 (d : Nat) (y0 x1 x2 : Int) (σ : zS) : zq (d + 1) mX3_tips 15 [some (zR (some 36)), some (zI x1), some (zI x2), none] [zI y0] σ = (if ¬ nrm y0 = 0 then (zc d mX3_can [zR (some 37), zI x1] σ).bind fun r => zq (d + 1) mX3_tips 29 [some (zR (some 36)), some (zI x1), some (zI x2), none] (r.1.toList ++ [zI x2]) r.2 else some (some (zI ((-1))), σ)) := by
  refine Eq.trans (zY_if_ne (by exact rfl) (by exact dX3_tips_15) (t := 20) (by exact rfl) (a2 := nrm y0) (by exact rfl) (L2 := [none, none, none, none]) (zcn (by exact rfl)) (by exact rfl)) (zif ?_ ?_)
  · refine Eq.trans (zY_step (by exact rfl) (by exact dX3_tips_20) (by exact rfl) (pc' := 21) (S' := [zI x2]) (by exact rfl) (zcn (by exact rfl))) ?_
    refine Eq.trans (zY_step (by exact rfl) (by exact dX3_tips_21) (by exact rfl) (pc' := 22) (S' := [zR (some 36), zI x2]) (by exact rfl) (zcn (by exact rfl))) ?_
    refine Eq.trans (zY_getR (by exact rfl) (by exact dX3_tips_22) (by exact rfl) (by exact rfl) (t := 37) (by exact rfl) (zcn (by exact rfl))) ?_
    refine Eq.trans (zY_step (by exact rfl) (by exact dX3_tips_25) (by exact rfl) (pc' := 26) (S' := [zI x1, zR (some 37), zI x2]) (by exact rfl) (zcn (by exact rfl))) ?_
    exact zY_S (by exact rfl) (by exact dX3_tips_26) (by exact rfl) (by exact Or.inl rfl) (as := [zR (some 37), zI x1]) (S' := [zI x2]) (by exact rfl) (by exact rfl) (by exact Nat.le_of_ble_eq_true rfl) (by exact Nat.le_of_ble_eq_true rfl) (zcn (by exact rfl))
  · refine Eq.trans (zY_step (by exact rfl) (by exact dX3_tips_18) (by exact rfl) (pc' := 19) (S' := [zI ((-1))]) (by exact rfl) (zcn (by exact rfl))) ?_
    exact zq_ret (by exact dX3_tips_19) (by exact rfl) (rv := some (zI ((-1)))) (by exact rfl)
theorem b_X3_tips_29 (d : Nat) (y0 y1 x1 x2 : Int) (σ : zS) : zq (d + 1) mX3_tips 29 [some (zR (some 36)), some (zI x1), some (zI x2), none] [zI y0, zI y1] σ = (if nrm y1 ≤ nrm y0 then (zc d mX3_of [zI x1, zI 2] σ).bind fun r => zq (d + 1) mX3_tips 44 [some (zR (some 36)), some (zI x1), some (zI x2), none] (r.1.toList ++ [zR (some 37)]) r.2 else some (some (zI ((-3))), σ)) := by
  refine Eq.trans (zY_ic_le (by exact rfl) (by exact dX3_tips_29) (t := 35) (by exact rfl) (a2 := nrm y1) (b2 := nrm y0) (by exact rfl) (by exact rfl) (zcn (by exact rfl)) (zcn (by exact rfl))) (zif ?_ ?_)
  · refine Eq.trans (zY_step (by exact rfl) (by exact dX3_tips_35) (by exact rfl) (pc' := 36) (S' := [zR (some 36)]) (by exact rfl) (zcn (by exact rfl))) ?_
    refine Eq.trans (zY_getR (by exact rfl) (by exact dX3_tips_36) (by exact rfl) (by exact rfl) (t := 37) (by exact rfl) (zcn (by exact rfl))) ?_
    refine Eq.trans (zY_step (by exact rfl) (by exact dX3_tips_39) (by exact rfl) (pc' := 40) (S' := [zI x1, zR (some 37)]) (by exact rfl) (zcn (by exact rfl))) ?_
    refine Eq.trans (zY_step (by exact rfl) (by exact dX3_tips_40) (by exact rfl) (pc' := 41) (S' := [zI 2, zI x1, zR (some 37)]) (by exact rfl) (zcn (by exact rfl))) ?_
    exact zY_S (by exact rfl) (by exact dX3_tips_41) (by exact rfl) (by exact Or.inl rfl) (as := [zI x1, zI 2]) (S' := [zR (some 37)]) (by exact rfl) (by exact rfl) (by exact Nat.le_of_ble_eq_true rfl) (by exact Nat.le_of_ble_eq_true rfl) (zcn (by exact rfl))
  · refine Eq.trans (zY_step (by exact rfl) (by exact dX3_tips_32) (by exact rfl) (pc' := 34) (S' := [zI ((-3))]) (by exact rfl) (zcn (by exact rfl))) ?_
    exact zq_ret (by exact dX3_tips_34) (by exact rfl) (rv := some (zI ((-3)))) (by exact rfl)
theorem b_X3_tips_44 (d : Nat) (y0 x1 x2 : Int) (σ : zS) : zq (d + 1) mX3_tips 44 [some (zR (some 36)), some (zI x1), some (zI x2), none] [zI y0, zR (some 37)] σ = (if zix y0 35 then (zc d mX3_of [zI x1, zI 2] σ).bind fun r => zq (d + 1) mX3_tips 55 [some (zR (some 36)), some (zI x1), some (zI x2), some (zI (σ 37 (nrm y0).toNat))] (r.1.toList ++ [zR (some 37)]) r.2 else none) := by
  refine Eq.trans (zY_iald (by exact rfl) (by exact dX3_tips_44) (by exact rfl) (by exact rfl) (zcn (by exact rfl))) (zif ?_ rfl)
  · refine Eq.trans (zY_step (by exact rfl) (by exact dX3_tips_45) (by exact rfl) (pc' := 46) (L' := [some (zR (some 36)), some (zI x1), some (zI x2), some (zI (σ 37 (nrm y0).toNat))]) (S' := []) (by exact rfl) (zcn (by exact rfl))) ?_
    refine Eq.trans (zY_step (by exact rfl) (by exact dX3_tips_46) (by exact rfl) (pc' := 47) (S' := [zR (some 36)]) (by exact rfl) (zcn (by exact rfl))) ?_
    refine Eq.trans (zY_getR (by exact rfl) (by exact dX3_tips_47) (by exact rfl) (by exact rfl) (t := 37) (by exact rfl) (zcn (by exact rfl))) ?_
    refine Eq.trans (zY_step (by exact rfl) (by exact dX3_tips_50) (by exact rfl) (pc' := 51) (S' := [zI x1, zR (some 37)]) (by exact rfl) (zcn (by exact rfl))) ?_
    refine Eq.trans (zY_step (by exact rfl) (by exact dX3_tips_51) (by exact rfl) (pc' := 52) (S' := [zI 2, zI x1, zR (some 37)]) (by exact rfl) (zcn (by exact rfl))) ?_
    exact zY_S (by exact rfl) (by exact dX3_tips_52) (by exact rfl) (by exact Or.inl rfl) (as := [zI x1, zI 2]) (S' := [zR (some 37)]) (by exact rfl) (by exact rfl) (by exact Nat.le_of_ble_eq_true rfl) (by exact Nat.le_of_ble_eq_true rfl) (zcn (by exact rfl))
theorem b_X3_tips_55 (d : Nat) (y0 x1 x2 x3 : Int) (σ : zS) : zq d mX3_tips 55 [some (zR (some 36)), some (zI x1), some (zI x2), some (zI x3)] [zI y0, zR (some 37)] σ = (if zix y0 35 then some (some (zI x3), zup σ 37 (nrm y0).toNat x2) else none) := by
  refine Eq.trans (zY_step (by exact rfl) (by exact dX3_tips_55) (by exact rfl) (pc' := 56) (S' := [zI x2, zI y0, zR (some 37)]) (by exact rfl) (zcn (by exact rfl))) ?_
  refine Eq.trans (zY_iast (by exact rfl) (by exact dX3_tips_56) (by exact rfl) (by exact rfl) (zcn (by exact rfl))) (zif ?_ rfl)
  · refine Eq.trans (zY_step (by exact rfl) (by exact dX3_tips_57) (by exact rfl) (pc' := 58) (S' := [zI x3]) (by exact rfl) (zcn (by exact rfl))) ?_
    exact zq_ret (by exact dX3_tips_58) (by exact rfl) (rv := some (zI x3)) (by exact rfl)
theorem e_X3_blocks (d : Nat) (x1 : Int) (σ : zS) : zc (d + 1) mX3_blocks [zR (some 36), zI x1] σ = (zc d mX3_isRow [zR (some 36), zI x1] σ).bind fun r => zq (d + 1) mX3_blocks 5 [some (zR (some 36)), some (zI x1)] (r.1.toList ++ []) r.2 := by
  refine Eq.trans (zc_zq (L := [some (zR (some 36)), some (zI x1)]) (by exact rfl)) ?_
  refine Eq.trans (zY_step (by exact rfl) (by exact dX3_blocks_0) (by exact rfl) (pc' := 1) (S' := [zR (some 36)]) (by exact rfl) (zcn (by exact rfl))) ?_
  refine Eq.trans (zY_step (by exact rfl) (by exact dX3_blocks_1) (by exact rfl) (pc' := 2) (S' := [zI x1, zR (some 36)]) (by exact rfl) (zcn (by exact rfl))) ?_
  exact zY_V (by exact rfl) (by exact dX3_blocks_2) (by exact rfl) (as := [zI x1]) (S' := []) (by exact rfl) (by exact rfl) (by exact rfl) (by exact Nat.le_of_ble_eq_true rfl) (by exact Nat.le_of_ble_eq_true rfl) (by exact Nat.le_of_ble_eq_true rfl) (zcn (by exact rfl))
theorem b_X3_blocks_5 (d : Nat) (y0 x1 : Int) (σ : zS) : zq (d + 1) mX3_blocks 5 [some (zR (some 36)), some (zI x1)] [zI y0] σ = (if ¬ nrm y0 = 0 then (zc d mX3_turnsBlock [zR (some 36), zI x1] σ).bind fun r => zq (d + 1) mX3_blocks 15 [some (zR (some 36)), some (zI x1)] (r.1.toList ++ []) r.2 else some (some (zI ((-1))), σ)) := by
  refine Eq.trans (zY_if_ne (by exact rfl) (by exact dX3_blocks_5) (t := 10) (by exact rfl) (a2 := nrm y0) (by exact rfl) (zcn (by exact rfl)) (zcn (by exact rfl))) (zif ?_ ?_)
  · refine Eq.trans (zY_step (by exact rfl) (by exact dX3_blocks_10) (by exact rfl) (pc' := 11) (S' := [zR (some 36)]) (by exact rfl) (zcn (by exact rfl))) ?_
    refine Eq.trans (zY_step (by exact rfl) (by exact dX3_blocks_11) (by exact rfl) (pc' := 12) (S' := [zI x1, zR (some 36)]) (by exact rfl) (zcn (by exact rfl))) ?_
    exact zY_V (by exact rfl) (by exact dX3_blocks_12) (by exact rfl) (as := [zI x1]) (S' := []) (by exact rfl) (by exact rfl) (by exact rfl) (by exact Nat.le_of_ble_eq_true rfl) (by exact Nat.le_of_ble_eq_true rfl) (by exact Nat.le_of_ble_eq_true rfl) (zcn (by exact rfl))
  · refine Eq.trans (zY_step (by exact rfl) (by exact dX3_blocks_8) (by exact rfl) (pc' := 9) (S' := [zI ((-1))]) (by exact rfl) (zcn (by exact rfl))) ?_
    exact zq_ret (by exact dX3_blocks_9) (by exact rfl) (rv := some (zI ((-1)))) (by exact rfl)
theorem b_X3_blocks_15 (d : Nat) (x1 : Int) (σ : zS) : zq (d + 1) mX3_blocks 15 [some (zR (some 36)), some (zI x1)] [] σ = (zc d mX3_of [zI x1, zI 3] σ).bind fun r => zq (d + 1) mX3_blocks 24 [some (zR (some 36)), some (zI x1)] (r.1.toList ++ [zR (some 37)]) r.2 := by
  refine Eq.trans (zY_step (by exact rfl) (by exact dX3_blocks_15) (by exact rfl) (pc' := 16) (S' := [zR (some 36)]) (by exact rfl) (zcn (by exact rfl))) ?_
  refine Eq.trans (zY_getR (by exact rfl) (by exact dX3_blocks_16) (by exact rfl) (by exact rfl) (t := 37) (by exact rfl) (zcn (by exact rfl))) ?_
  refine Eq.trans (zY_step (by exact rfl) (by exact dX3_blocks_19) (by exact rfl) (pc' := 20) (S' := [zI x1, zR (some 37)]) (by exact rfl) (zcn (by exact rfl))) ?_
  refine Eq.trans (zY_step (by exact rfl) (by exact dX3_blocks_20) (by exact rfl) (pc' := 21) (S' := [zI 3, zI x1, zR (some 37)]) (by exact rfl) (zcn (by exact rfl))) ?_
  exact zY_S (by exact rfl) (by exact dX3_blocks_21) (by exact rfl) (by exact Or.inl rfl) (as := [zI x1, zI 3]) (S' := [zR (some 37)]) (by exact rfl) (by exact rfl) (by exact Nat.le_of_ble_eq_true rfl) (by exact Nat.le_of_ble_eq_true rfl) (zcn (by exact rfl))
theorem b_X3_blocks_24 (d : Nat) (y0 x1 : Int) (σ : zS) : zq d mX3_blocks 24 [some (zR (some 36)), some (zI x1)] [zI y0, zR (some 37)] σ = (if zix y0 35 then some (some (zI (σ 37 (nrm y0).toNat)), σ) else none) := by
  refine Eq.trans (zY_iald (by exact rfl) (by exact dX3_blocks_24) (by exact rfl) (by exact rfl) (zcn (by exact rfl))) (zif ?_ rfl)
  · exact zq_ret (by exact dX3_blocks_25) (by exact rfl) (rv := some (zI (σ 37 (nrm y0).toNat))) (by exact rfl)
