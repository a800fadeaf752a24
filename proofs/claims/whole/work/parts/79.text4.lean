section SYS34
variable {σ : zS} {K : zK} {T : Int}
/-- one statement on the reference's coach -/
theorem r_isDone (d : Nat) (hA : AbsM σ 37 K) (hO : mOk K) (hT : σ 37 2 = T) (hTr : 0 ≤ T ∧ T ≤ 999) {b : Nat → Int} {a : Nat} (hf : mwf b a) (hN : mnb b a σ) : (∃ K' T' σ', mexe b a K T = some (K', T') ∧ zc (d + 5) mX3_isDone [zR (some 36), zI (b a)] σ = some (some (zI 1), σ') ∧ AbsM σ' 37 K' ∧ σ' 37 2 = T' ∧ zFr [37, 41] σ σ') ∨ (mexe b a K T = none ∧ ∃ σ', zc (d + 5) mX3_isDone [zR (some 36), zI (b a)] σ = some (some (zI 0), σ') ∧ zFr [37, 41] σ σ') := by
  have hp := hO.1
  have hdg := mwf_dig hf
  have h37 := hA.1
  rcases mnd_case hf.1 with hL | hL | hL | hL | hL | hL
  · have em : mnd (b a) = 1 := by rw [hL]; rfl
    rw [em] at hdg
    obtain ⟨e1, l1⟩ := mD_is (hdg (a + 1) (by omega) (by show a + 1 < a + 1 + 1; omega))
    have n0 : σ 42 0 = (mD b (a + 1) : Int) := by rw [hN.1 hL, ← e1]; show 10 * 0 + b (a + 1) - 48 = _; omega
    have ex : mexe b a K T = if mD b (a + 1) < K.1 then some (if K.2.2.2.2.2 (mD b (a + 1)) = 1 then mfree K (mD b (a + 1)) else mblk K ((2 ^ mD b (a + 1) : Nat) : Int), T) else none := if_pos hL
    rw [hL]
    clear hN hdg e1
    generalize mD b (a + 1) = r at n0 ex l1
    by_cases c : r < K.1
    · rw [if_pos c] at ex
      have hr := r_isRowY (d + 3) hA hO c
      have hb := hO.2.2.2.2.2 r (by omega)
      have f5 := hA.2.2.2.2.2 r (by omega)
      rcases hb.1 with e | e
      · rw [if_neg (by omega)] at ex
        have h1 := AbsM_tip (AbsM_blk hA (r := r) (v := 1)) (r := r) (v := 0)
        refine Or.inl ⟨_, _, zup (zup σ 37 (6 + 4 * r) 1) 37 (5 + 4 * r) 0, ex, ?_, AbsM_eq h1 ⟨rfl, rfl, fun _ _ => rfl, fun _ _ => rfl, fun j hj => ?_, fun j hj => ?_⟩, ?_, zFr_tr (zFr_up (by simp)) (zFr_up (by simp))⟩
        · rw [e_X3_isDone]
          simp (disch := omega) only [nrm_id, zix, ↓reduceIte, if_true, if_false, true_and, and_true, false_and, and_false, not_true_eq_false, not_false_eq_true, Int.reduceAdd, Int.reduceSub, Int.reduceMul, ↓if_pos, ↓if_neg, Option.bind_some, Option.toList_some, Option.toList_none, List.append_nil, List.cons_append, List.nil_append, znat, znat1, zpm1, zcm1, zof0, zof1, zof2, zof3, zofa0, zofa1, n0, hr, b_X3_isDone_131, e_X3_turnsBlock, r_of, b_X3_turnsBlock_10, f5, e, b_X3_turnsBlock_22, b_X3_turnsBlock_38, b_X3_isDone_141]
        · show (if j = r then 0 else K.2.2.2.2.1 j) = if mbit ((2 ^ r : Nat) : Int) j = 1 then 0 else K.2.2.2.2.1 j
          rw [mbit_pow]
          by_cases ej : j = r
          · subst ej; simp
          · rw [if_neg ej, if_neg (by rw [if_neg (Ne.symm ej)]; decide)]
        · show (if j = r then 1 else K.2.2.2.2.2 j) = if mbit ((2 ^ r : Nat) : Int) j = 1 then 1 else K.2.2.2.2.2 j
          rw [mbit_pow]
          by_cases ej : j = r
          · subst ej; simp
          · rw [if_neg ej, if_neg (by rw [if_neg (Ne.symm ej)]; decide)]
        · rw [zup_ix (by omega), zup_ix (by omega)]; exact hT
      · rw [if_pos e] at ex
        refine Or.inl ⟨_, _, zup σ 37 (6 + 4 * r) 0, ex, ?_, AbsM_blk hA, by rw [zup_ix (by omega)]; exact hT, zFr_up (by simp)⟩
        rw [e_X3_isDone]
        simp (disch := omega) only [nrm_id, zix, ↓reduceIte, if_true, if_false, true_and, and_true, false_and, and_false, not_true_eq_false, not_false_eq_true, Int.reduceAdd, Int.reduceSub, Int.reduceMul, ↓if_pos, ↓if_neg, Option.bind_some, Option.toList_some, Option.toList_none, List.append_nil, List.cons_append, List.nil_append, znat, znat1, zpm1, zcm1, zof0, zof1, zof2, zof3, zofa0, zofa1, n0, hr, b_X3_isDone_131, e_X3_turnsBlock, r_of, b_X3_turnsBlock_10, f5, e, b_X3_turnsBlock_22, b_X3_isDone_141]
    · rw [if_neg c] at ex
      have hr := r_isRowN (d + 3) hA hO (x := (r : Int)) ⟨by omega, by omega⟩ (by omega)
      refine Or.inr ⟨ex, σ, ?_, zFr_rf _ _⟩
      rw [e_X3_isDone]
      simp (disch := omega) only [nrm_id, zix, ↓reduceIte, if_true, if_false, true_and, and_true, false_and, and_false, not_true_eq_false, not_false_eq_true, Int.reduceAdd, Int.reduceSub, Int.reduceMul, ↓if_pos, ↓if_neg, Option.bind_some, Option.toList_some, Option.toList_none, List.append_nil, List.cons_append, List.nil_append, znat, znat1, zpm1, zcm1, zof0, zof1, zof2, zof3, zofa0, zofa1, n0, hr, b_X3_isDone_131]
  · have em : mnd (b a) = 2 := by rw [hL]; rfl
    rw [em] at hdg
    obtain ⟨e1, l1⟩ := mD_is (hdg (a + 1) (by omega) (by show a + 1 < a + 1 + 2; omega))
    obtain ⟨e2, l2⟩ := mD_is (hdg (a + 2) (by omega) (by show a + 2 < a + 1 + 2; omega))
    have n0 : σ 42 0 = ((10 * mD b (a + 1) + mD b (a + 2) : Nat) : Int) := by
      rw [hN.2.1 (Or.inl hL)]
      show 10 * (10 * 0 + b (a + 1) - 48) + b (a + 2) - 48 = _
      omega
    have ex : mexe b a K T = if 10 * mD b (a + 1) + mD b (a + 2) ≤ 23 then some ((K.1, ((10 * mD b (a + 1) + mD b (a + 2) : Nat) : Int), K.2.2), T) else none := by
      unfold mexe
      rw [hL]
      rfl
    have l3 : 10 * mD b (a + 1) + mD b (a + 2) ≤ 99 := by omega
    rw [hL]
    clear hN hdg e1 e2 l1 l2
    generalize 10 * mD b (a + 1) + mD b (a + 2) = r at n0 ex l3
    by_cases c : r ≤ 23
    · rw [if_pos c] at ex
      refine Or.inl ⟨_, _, zup σ 37 1 (r : Int), ex, ?_, AbsM_clock hA _, by rw [zup_ix (by decide)]; exact hT, zFr_up (by simp)⟩
      rw [e_X3_isDone]
      simp (disch := omega) only [nrm_id, zix, ↓reduceIte, if_true, if_false, true_and, and_true, false_and, and_false, not_true_eq_false, not_false_eq_true, Int.reduceAdd, Int.reduceSub, Int.reduceMul, ↓if_pos, ↓if_neg, Option.bind_some, Option.toList_some, Option.toList_none, List.append_nil, List.cons_append, List.nil_append, znat, znat1, zpm1, zcm1, zof0, zof1, zof2, zof3, zofa0, zofa1, n0]
    · rw [if_neg c] at ex
      refine Or.inr ⟨ex, zup σ 37 1 (r : Int), ?_, zFr_up (by simp)⟩
      rw [e_X3_isDone]
      simp (disch := omega) only [nrm_id, zix, ↓reduceIte, if_true, if_false, true_and, and_true, false_and, and_false, not_true_eq_false, not_false_eq_true, Int.reduceAdd, Int.reduceSub, Int.reduceMul, ↓if_pos, ↓if_neg, Option.bind_some, Option.toList_some, Option.toList_none, List.append_nil, List.cons_append, List.nil_append, znat, znat1, zpm1, zcm1, zof0, zof1, zof2, zof3, zofa0, zofa1, n0]
  · have em : mnd (b a) = 2 := by rw [hL]; rfl
    rw [em] at hdg
    obtain ⟨e1, l1⟩ := mD_is (hdg (a + 1) (by omega) (by show a + 1 < a + 1 + 2; omega))
    obtain ⟨e2, l2⟩ := mD_is (hdg (a + 2) (by omega) (by show a + 2 < a + 1 + 2; omega))
    obtain ⟨m0, m1⟩ := hN.2.2.1 (Or.inl hL)
    have n0 : σ 42 0 = (mD b (a + 1) : Int) := by rw [m0, ← e1]; show 10 * 0 + b (a + 1) - 48 = _; omega
    have n1 : σ 42 1 = (mD b (a + 2) : Int) := by rw [m1, ← e2]; show 10 * 0 + b (a + 2) - 48 = _; omega
    have ex : mexe b a K T = if K.1 < 8 ∧ mD b (a + 1) ≤ 7 then some (madd K (mD b (a + 1)) (mD b (a + 2)), T) else none := by
      unfold mexe
      rw [hL]
      rfl
    rw [hL]
    clear hN hdg e1 e2 m0 m1
    generalize mD b (a + 1) = r at n0 ex l1
    generalize mD b (a + 2) = s at n1 ex l2
    by_cases c : K.1 < 8 ∧ r ≤ 7
    · rw [if_pos c] at ex
      obtain ⟨σ', k1, k2, k3, k4⟩ := r_adds (d + 3) hA hO c.1 (r : Int) (s : Int)
      refine Or.inl ⟨_, _, σ', ex, ?_, k2, by rw [k3]; exact hT, zFr_mono k4 (by simp)⟩
      rw [e_X3_isDone]
      simp (disch := omega) only [nrm_id, zix, ↓reduceIte, if_true, if_false, true_and, and_true, false_and, and_false, not_true_eq_false, not_false_eq_true, Int.reduceAdd, Int.reduceSub, Int.reduceMul, ↓if_pos, ↓if_neg, Option.bind_some, Option.toList_some, Option.toList_none, List.append_nil, List.cons_append, List.nil_append, znat, znat1, zpm1, zcm1, zof0, zof1, zof2, zof3, zofa0, zofa1, n0, n1, h37, k1, b_X3_isDone_89]
    · rw [if_neg c] at ex
      refine Or.inr ⟨ex, σ, ?_, zFr_rf _ _⟩
      rw [e_X3_isDone]
      by_cases c2 : 8 ≤ r
      · clear c
        simp (disch := omega) only [nrm_id, zix, ↓reduceIte, if_true, if_false, true_and, and_true, false_and, and_false, not_true_eq_false, not_false_eq_true, Int.reduceAdd, Int.reduceSub, Int.reduceMul, ↓if_pos, ↓if_neg, Option.bind_some, Option.toList_some, Option.toList_none, List.append_nil, List.cons_append, List.nil_append, znat, znat1, zpm1, zcm1, zof0, zof1, zof2, zof3, zofa0, zofa1, n0, n1, h37]
      · have c3 : K.1 = 8 := by omega
        rw [c3] at h37
        clear c
        simp (disch := omega) only [nrm_id, zix, ↓reduceIte, if_true, if_false, true_and, and_true, false_and, and_false, not_true_eq_false, not_false_eq_true, Int.reduceAdd, Int.reduceSub, Int.reduceMul, ↓if_pos, ↓if_neg, Option.bind_some, Option.toList_some, Option.toList_none, List.append_nil, List.cons_append, List.nil_append, znat, znat1, zpm1, zcm1, zof0, zof1, zof2, zof3, zofa0, zofa1, n0, n1, h37]
  · have em : mnd (b a) = 2 := by rw [hL]; rfl
    rw [em] at hdg
    obtain ⟨e1, l1⟩ := mD_is (hdg (a + 1) (by omega) (by show a + 1 < a + 1 + 2; omega))
    obtain ⟨e2, l2⟩ := mD_is (hdg (a + 2) (by omega) (by show a + 2 < a + 1 + 2; omega))
    have n0 : σ 42 0 = ((10 * mD b (a + 1) + mD b (a + 2) : Nat) : Int) := by
      rw [hN.2.1 (Or.inr hL)]
      show 10 * (10 * 0 + b (a + 1) - 48) + b (a + 2) - 48 = _
      omega
    have ex : mexe b a K T = if (1 ≤ 10 * mD b (a + 1) + mD b (a + 2) ∧ 10 * mD b (a + 1) + mD b (a + 2) ≤ 60) ∧ T + ((10 * mD b (a + 1) + mD b (a + 2) : Nat) : Int) ≤ 999 then some (mrounds (10 * mD b (a + 1) + mD b (a + 2)) K, T + ((10 * mD b (a + 1) + mD b (a + 2) : Nat) : Int)) else none := by
      unfold mexe
      rw [hL]
      rfl
    have l3 : 10 * mD b (a + 1) + mD b (a + 2) ≤ 99 := by omega
    rw [hL]
    clear hN hdg e1 e2 l1 l2
    generalize 10 * mD b (a + 1) + mD b (a + 2) = r at n0 ex l3
    have hin := r_isIn (d + 4) σ (x := (r : Int)) (l := 1) (m := 60) ⟨by omega, by omega⟩ ⟨by omega, by omega⟩ ⟨by omega, by omega⟩
    by_cases c : (1 ≤ r ∧ r ≤ 60) ∧ T + (r : Int) ≤ 999
    · rw [if_pos c] at ex
      rw [if_pos (by omega)] at hin
      obtain ⟨σ', k1, k2, k3, k4⟩ := r_roundsOn (d + 1) zAr37 hA hO (n := r) (by omega)
      refine Or.inl ⟨_, _, σ', ex, ?_, k2, by rw [k3, hT], k4⟩
      rw [e_X3_isDone]
      simp (disch := omega) only [nrm_id, zix, ↓reduceIte, if_true, if_false, true_and, and_true, false_and, and_false, not_true_eq_false, not_false_eq_true, Int.reduceAdd, Int.reduceSub, Int.reduceMul, ↓if_pos, ↓if_neg, Option.bind_some, Option.toList_some, Option.toList_none, List.append_nil, List.cons_append, List.nil_append, znat, znat1, zpm1, zcm1, zof0, zof1, zof2, zof3, zofa0, zofa1, n0, hin, b_X3_isDone_169, hT, k1, b_X3_isDone_197]
    · rw [if_neg c] at ex
      refine Or.inr ⟨ex, σ, ?_, zFr_rf _ _⟩
      rw [e_X3_isDone]
      by_cases c2 : 1 ≤ r ∧ r ≤ 60
      · rw [if_pos (by omega)] at hin
        have c3 : ¬ T + (r : Int) ≤ 999 := fun z => c ⟨c2, z⟩
        clear c
        simp (disch := omega) only [nrm_id, zix, ↓reduceIte, if_true, if_false, true_and, and_true, false_and, and_false, not_true_eq_false, not_false_eq_true, Int.reduceAdd, Int.reduceSub, Int.reduceMul, ↓if_pos, ↓if_neg, Option.bind_some, Option.toList_some, Option.toList_none, List.append_nil, List.cons_append, List.nil_append, znat, znat1, zpm1, zcm1, zof0, zof1, zof2, zof3, zofa0, zofa1, n0, hin, b_X3_isDone_169, hT]
      · rw [if_neg (by omega)] at hin
        clear c
        simp (disch := omega) only [nrm_id, zix, ↓reduceIte, if_true, if_false, true_and, and_true, false_and, and_false, not_true_eq_false, not_false_eq_true, Int.reduceAdd, Int.reduceSub, Int.reduceMul, ↓if_pos, ↓if_neg, Option.bind_some, Option.toList_some, Option.toList_none, List.append_nil, List.cons_append, List.nil_append, znat, znat1, zpm1, zcm1, zof0, zof1, zof2, zof3, zofa0, zofa1, n0, hin, b_X3_isDone_169]
  · have em : mnd (b a) = 3 := by rw [hL]; rfl
    rw [em] at hdg
    obtain ⟨e1, l1⟩ := mD_is (hdg (a + 1) (by omega) (by show a + 1 < a + 1 + 3; omega))
    obtain ⟨e2, l2⟩ := mD_is (hdg (a + 2) (by omega) (by show a + 2 < a + 1 + 3; omega))
    obtain ⟨e3, l3⟩ := mD_is (hdg (a + 3) (by omega) (by show a + 3 < a + 1 + 3; omega))
    obtain ⟨m0, m1⟩ := hN.2.2.2 hL
    have n0 : σ 42 0 = (mD b (a + 1) : Int) := by rw [m0, ← e1]; show 10 * 0 + b (a + 1) - 48 = _; omega
    have n1 : σ 42 1 = ((10 * mD b (a + 2) + mD b (a + 3) : Nat) : Int) := by
      rw [m1]
      show 10 * (10 * 0 + b (a + 2) - 48) + b (a + 3) - 48 = _
      omega
    have ex : mexe b a K T = if mD b (a + 1) < K.1 ∧ ((10 * mD b (a + 2) + mD b (a + 3) : Nat) : Int) ≤ mcan K (mD b (a + 1)) then some (Kst K (fun j => if j = mD b (a + 1) then ((10 * mD b (a + 2) + mD b (a + 3) : Nat) : Int) else K.2.2.2.2.1 j), T) else none := by
      unfold mexe
      rw [hL]
      rfl
    have l4 : 10 * mD b (a + 2) + mD b (a + 3) ≤ 99 := by omega
    rw [hL]
    clear hN hdg e1 e2 e3 m0 m1 l2 l3
    generalize mD b (a + 1) = r at n0 ex l1
    generalize 10 * mD b (a + 2) + mD b (a + 3) = s at n1 ex l4
    by_cases c : r < K.1
    · have hr := r_isRowY (d + 3) hA hO c
      have hc := r_can (d + 3) zAr37 hA hO c
      have hcr := mcan_rng hO (r := r) (by omega)
      by_cases c2 : (s : Int) ≤ mcan K r
      · rw [if_pos ⟨c, c2⟩] at ex
        refine Or.inl ⟨_, _, zup σ 37 (5 + 4 * r) (s : Int), ex, ?_, AbsM_tip hA, by rw [zup_ix (by omega)]; exact hT, zFr_up (by simp)⟩
        rw [e_X3_isDone]
        simp (disch := omega) only [nrm_id, zix, ↓reduceIte, if_true, if_false, true_and, and_true, false_and, and_false, not_true_eq_false, not_false_eq_true, Int.reduceAdd, Int.reduceSub, Int.reduceMul, ↓if_pos, ↓if_neg, Option.bind_some, Option.toList_some, Option.toList_none, List.append_nil, List.cons_append, List.nil_append, znat, znat1, zpm1, zcm1, zof0, zof1, zof2, zof3, zofa0, zofa1, n0, n1, hr, b_X3_isDone_96, hc, b_X3_isDone_108, r_of, b_X3_isDone_122]
      · rw [if_neg (fun z => c2 z.2)] at ex
        refine Or.inr ⟨ex, σ, ?_, zFr_rf _ _⟩
        rw [e_X3_isDone]
        simp (disch := omega) only [nrm_id, zix, ↓reduceIte, if_true, if_false, true_and, and_true, false_and, and_false, not_true_eq_false, not_false_eq_true, Int.reduceAdd, Int.reduceSub, Int.reduceMul, ↓if_pos, ↓if_neg, Option.bind_some, Option.toList_some, Option.toList_none, List.append_nil, List.cons_append, List.nil_append, znat, znat1, zpm1, zcm1, zof0, zof1, zof2, zof3, zofa0, zofa1, n0, n1, hr, b_X3_isDone_96, hc, b_X3_isDone_108]
    · rw [if_neg (fun z => c z.1)] at ex
      have hr := r_isRowN (d + 3) hA hO (x := (r : Int)) ⟨by omega, by omega⟩ (by omega)
      refine Or.inr ⟨ex, σ, ?_, zFr_rf _ _⟩
      rw [e_X3_isDone]
      simp (disch := omega) only [nrm_id, zix, ↓reduceIte, if_true, if_false, true_and, and_true, false_and, and_false, not_true_eq_false, not_false_eq_true, Int.reduceAdd, Int.reduceSub, Int.reduceMul, ↓if_pos, ↓if_neg, Option.bind_some, Option.toList_some, Option.toList_none, List.append_nil, List.cons_append, List.nil_append, znat, znat1, zpm1, zcm1, zof0, zof1, zof2, zof3, zofa0, zofa1, n0, n1, hr, b_X3_isDone_96]
  · have em : mnd (b a) = 2 := by rw [hL]; rfl
    rw [em] at hdg
    obtain ⟨e1, l1⟩ := mD_is (hdg (a + 1) (by omega) (by show a + 1 < a + 1 + 2; omega))
    obtain ⟨e2, l2⟩ := mD_is (hdg (a + 2) (by omega) (by show a + 2 < a + 1 + 2; omega))
    obtain ⟨m0, m1⟩ := hN.2.2.1 (Or.inr hL)
    have n0 : σ 42 0 = (mD b (a + 1) : Int) := by rw [m0, ← e1]; show 10 * 0 + b (a + 1) - 48 = _; omega
    have n1 : σ 42 1 = (mD b (a + 2) : Int) := by rw [m1, ← e2]; show 10 * 0 + b (a + 2) - 48 = _; omega
    have ex : mexe b a K T = if mD b (a + 1) < K.1 ∧ mD b (a + 2) < K.1 ∧ mD b (a + 1) ≠ mD b (a + 2) then some (mchg K (mD b (a + 1)) (mD b (a + 2)), T) else none := by
      unfold mexe
      rw [hL]
      rfl
    rw [hL]
    clear hN hdg e1 e2 m0 m1
    generalize mD b (a + 1) = r at n0 ex l1
    generalize mD b (a + 2) = s at n1 ex l2
    by_cases c1 : r < K.1
    · have hr := r_isRowY (d + 3) hA hO c1
      by_cases c2 : s < K.1
      · have hs := r_isRowY (d + 3) hA hO c2
        by_cases c3 : r = s
        · rw [if_neg (fun z => z.2.2 c3)] at ex
          refine Or.inr ⟨ex, σ, ?_, zFr_rf _ _⟩
          rw [e_X3_isDone]
          simp (disch := omega) only [nrm_id, zix, ↓reduceIte, if_true, if_false, true_and, and_true, false_and, and_false, not_true_eq_false, not_false_eq_true, Int.reduceAdd, Int.reduceSub, Int.reduceMul, ↓if_pos, ↓if_neg, Option.bind_some, Option.toList_some, Option.toList_none, List.append_nil, List.cons_append, List.nil_append, znat, znat1, zpm1, zcm1, zof0, zof1, zof2, zof3, zofa0, zofa1, n0, n1, hr, hs, b_X3_isDone_204, b_X3_isDone_212]
        · rw [if_pos ⟨c1, c2, c3⟩] at ex
          obtain ⟨σ', k1, k2, k3, k4⟩ := r_changes (d + 2) zAr37 hA (x := r) (y := s) (by omega) (by omega) c3
          refine Or.inl ⟨_, _, σ', ex, ?_, k2, by rw [k3]; exact hT, zFr_mono k4 (by simp)⟩
          rw [e_X3_isDone]
          simp (disch := omega) only [nrm_id, zix, ↓reduceIte, if_true, if_false, true_and, and_true, false_and, and_false, not_true_eq_false, not_false_eq_true, Int.reduceAdd, Int.reduceSub, Int.reduceMul, ↓if_pos, ↓if_neg, Option.bind_some, Option.toList_some, Option.toList_none, List.append_nil, List.cons_append, List.nil_append, znat, znat1, zpm1, zcm1, zof0, zof1, zof2, zof3, zofa0, zofa1, n0, n1, hr, hs, b_X3_isDone_204, b_X3_isDone_212, k1, b_X3_isDone_231]
      · rw [if_neg (fun z => c2 z.2.1)] at ex
        have hs := r_isRowN (d + 3) hA hO (x := (s : Int)) ⟨by omega, by omega⟩ (by omega)
        refine Or.inr ⟨ex, σ, ?_, zFr_rf _ _⟩
        rw [e_X3_isDone]
        simp (disch := omega) only [nrm_id, zix, ↓reduceIte, if_true, if_false, true_and, and_true, false_and, and_false, not_true_eq_false, not_false_eq_true, Int.reduceAdd, Int.reduceSub, Int.reduceMul, ↓if_pos, ↓if_neg, Option.bind_some, Option.toList_some, Option.toList_none, List.append_nil, List.cons_append, List.nil_append, znat, znat1, zpm1, zcm1, zof0, zof1, zof2, zof3, zofa0, zofa1, n0, n1, hr, hs, b_X3_isDone_204, b_X3_isDone_212]
    · rw [if_neg (fun z => c1 z.1)] at ex
      have hr := r_isRowN (d + 3) hA hO (x := (r : Int)) ⟨by omega, by omega⟩ (by omega)
      refine Or.inr ⟨ex, σ, ?_, zFr_rf _ _⟩
      rw [e_X3_isDone]
      simp (disch := omega) only [nrm_id, zix, ↓reduceIte, if_true, if_false, true_and, and_true, false_and, and_false, not_true_eq_false, not_false_eq_true, Int.reduceAdd, Int.reduceSub, Int.reduceMul, ↓if_pos, ↓if_neg, Option.bind_some, Option.toList_some, Option.toList_none, List.append_nil, List.cons_append, List.nil_append, znat, znat1, zpm1, zcm1, zof0, zof1, zof2, zof3, zofa0, zofa1, n0, n1, hr, b_X3_isDone_204]
end SYS34
