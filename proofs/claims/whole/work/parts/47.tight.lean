def mtgt (x : Int) (p : Int × Int) : Int := if x = 0 ∨ p.1 < 0 then p.1 else p.2
section SYS7
variable {σ : zS} {K : zK} {T : Int}
theorem mroom_rng (hO : mOk K) {r : Nat} (hr : r < 8) : 10 ≤ mroom K r ∧ mroom K r ≤ 30 := by
  have h1 := hO.2.2.2.2.1 r hr
  have h2 := mah_rng hO hr
  unfold mroom
  omega
theorem p_tightest (h : zSysK K T σ) {x : Int} (hx : R32 x) : zP mX2_tightest mX3_tightest [zI x] σ := by
  have h0 := h
  obtain ⟨hC, hM, hO, hT1, hT2, hT, -, -⟩ := h
  have hp := hO.1
  obtain ⟨x1, x2⟩ := hx
  by_cases q : 0 ≤ x ∧ x ≤ 1
  · have hgr : ∀ i : Nat, i < K.1 → 10 ≤ mroom K i ∧ mroom K i ≤ 30 := fun i hi => mroom_rng hO (by omega)
    refine zP_same h0 (zI (mtgt x (mlst (mroom K) mI K.1 0 (-4) 1000))) (fun d => ?_) (fun d => ?_)
    · have lp : ∀ (m i : Nat) (f b b0 : Int), i + m = K.1 → (f = -4 ∧ b = 1000 ∧ b0 = -4 ∨ (0 ≤ f ∧ f < 8) ∧ b = b0 ∧ 10 ≤ b ∧ b ≤ 30) → zq (d + 20) mX2_tightest 20 [some (zR (some 0)), some (zI x), some (zI f), some (zI b0), some (zI i), none] [] σ = some (some (zI (mtgt x (mlst (mroom K) mI m i f b))), σ) := by
        intro m
        induction m with
        | zero =>
          intro i f b b0 hi hb
          rw [b_X2_tightest_20, hC.1, show i = K.1 from by omega]
          have e1 : mlst (mroom K) mI 0 K.1 f b = (f, b) := rfl
          rw [e1]
          unfold mtgt
          by_cases hx0 : x = 0
          · simp (disch := omega) only [nrm_id, zix, ↓reduceIte, if_true, if_false, true_and, and_true, false_and, and_false, not_true_eq_false, not_false_eq_true, Int.reduceAdd, Int.reduceSub, Int.reduceMul, ↓if_pos, ↓if_neg, Option.bind_some, Option.toList_some, Option.toList_none, List.append_nil, List.cons_append, List.nil_append, znat, znat1, zpm1, zcm1, zof0, zof1, zof2, zof3, zofa0, zofa1, hx0, true_or]
          · rcases hb with ⟨rfl, rfl, rfl⟩ | ⟨hf, rfl, hb⟩
            · simp (disch := omega) only [nrm_id, zix, ↓reduceIte, if_true, if_false, true_and, and_true, false_and, and_false, not_true_eq_false, not_false_eq_true, Int.reduceAdd, Int.reduceSub, Int.reduceMul, ↓if_pos, ↓if_neg, Option.bind_some, Option.toList_some, Option.toList_none, List.append_nil, List.cons_append, List.nil_append, znat, znat1, zpm1, zcm1, zof0, zof1, zof2, zof3, zofa0, zofa1, false_or, Int.reduceLT, Int.reduceNeg]
            · simp (disch := omega) only [nrm_id, zix, ↓reduceIte, if_true, if_false, true_and, and_true, false_and, and_false, not_true_eq_false, not_false_eq_true, Int.reduceAdd, Int.reduceSub, Int.reduceMul, ↓if_pos, ↓if_neg, Option.bind_some, Option.toList_some, Option.toList_none, List.append_nil, List.cons_append, List.nil_append, znat, znat1, zpm1, zcm1, zof0, zof1, zof2, zof3, zofa0, zofa1, false_or]
        | succ m ih =>
          intro i f b b0 hi hb
          have hg := hgr i (by omega)
          have hmi : mI i = (i : Int) := rfl
          unfold mlst
          by_cases hc : b ≤ mroom K i
          · rw [if_pos hc, b_X2_tightest_20, hC.1]
            simp (disch := omega) only [nrm_id, zix, ↓reduceIte, if_true, if_false, true_and, and_true, false_and, and_false, not_true_eq_false, not_false_eq_true, Int.reduceAdd, Int.reduceSub, Int.reduceMul, ↓if_pos, ↓if_neg, Option.bind_some, Option.toList_some, Option.toList_none, List.append_nil, List.cons_append, List.nil_append, znat, znat1, zpm1, zcm1, zof0, zof1, zof2, zof3, zofa0, zofa1, s_roomAt _ zCo1 hC (show i < 8 from by omega), b_X2_tightest_41, b_X2_tightest_61]
            exact ih (i + 1) f b b0 (by omega) hb
          · rw [if_neg hc, b_X2_tightest_20, hC.1]
            by_cases hf : f = -4
            · simp (disch := omega) only [nrm_id, zix, ↓reduceIte, if_true, if_false, true_and, and_true, false_and, and_false, not_true_eq_false, not_false_eq_true, Int.reduceAdd, Int.reduceSub, Int.reduceMul, ↓if_pos, ↓if_neg, Option.bind_some, Option.toList_some, Option.toList_none, List.append_nil, List.cons_append, List.nil_append, znat, znat1, zpm1, zcm1, zof0, zof1, zof2, zof3, zofa0, zofa1, s_roomAt _ zCo1 hC (show i < 8 from by omega), b_X2_tightest_41, b_X2_tightest_55, b_X2_tightest_61]
              exact ih (i + 1) (mI i) (mroom K i) _ (by omega) (Or.inr ⟨by omega, rfl, hg⟩)
            · simp (disch := omega) only [nrm_id, zix, ↓reduceIte, if_true, if_false, true_and, and_true, false_and, and_false, not_true_eq_false, not_false_eq_true, Int.reduceAdd, Int.reduceSub, Int.reduceMul, ↓if_pos, ↓if_neg, Option.bind_some, Option.toList_some, Option.toList_none, List.append_nil, List.cons_append, List.nil_append, znat, znat1, zpm1, zcm1, zof0, zof1, zof2, zof3, zofa0, zofa1, s_roomAt _ zCo1 hC (show i < 8 from by omega), b_X2_tightest_41, b_X2_tightest_55, b_X2_tightest_61]
              exact ih (i + 1) (mI i) (mroom K i) _ (by omega) (Or.inr ⟨by omega, rfl, hg⟩)
      rw [e_X2_tightest]
      simp (disch := omega) only [nrm_id, zix, ↓reduceIte, if_true, if_false, true_and, and_true, false_and, and_false, not_true_eq_false, not_false_eq_true, Int.reduceAdd, Int.reduceSub, Int.reduceMul, ↓if_pos, ↓if_neg, Option.bind_some, Option.toList_some, Option.toList_none, List.append_nil, List.cons_append, List.nil_append, znat, znat1, zpm1, zcm1, zof0, zof1, zof2, zof3, zofa0, zofa1]
      exact lp K.1 0 (-4) 1000 (-4) (by omega) (Or.inl ⟨rfl, rfl, rfl⟩)
    · have lp : ∀ (m i : Nat) (f b : Int), i + m = K.1 → (f = -4 ∧ b = 1000 ∨ ∃ r : Nat, f = r ∧ r < 8 ∧ b = mroom K r) → zq (d + 20) mX3_tightest 16 [some (zR (some 36)), some (zI x), some (zI f), some (zI i)] [] σ = some (some (zI (mtgt x (mlst (mroom K) mI m i f b))), σ) := by
        intro m
        induction m with
        | zero =>
          intro i f b hi hb
          rw [b_X3_tightest_16, hM.1, show i = K.1 from by omega]
          have e1 : mlst (mroom K) mI 0 K.1 f b = (f, b) := rfl
          rw [e1]
          unfold mtgt
          rcases hb with ⟨rfl, rfl⟩ | ⟨r, rfl, hr, rfl⟩
          · simp (disch := omega) only [nrm_id, zix, ↓reduceIte, if_true, if_false, true_and, and_true, false_and, and_false, not_true_eq_false, not_false_eq_true, Int.reduceAdd, Int.reduceSub, Int.reduceMul, ↓if_pos, ↓if_neg, Option.bind_some, Option.toList_some, Option.toList_none, List.append_nil, List.cons_append, List.nil_append, znat, znat1, zpm1, zcm1, zof0, zof1, zof2, zof3, zofa0, zofa1, b_X3_tightest_65, or_true]
          · by_cases hx0 : x = 0
            · simp (disch := omega) only [nrm_id, zix, ↓reduceIte, if_true, if_false, true_and, and_true, false_and, and_false, not_true_eq_false, not_false_eq_true, Int.reduceAdd, Int.reduceSub, Int.reduceMul, ↓if_pos, ↓if_neg, Option.bind_some, Option.toList_some, Option.toList_none, List.append_nil, List.cons_append, List.nil_append, znat, znat1, zpm1, zcm1, zof0, zof1, zof2, zof3, zofa0, zofa1, hx0, true_or, b_X3_tightest_65]
            · simp (disch := omega) only [nrm_id, zix, ↓reduceIte, if_true, if_false, true_and, and_true, false_and, and_false, not_true_eq_false, not_false_eq_true, Int.reduceAdd, Int.reduceSub, Int.reduceMul, ↓if_pos, ↓if_neg, Option.bind_some, Option.toList_some, Option.toList_none, List.append_nil, List.cons_append, List.nil_append, znat, znat1, zpm1, zcm1, zof0, zof1, zof2, zof3, zofa0, zofa1, false_or, r_room _ zAr37 hM hO hr, b_X3_tightest_77]
        | succ m ih =>
          intro i f b hi hb
          have hg := hgr i (by omega)
          have hmi : mI i = (i : Int) := rfl
          unfold mlst
          rw [b_X3_tightest_16, hM.1]
          rcases hb with ⟨rfl, rfl⟩ | ⟨r, rfl, hr, rfl⟩
          · rw [if_neg (show ¬ (1000 : Int) ≤ mroom K i from by omega)]
            simp (disch := omega) only [nrm_id, zix, ↓reduceIte, if_true, if_false, true_and, and_true, false_and, and_false, not_true_eq_false, not_false_eq_true, Int.reduceAdd, Int.reduceSub, Int.reduceMul, ↓if_pos, ↓if_neg, Option.bind_some, Option.toList_some, Option.toList_none, List.append_nil, List.cons_append, List.nil_append, znat, znat1, zpm1, zcm1, zof0, zof1, zof2, zof3, zofa0, zofa1, b_X3_tightest_49, b_X3_tightest_51]
            exact ih (i + 1) (mI i) (mroom K i) (by omega) (Or.inr ⟨i, rfl, by omega, rfl⟩)
          · have hr2 := mroom_rng hO hr
            by_cases hc : mroom K r ≤ mroom K i
            · simp (disch := omega) only [nrm_id, zix, ↓reduceIte, if_true, if_false, true_and, and_true, false_and, and_false, not_true_eq_false, not_false_eq_true, Int.reduceAdd, Int.reduceSub, Int.reduceMul, ↓if_pos, ↓if_neg, Option.bind_some, Option.toList_some, Option.toList_none, List.append_nil, List.cons_append, List.nil_append, znat, znat1, zpm1, zcm1, zof0, zof1, zof2, zof3, zofa0, zofa1, r_room _ zAr37 hM hO hr, r_room _ zAr37 hM hO (show i < 8 from by omega), b_X3_tightest_38, b_X3_tightest_46, b_X3_tightest_51]
              exact ih (i + 1) (r : Int) (mroom K r) (by omega) (Or.inr ⟨r, rfl, hr, rfl⟩)
            · simp (disch := omega) only [nrm_id, zix, ↓reduceIte, if_true, if_false, true_and, and_true, false_and, and_false, not_true_eq_false, not_false_eq_true, Int.reduceAdd, Int.reduceSub, Int.reduceMul, ↓if_pos, ↓if_neg, Option.bind_some, Option.toList_some, Option.toList_none, List.append_nil, List.cons_append, List.nil_append, znat, znat1, zpm1, zcm1, zof0, zof1, zof2, zof3, zofa0, zofa1, r_room _ zAr37 hM hO hr, r_room _ zAr37 hM hO (show i < 8 from by omega), b_X3_tightest_38, b_X3_tightest_46, b_X3_tightest_49, b_X3_tightest_51]
              exact ih (i + 1) (mI i) (mroom K i) (by omega) (Or.inr ⟨i, rfl, by omega, rfl⟩)
      rw [e_X3_tightest]
      simp (disch := omega) only [nrm_id, zix, ↓reduceIte, if_true, if_false, true_and, and_true, false_and, and_false, not_true_eq_false, not_false_eq_true, Int.reduceAdd, Int.reduceSub, Int.reduceMul, ↓if_pos, ↓if_neg, Option.bind_some, Option.toList_some, Option.toList_none, List.append_nil, List.cons_append, List.nil_append, znat, znat1, zpm1, zcm1, zof0, zof1, zof2, zof3, zofa0, zofa1, r_isIn, b_X3_tightest_6]
      exact lp K.1 0 (-4) 1000 (by omega) (Or.inl ⟨rfl, rfl⟩)
  · refine zP_same h0 (zI (-1)) (fun d => ?_) (fun d => ?_)
    · rw [e_X2_tightest]
      by_cases q5 : x < 0 <;> simp (disch := omega) only [nrm_id, zix, ↓reduceIte, if_true, if_false, true_and, and_true, false_and, and_false, not_true_eq_false, not_false_eq_true, Int.reduceAdd, Int.reduceSub, Int.reduceMul, ↓if_pos, ↓if_neg, Option.bind_some, Option.toList_some, Option.toList_none, List.append_nil, List.cons_append, List.nil_append, znat, znat1, zpm1, zcm1, zof0, zof1, zof2, zof3, zofa0, zofa1]
    · rw [e_X3_tightest]
      simp (disch := omega) only [nrm_id, zix, ↓reduceIte, if_true, if_false, true_and, and_true, false_and, and_false, not_true_eq_false, not_false_eq_true, Int.reduceAdd, Int.reduceSub, Int.reduceMul, ↓if_pos, ↓if_neg, Option.bind_some, Option.toList_some, Option.toList_none, List.append_nil, List.cons_append, List.nil_append, znat, znat1, zpm1, zcm1, zof0, zof1, zof2, zof3, zofa0, zofa1, r_isIn, b_X3_tightest_6]
end SYS7
