section SYS10
variable {σ : zS} {K : zK} {T : Int}
theorem zSys_img {σ' : zS} (h : zSysK K T σ) (hq : ∀ q, q ∉ [0, 11, 12, 13, 14, 36, 39] → σ' q = σ q) (hI : zImg σ') : zSysK K T σ' := by
  obtain ⟨hC, hM, hO, hT1, hT2, hT, -, hS⟩ := h
  refine ⟨AbsC_fr hC (hq 1 (by decide)) (hq 2 (by decide)) (hq 3 (by decide)) (hq 4 (by decide)), AbsM_fr hM (hq 37 (by decide)), hO, by rw [hq 1 (by decide)]; exact hT1, by rw [hq 37 (by decide)]; exact hT2, hT, hI, fun d hd => ?_⟩
  have hd' : d = 0 ∨ d = 1 ∨ d = 2 ∨ d = 3 ∨ d = 4 ∨ d = 5 ∨ d = 6 ∨ d = 7 := by omega
  refine zShR_keep (hS d hd) ?_ ?_ (hq 45 (by decide)) (hq 46 (by decide)) (hq 47 (by decide)) (hq 48 (by decide)) (hq 49 (by decide)) (hq 50 (by decide))
  · rcases hd' with rfl | rfl | rfl | rfl | rfl | rfl | rfl | rfl <;> exact hq _ (by decide)
  · rcases hd' with rfl | rfl | rfl | rfl | rfl | rfl | rfl | rfl <;> exact hq _ (by decide)
theorem p_image (h : zSysK K T σ) : zP mX2_image mX3_image [] σ := by
  intro d
  have h0 := h
  obtain ⟨hC, hM, hO, hT1, hT2, hT, -, -⟩ := h
  obtain ⟨σ1, a1, a2, a3, a4⟩ := s_copyFrom (d + 18) zCo11 zCo1 (by decide) hC
  obtain ⟨σ2, b1, b2, b3⟩ := r_copies (d + 19) zAr37 zAr39 (zup σ1 0 3 1)
  have f37 : (zup σ1 0 3 1) 37 = σ 37 := by rw [zup_ne (by decide)]; exact a4 37 (by decide)
  have hM1 : AbsM (zup σ1 0 3 1) 37 K := AbsM_fr hM f37
  refine ⟨zup σ1 0 3 1, zup σ2 36 5 1, zI T, ?_, ?_, K, T, zSys_img h0 (fun q hq => ?_) (Or.inr ⟨?_, ?_, K, T, ?_, ?_, hO, ?_, ?_, hT⟩)⟩
  · have e : σ1 1 2 = T := by rw [a4 1 (by decide)]; exact hT1
    rw [e_X2_image]
    simp (disch := omega) only [nrm_id, zix, ↓reduceIte, if_true, if_false, true_and, and_true, false_and, and_false, not_true_eq_false, not_false_eq_true, Int.reduceAdd, Int.reduceSub, Int.reduceMul, ↓if_pos, ↓if_neg, Option.bind_some, Option.toList_some, Option.toList_none, List.append_nil, List.cons_append, List.nil_append, znat, znat1, zpm1, zcm1, zof0, zof1, zof2, zof3, zofa0, zofa1, a1, b_X2_image_11, zup_ne, e]
  · have e : σ2 37 2 = T := by rw [b3 37 (by simp), f37]; exact hT2
    rw [e_X3_image]
    simp (disch := omega) only [nrm_id, zix, ↓reduceIte, if_true, if_false, true_and, and_true, false_and, and_false, not_true_eq_false, not_false_eq_true, Int.reduceAdd, Int.reduceSub, Int.reduceMul, ↓if_pos, ↓if_neg, Option.bind_some, Option.toList_some, Option.toList_none, List.append_nil, List.cons_append, List.nil_append, znat, znat1, zpm1, zcm1, zof0, zof1, zof2, zof3, zofa0, zofa1, b1, b_X3_image_11, zup_ne, e]
  · simp only [List.mem_cons, List.not_mem_nil, or_false, not_or] at hq
    rw [zup_ne hq.2.2.2.2.2.1, b3 q (by simpa using hq.2.2.2.2.2.2), zup_ne hq.1, a4 q (by simp; omega)]
  · rw [zup_ne (by decide), b3 0 (by simp), zup_at]
  · rw [zup_at]
  · exact AbsC_fr a2 (by rw [zup_ne (by decide), b3 11 (by simp), zup_ne (by decide)]) (by rw [zup_ne (by decide), b3 12 (by simp), zup_ne (by decide)]) (by rw [zup_ne (by decide), b3 13 (by simp), zup_ne (by decide)]) (by rw [zup_ne (by decide), b3 14 (by simp), zup_ne (by decide)])
  · exact AbsM_fr (AbsM_copy hM1 b2) (zup_ne (by decide))
  · rw [zup_ne (by decide), b3 11 (by simp), zup_ne (by decide), a3]; exact hT1
  · rw [zup_ne (by decide), b2 2 (by decide), f37]; exact hT2
theorem p_restore (h : zSysK K T σ) : zP mX2_restore mX3_restore [] σ := by
  intro d
  have h0 := h
  obtain ⟨hC, hM, hO, hT1, hT2, hT, hI, -⟩ := h
  rcases hI with ⟨i1, i2⟩ | ⟨i1, i2, KI, TI, c1, c2, c3, c4, c5, c6⟩
  · refine ⟨σ, σ, zI (-3), ?_, ?_, K, T, h0⟩
    · rw [e_X2_restore, i1]; simp (disch := omega) only [nrm_id, zix, ↓reduceIte, if_true, if_false, true_and, and_true, false_and, and_false, not_true_eq_false, not_false_eq_true, Int.reduceAdd, Int.reduceSub, Int.reduceMul, ↓if_pos, ↓if_neg, Option.bind_some, Option.toList_some, Option.toList_none, List.append_nil, List.cons_append, List.nil_append, znat, znat1, zpm1, zcm1, zof0, zof1, zof2, zof3, zofa0, zofa1]
    · rw [e_X3_restore, i2]; simp (disch := omega) only [nrm_id, zix, ↓reduceIte, if_true, if_false, true_and, and_true, false_and, and_false, not_true_eq_false, not_false_eq_true, Int.reduceAdd, Int.reduceSub, Int.reduceMul, ↓if_pos, ↓if_neg, Option.bind_some, Option.toList_some, Option.toList_none, List.append_nil, List.cons_append, List.nil_append, znat, znat1, zpm1, zcm1, zof0, zof1, zof2, zof3, zofa0, zofa1]
  · obtain ⟨σ1, a1, a2, a3, a4⟩ := s_copyFrom (d + 18) zCo1 zCo11 (by decide) c1
    obtain ⟨σ2, b1, b2, b3⟩ := r_copies (d + 19) zAr39 zAr37 σ1
    have f39 : σ1 39 = σ 39 := a4 39 (by decide)
    have f36 : σ1 36 = σ 36 := a4 36 (by decide)
    have hM1 : AbsM σ1 39 KI := AbsM_fr c2 f39
    have t2 : σ2 37 2 = TI := by rw [b2 2 (by decide), f39]; exact c5
    refine ⟨σ1, σ2, zI TI, ?_, ?_, KI, TI, zSys_upd h0 (zScr_tr (zScr_of a4 (by simp) (by simp)) (zScr_of b3 (by simp) (by simp))) ?_ (AbsM_copy hM1 b2) c3 ?_ t2 c6⟩
    · rw [e_X2_restore, i1]
      simp (disch := omega) only [nrm_id, zix, ↓reduceIte, if_true, if_false, true_and, and_true, false_and, and_false, not_true_eq_false, not_false_eq_true, Int.reduceAdd, Int.reduceSub, Int.reduceMul, ↓if_pos, ↓if_neg, Option.bind_some, Option.toList_some, Option.toList_none, List.append_nil, List.cons_append, List.nil_append, znat, znat1, zpm1, zcm1, zof0, zof1, zof2, zof3, zofa0, zofa1, a1, b_X2_restore_21, a3, c4]
    · rw [e_X3_restore, f36, i2]
      simp (disch := omega) only [nrm_id, zix, ↓reduceIte, if_true, if_false, true_and, and_true, false_and, and_false, not_true_eq_false, not_false_eq_true, Int.reduceAdd, Int.reduceSub, Int.reduceMul, ↓if_pos, ↓if_neg, Option.bind_some, Option.toList_some, Option.toList_none, List.append_nil, List.cons_append, List.nil_append, znat, znat1, zpm1, zcm1, zof0, zof1, zof2, zof3, zofa0, zofa1, b1, b_X3_restore_21, t2]
    · exact AbsC_fr a2 (b3 1 (by simp)) (b3 2 (by simp)) (b3 3 (by simp)) (b3 4 (by simp))
    · rw [b3 1 (by simp), a3]; exact c4
theorem r_roomAll (d : Nat) (h : AbsM σ 37 K) (hO : mOk K) : zc (d + 2) mX3_roomAll [zR (some 36)] σ = some (some (zI (msum (mroom K) K.1)), σ) := by
  have hp := hO.1
  have lp : ∀ m i : Nat, i + m = K.1 → zq (d + 2) mX3_roomAll 4 [some (zR (some 36)), some (zI (msum (mroom K) i)), some (zI i)] [] σ = some (some (zI (msum (mroom K) K.1)), σ) := by
    intro m
    induction m with
    | zero =>
      intro i hi
      rw [b_X3_roomAll_4, h.1, show i = K.1 from by omega]
      simp (disch := omega) only [nrm_id, zix, ↓reduceIte, if_true, if_false, true_and, and_true, false_and, and_false, not_true_eq_false, not_false_eq_true, Int.reduceAdd, Int.reduceSub, Int.reduceMul, ↓if_pos, ↓if_neg, Option.bind_some, Option.toList_some, Option.toList_none, List.append_nil, List.cons_append, List.nil_append, znat, znat1, zpm1, zcm1, zof0, zof1, zof2, zof3, zofa0, zofa1]
    | succ m ih =>
      intro i hi
      rw [b_X3_roomAll_4, h.1]
      simp (disch := omega) only [nrm_id, zix, ↓reduceIte, if_true, if_false, true_and, and_true, false_and, and_false, not_true_eq_false, not_false_eq_true, Int.reduceAdd, Int.reduceSub, Int.reduceMul, ↓if_pos, ↓if_neg, Option.bind_some, Option.toList_some, Option.toList_none, List.append_nil, List.cons_append, List.nil_append, znat, znat1, zpm1, zcm1, zof0, zof1, zof2, zof3, zofa0, zofa1, r_room _ zAr37 h hO (show i < 8 from by omega), b_X3_roomAll_23]
      exact ih (i + 1) (by omega)
  rw [e_X3_roomAll]
  exact lp K.1 0 (by omega)
theorem p_count (h : zSysK K T σ) {x : Int} (hx : R32 x) : zP mX2_count mX3_count [zI x] σ := by
  have h0 := h
  obtain ⟨hC, hM, hO, hT1, hT2, hT, -, -⟩ := h
  have hp := hO.1
  obtain ⟨x1, x2⟩ := hx
  by_cases q : 0 ≤ x ∧ x ≤ 6
  · have hx7 : x = 0 ∨ x = 1 ∨ x = 2 ∨ x = 3 ∨ x = 4 ∨ x = 5 ∨ x = 6 := by omega
    rcases hx7 with rfl | rfl | rfl | rfl | rfl | rfl | rfl
    · refine zP_same h0 (zI (K.1 : Int)) (fun d => ?_) (fun d => ?_)
      · rw [e_X2_count]; simp (disch := omega) only [nrm_id, zix, ↓reduceIte, if_true, if_false, true_and, and_true, false_and, and_false, not_true_eq_false, not_false_eq_true, Int.reduceAdd, Int.reduceSub, Int.reduceMul, ↓if_pos, ↓if_neg, Option.bind_some, Option.toList_some, Option.toList_none, List.append_nil, List.cons_append, List.nil_append, znat, znat1, zpm1, zcm1, zof0, zof1, zof2, zof3, zofa0, zofa1, hC.1]
      · rw [e_X3_count]; simp (disch := omega) only [nrm_id, zix, ↓reduceIte, if_true, if_false, true_and, and_true, false_and, and_false, not_true_eq_false, not_false_eq_true, Int.reduceAdd, Int.reduceSub, Int.reduceMul, ↓if_pos, ↓if_neg, Option.bind_some, Option.toList_some, Option.toList_none, List.append_nil, List.cons_append, List.nil_append, znat, znat1, zpm1, zcm1, zof0, zof1, zof2, zof3, zofa0, zofa1, r_isIn, b_X3_count_6, Int.toNat_zero, hM.1]
    · refine zP_same h0 (zI K.2.1) (fun d => ?_) (fun d => ?_)
      · rw [e_X2_count]; simp (disch := omega) only [nrm_id, zix, ↓reduceIte, if_true, if_false, true_and, and_true, false_and, and_false, not_true_eq_false, not_false_eq_true, Int.reduceAdd, Int.reduceSub, Int.reduceMul, ↓if_pos, ↓if_neg, Option.bind_some, Option.toList_some, Option.toList_none, List.append_nil, List.cons_append, List.nil_append, znat, znat1, zpm1, zcm1, zof0, zof1, zof2, zof3, zofa0, zofa1, hC.2.1]
      · rw [e_X3_count]; simp (disch := omega) only [nrm_id, zix, ↓reduceIte, if_true, if_false, true_and, and_true, false_and, and_false, not_true_eq_false, not_false_eq_true, Int.reduceAdd, Int.reduceSub, Int.reduceMul, ↓if_pos, ↓if_neg, Option.bind_some, Option.toList_some, Option.toList_none, List.append_nil, List.cons_append, List.nil_append, znat, znat1, zpm1, zcm1, zof0, zof1, zof2, zof3, zofa0, zofa1, r_isIn, b_X3_count_6, Int.toNat_one, hM.2.1]
    · refine zP_same h0 (zI T) (fun d => ?_) (fun d => ?_)
      · rw [e_X2_count]; simp (disch := omega) only [nrm_id, zix, ↓reduceIte, if_true, if_false, true_and, and_true, false_and, and_false, not_true_eq_false, not_false_eq_true, Int.reduceAdd, Int.reduceSub, Int.reduceMul, ↓if_pos, ↓if_neg, Option.bind_some, Option.toList_some, Option.toList_none, List.append_nil, List.cons_append, List.nil_append, znat, znat1, zpm1, zcm1, zof0, zof1, zof2, zof3, zofa0, zofa1, hT1]
      · have e : (2 : Int).toNat = 2 := rfl
        rw [e_X3_count]; simp (disch := omega) only [nrm_id, zix, ↓reduceIte, if_true, if_false, true_and, and_true, false_and, and_false, not_true_eq_false, not_false_eq_true, Int.reduceAdd, Int.reduceSub, Int.reduceMul, ↓if_pos, ↓if_neg, Option.bind_some, Option.toList_some, Option.toList_none, List.append_nil, List.cons_append, List.nil_append, znat, znat1, zpm1, zcm1, zof0, zof1, zof2, zof3, zofa0, zofa1, r_isIn, b_X3_count_6, e, hT2]
    · refine zP_same h0 (zI (msum K.2.2.2.2.1 K.1)) (fun d => ?_) (fun d => ?_)
      · rw [e_X2_count]; simp (disch := omega) only [nrm_id, zix, ↓reduceIte, if_true, if_false, true_and, and_true, false_and, and_false, not_true_eq_false, not_false_eq_true, Int.reduceAdd, Int.reduceSub, Int.reduceMul, ↓if_pos, ↓if_neg, Option.bind_some, Option.toList_some, Option.toList_none, List.append_nil, List.cons_append, List.nil_append, znat, znat1, zpm1, zcm1, zof0, zof1, zof2, zof3, zofa0, zofa1, s_allTips _ zCo1 hC hO, b_X2_count_75]
      · rw [e_X3_count]; simp (disch := omega) only [nrm_id, zix, ↓reduceIte, if_true, if_false, true_and, and_true, false_and, and_false, not_true_eq_false, not_false_eq_true, Int.reduceAdd, Int.reduceSub, Int.reduceMul, ↓if_pos, ↓if_neg, Option.bind_some, Option.toList_some, Option.toList_none, List.append_nil, List.cons_append, List.nil_append, znat, znat1, zpm1, zcm1, zof0, zof1, zof2, zof3, zofa0, zofa1, r_isIn, b_X3_count_6, r_tipsAll _ zAr37 hM hO, b_X3_count_55]
    · have hB := hC.2.2.2.2.2.1
      have hb := hC.2.2.2.2.2.2
      have ef : mfold K.2.2.2.2.2 K.1 = σ 1 3 := by
        obtain ⟨n, hn⟩ := Int.eq_ofNat_of_zero_le hB.1
        rw [mfold_congr (g := mbit (σ 1 3)) (fun r hr => (hb r (by omega)).symm), hn]
        exact mfold_dec n (by omega) K.1 (by omega) (fun r hr hpr => by rw [← hn, hb r hr]; exact (hO.2.2.2.2.2 r hr).2.1 hpr)
      refine zP_same h0 (zI (σ 1 3)) (fun d => ?_) (fun d => ?_)
      · rw [e_X2_count]; simp (disch := omega) only [nrm_id, zix, ↓reduceIte, if_true, if_false, true_and, and_true, false_and, and_false, not_true_eq_false, not_false_eq_true, Int.reduceAdd, Int.reduceSub, Int.reduceMul, ↓if_pos, ↓if_neg, Option.bind_some, Option.toList_some, Option.toList_none, List.append_nil, List.cons_append, List.nil_append, znat, znat1, zpm1, zcm1, zof0, zof1, zof2, zof3, zofa0, zofa1]
      · have lp : ∀ m i : Nat, i + m = K.1 → zq (d + 20) mX3_count 58 [some (zR (some 36)), none, some (zI (mfold K.2.2.2.2.2 i)), some (zI i)] [] σ = some (some (zI (σ 1 3)), σ) := by
          intro m
          induction m with
          | zero =>
            intro i hi
            rw [b_X3_count_58, hM.1, show i = K.1 from by omega, ef]
            simp (disch := omega) only [nrm_id, zix, ↓reduceIte, if_true, if_false, true_and, and_true, false_and, and_false, not_true_eq_false, not_false_eq_true, Int.reduceAdd, Int.reduceSub, Int.reduceMul, ↓if_pos, ↓if_neg, Option.bind_some, Option.toList_some, Option.toList_none, List.append_nil, List.cons_append, List.nil_append, znat, znat1, zpm1, zcm1, zof0, zof1, zof2, zof3, zofa0, zofa1]
          | succ m ih =>
            intro i hi
            have e5 := hM.2.2.2.2.2 i (by omega)
            rw [b_X3_count_58, hM.1]
            simp (disch := omega) only [nrm_id, zix, ↓reduceIte, if_true, if_false, true_and, and_true, false_and, and_false, not_true_eq_false, not_false_eq_true, Int.reduceAdd, Int.reduceSub, Int.reduceMul, ↓if_pos, ↓if_neg, Option.bind_some, Option.toList_some, Option.toList_none, List.append_nil, List.cons_append, List.nil_append, znat, znat1, zpm1, zcm1, zof0, zof1, zof2, zof3, zofa0, zofa1, r_of, b_X3_count_78, e5]
            exact ih (i + 1) (by omega)
        rw [e_X3_count]; simp (disch := omega) only [nrm_id, zix, ↓reduceIte, if_true, if_false, true_and, and_true, false_and, and_false, not_true_eq_false, not_false_eq_true, Int.reduceAdd, Int.reduceSub, Int.reduceMul, ↓if_pos, ↓if_neg, Option.bind_some, Option.toList_some, Option.toList_none, List.append_nil, List.cons_append, List.nil_append, znat, znat1, zpm1, zcm1, zof0, zof1, zof2, zof3, zofa0, zofa1, r_isIn, b_X3_count_6]
        exact lp K.1 0 (by omega)
    · refine zP_same h0 (zI (msum (mroom K) K.1)) (fun d => ?_) (fun d => ?_)
      · rw [e_X2_count]; simp (disch := omega) only [nrm_id, zix, ↓reduceIte, if_true, if_false, true_and, and_true, false_and, and_false, not_true_eq_false, not_false_eq_true, Int.reduceAdd, Int.reduceSub, Int.reduceMul, ↓if_pos, ↓if_neg, Option.bind_some, Option.toList_some, Option.toList_none, List.append_nil, List.cons_append, List.nil_append, znat, znat1, zpm1, zcm1, zof0, zof1, zof2, zof3, zofa0, zofa1, s_allRoom _ zCo1 hC hO, b_X2_count_91]
      · rw [e_X3_count]; simp (disch := omega) only [nrm_id, zix, ↓reduceIte, if_true, if_false, true_and, and_true, false_and, and_false, not_true_eq_false, not_false_eq_true, Int.reduceAdd, Int.reduceSub, Int.reduceMul, ↓if_pos, ↓if_neg, Option.bind_some, Option.toList_some, Option.toList_none, List.append_nil, List.cons_append, List.nil_append, znat, znat1, zpm1, zcm1, zof0, zof1, zof2, zof3, zofa0, zofa1, r_isIn, b_X3_count_6, r_roomAll _ hM hO, b_X3_count_95]
    · refine zP_same h0 (zI (mtip K.2.2.2.2.1 K.1)) (fun d => ?_) (fun d => ?_)
      · rw [e_X2_count]; simp (disch := omega) only [nrm_id, zix, ↓reduceIte, if_true, if_false, true_and, and_true, false_and, and_false, not_true_eq_false, not_false_eq_true, Int.reduceAdd, Int.reduceSub, Int.reduceMul, ↓if_pos, ↓if_neg, Option.bind_some, Option.toList_some, Option.toList_none, List.append_nil, List.cons_append, List.nil_append, znat, znat1, zpm1, zcm1, zof0, zof1, zof2, zof3, zofa0, zofa1, s_tippingRows _ zCo1 hC hO, b_X2_count_99]
      · rw [e_X3_count]; simp (disch := omega) only [nrm_id, zix, ↓reduceIte, if_true, if_false, true_and, and_true, false_and, and_false, not_true_eq_false, not_false_eq_true, Int.reduceAdd, Int.reduceSub, Int.reduceMul, ↓if_pos, ↓if_neg, Option.bind_some, Option.toList_some, Option.toList_none, List.append_nil, List.cons_append, List.nil_append, znat, znat1, zpm1, zcm1, zof0, zof1, zof2, zof3, zofa0, zofa1, r_isIn, b_X3_count_6, r_tipping _ zAr37 hM hO, b_X3_count_103]
  · refine zP_same h0 (zI (-1)) (fun d => ?_) (fun d => ?_)
    · rw [e_X2_count]; simp (disch := omega) only [nrm_id, zix, ↓reduceIte, if_true, if_false, true_and, and_true, false_and, and_false, not_true_eq_false, not_false_eq_true, Int.reduceAdd, Int.reduceSub, Int.reduceMul, ↓if_pos, ↓if_neg, Option.bind_some, Option.toList_some, Option.toList_none, List.append_nil, List.cons_append, List.nil_append, znat, znat1, zpm1, zcm1, zof0, zof1, zof2, zof3, zofa0, zofa1]
    · rw [e_X3_count]; simp (disch := omega) only [nrm_id, zix, ↓reduceIte, if_true, if_false, true_and, and_true, false_and, and_false, not_true_eq_false, not_false_eq_true, Int.reduceAdd, Int.reduceSub, Int.reduceMul, ↓if_pos, ↓if_neg, Option.bind_some, Option.toList_some, Option.toList_none, List.append_nil, List.cons_append, List.nil_append, znat, znat1, zpm1, zcm1, zof0, zof1, zof2, zof3, zofa0, zofa1, r_isIn, b_X3_count_6]
end SYS10
