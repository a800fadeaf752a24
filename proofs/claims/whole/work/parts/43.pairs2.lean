theorem mrounds_p (n : Nat) (K : zK) : (mrounds n K).1 = K.1 := by
  induction n generalizing K with
  | zero => rfl
  | succ n ih => exact ih (mround K)
theorem mstill_le (K : zK) (n : Nat) : mstill K n ≤ n := by
  induction n generalizing K with
  | zero => exact Nat.le_refl _
  | succ n ih =>
    unfold mstill
    have := ih (mround K)
    split <;> omega
section SYS3
variable {σ : zS} {K : zK} {T : Int}
theorem s_thinkN (d : Nat) (h : zSysK K T σ) {n : Nat} (hn : n < 1000) : ∃ σ1, zc (d + 4) mX2_thinkOn [zR (some 0), zI n] σ = some (none, σ1) ∧ AbsC σ1 6 (mrounds n K) ∧ zScr zSc σ σ1 ∧ mOk (mrounds n K) := by
  obtain ⟨σ1, g1, g2, g3⟩ := s_thinkOn d h.1 h.2.2.1 hn
  exact ⟨σ1, g1, g2, zScr_of g3 (by simp [zSc]) (by simp), mrounds_ok h.2.2.1 n⟩
theorem r_takesN (d : Nat) (h : zSysK K T σ) {n : Nat} (hn : n < 1000) : ∃ σ1, zc (d + 4) mX3_takes [zR (some 36), zI n] σ = some (none, σ1) ∧ AbsM σ1 38 (mrounds n K) ∧ zScr zSc σ σ1 := by
  obtain ⟨σ1, g1, g2, g3⟩ := r_takes d h.2.1 h.2.2.1 hn
  exact ⟨σ1, g1, g2, zScr_of g3 (by simp [zSc]) (by simp)⟩
theorem p_lost (h : zSysK K T σ) {x : Int} (hx : R32 x) : zP mX2_lost mX3_lost [zI x] σ := by
  have h0 := h
  obtain ⟨hC, hM, hO, hT1, hT2, hT, -, -⟩ := h
  obtain ⟨x1, x2⟩ := hx
  by_cases q : 0 ≤ x ∧ x ≤ 60
  · obtain ⟨n, rfl⟩ := Int.eq_ofNat_of_zero_le q.1
    refine zP_read h0 (zI (msum (mjoy (mrounds n K)) (mrounds n K).1)) (fun d => ?_) (fun d τ hτ => ?_)
    · obtain ⟨σ1, g1, g2, g3, g4⟩ := s_thinkN (d + 15) h0 (n := n) (by omega)
      refine ⟨σ1, ?_, g3⟩
      rw [e_X2_lost, s_isMind _ _ x1 x2]
      simp (disch := omega) only [nrm_id, zix, ↓reduceIte, if_true, if_false, true_and, and_true, false_and, and_false, not_true_eq_false, not_false_eq_true, Int.reduceAdd, Int.reduceSub, Int.reduceMul, ↓if_pos, ↓if_neg, Option.bind_some, Option.toList_some, Option.toList_none, List.append_nil, List.cons_append, List.nil_append, znat, znat1, zpm1, zcm1, zof0, zof1, zof2, zof3, zofa0, zofa1, b_X2_lost_4, g1, b_X2_lost_15, s_allJoy _ zCo6 g2 g4, b_X2_lost_22]
    · obtain ⟨σ1, g1, g2, g3⟩ := r_takesN (d + 15) hτ (n := n) (by omega)
      refine ⟨σ1, ?_, g3⟩
      rw [e_X3_lost]
      simp (disch := omega) only [nrm_id, zix, ↓reduceIte, if_true, if_false, true_and, and_true, false_and, and_false, not_true_eq_false, not_false_eq_true, Int.reduceAdd, Int.reduceSub, Int.reduceMul, ↓if_pos, ↓if_neg, Option.bind_some, Option.toList_some, Option.toList_none, List.append_nil, List.cons_append, List.nil_append, znat, znat1, zpm1, zcm1, zof0, zof1, zof2, zof3, zofa0, zofa1, r_isIn, b_X3_lost_7, g1, b_X3_lost_18, r_joyAll _ zAr38 g2 (mrounds_ok hτ.2.2.1 n), b_X3_lost_25]
  · refine zP_same h0 (zI 1000000001) (fun d => ?_) (fun d => ?_)
    · rw [e_X2_lost, s_isMind _ _ x1 x2]
      simp (disch := omega) only [nrm_id, zix, ↓reduceIte, if_true, if_false, true_and, and_true, false_and, and_false, not_true_eq_false, not_false_eq_true, Int.reduceAdd, Int.reduceSub, Int.reduceMul, ↓if_pos, ↓if_neg, Option.bind_some, Option.toList_some, Option.toList_none, List.append_nil, List.cons_append, List.nil_append, znat, znat1, zpm1, zcm1, zof0, zof1, zof2, zof3, zofa0, zofa1, b_X2_lost_4]
    · rw [e_X3_lost]
      simp (disch := omega) only [nrm_id, zix, ↓reduceIte, if_true, if_false, true_and, and_true, false_and, and_false, not_true_eq_false, not_false_eq_true, Int.reduceAdd, Int.reduceSub, Int.reduceMul, ↓if_pos, ↓if_neg, Option.bind_some, Option.toList_some, Option.toList_none, List.append_nil, List.cons_append, List.nil_append, znat, znat1, zpm1, zcm1, zof0, zof1, zof2, zof3, zofa0, zofa1, r_isIn, b_X3_lost_7]
theorem p_behind (h : zSysK K T σ) {x n w : Int} (hx : R32 x) (hn : R32 n) (hw : R32 w) : zP mX2_behind mX3_behind [zI x, zI n, zI w] σ := by
  have h0 := h
  obtain ⟨hC, hM, hO, hT1, hT2, hT, -, -⟩ := h
  have hp := hO.1
  obtain ⟨n1, n2⟩ := hn
  obtain ⟨w1, w2⟩ := hw
  by_cases q : 0 ≤ x ∧ x < K.1
  · obtain ⟨r, rfl, hr⟩ := zix_of q.1 q.2
    by_cases q2 : 0 ≤ n ∧ n ≤ 60
    · obtain ⟨n, rfl⟩ := Int.eq_ofNat_of_zero_le q2.1
      by_cases q3 : 0 ≤ w ∧ w ≤ 1
      · by_cases q4 : w = 0
        · subst q4
          refine zP_read h0 (zI ((mrounds n K).2.2.2.2.1 r)) (fun d => ?_) (fun d τ hτ => ?_)
          · obtain ⟨σ1, g1, g2, g3, g4⟩ := s_thinkN (d + 15) h0 (n := n) (by omega)
            have e := g2.2.2.2.2.1 r (by omega)
            refine ⟨σ1, ?_, g3⟩
            rw [e_X2_behind]
            simp (disch := omega) only [nrm_id, zix, ↓reduceIte, if_true, if_false, true_and, and_true, false_and, and_false, not_true_eq_false, not_false_eq_true, Int.reduceAdd, Int.reduceSub, Int.reduceMul, ↓if_pos, ↓if_neg, Option.bind_some, Option.toList_some, Option.toList_none, List.append_nil, List.cons_append, List.nil_append, znat, znat1, zpm1, zcm1, zof0, zof1, zof2, zof3, zofa0, zofa1, s_isRowY _ zCo1 hC hO hr, b_X2_behind_8, s_isMind, b_X2_behind_15, g1, b_X2_behind_34, e]
          · obtain ⟨σ1, g1, g2, g3⟩ := r_takesN (d + 15) hτ (n := n) (by omega)
            have e := g2.2.2.2.2.1 r (by omega)
            refine ⟨σ1, ?_, g3⟩
            rw [e_X3_behind]
            simp (disch := omega) only [nrm_id, zix, ↓reduceIte, if_true, if_false, true_and, and_true, false_and, and_false, not_true_eq_false, not_false_eq_true, Int.reduceAdd, Int.reduceSub, Int.reduceMul, ↓if_pos, ↓if_neg, Option.bind_some, Option.toList_some, Option.toList_none, List.append_nil, List.cons_append, List.nil_append, znat, znat1, zpm1, zcm1, zof0, zof1, zof2, zof3, zofa0, zofa1, r_isRowY _ hτ.2.1 hτ.2.2.1 hr, b_X3_behind_5, r_isIn, b_X3_behind_15, b_X3_behind_24, g1, b_X3_behind_34, r_of, b_X3_behind_47, e]
        · refine zP_read h0 (zI (mroom (mrounds n K) r)) (fun d => ?_) (fun d τ hτ => ?_)
          · obtain ⟨σ1, g1, g2, g3, g4⟩ := s_thinkN (d + 15) h0 (n := n) (by omega)
            refine ⟨σ1, ?_, g3⟩
            rw [e_X2_behind]
            simp (disch := omega) only [nrm_id, zix, ↓reduceIte, if_true, if_false, true_and, and_true, false_and, and_false, not_true_eq_false, not_false_eq_true, Int.reduceAdd, Int.reduceSub, Int.reduceMul, ↓if_pos, ↓if_neg, Option.bind_some, Option.toList_some, Option.toList_none, List.append_nil, List.cons_append, List.nil_append, znat, znat1, zpm1, zcm1, zof0, zof1, zof2, zof3, zofa0, zofa1, s_isRowY _ zCo1 hC hO hr, b_X2_behind_8, s_isMind, b_X2_behind_15, g1, b_X2_behind_34, s_roomAt _ zCo6 g2 (show r < 8 from by omega), b_X2_behind_58]
          · obtain ⟨σ1, g1, g2, g3⟩ := r_takesN (d + 15) hτ (n := n) (by omega)
            refine ⟨σ1, ?_, g3⟩
            rw [e_X3_behind]
            simp (disch := omega) only [nrm_id, zix, ↓reduceIte, if_true, if_false, true_and, and_true, false_and, and_false, not_true_eq_false, not_false_eq_true, Int.reduceAdd, Int.reduceSub, Int.reduceMul, ↓if_pos, ↓if_neg, Option.bind_some, Option.toList_some, Option.toList_none, List.append_nil, List.cons_append, List.nil_append, znat, znat1, zpm1, zcm1, zof0, zof1, zof2, zof3, zofa0, zofa1, r_isRowY _ hτ.2.1 hτ.2.2.1 hr, b_X3_behind_5, r_isIn, b_X3_behind_15, b_X3_behind_24, g1, b_X3_behind_34, r_room _ zAr38 g2 (mrounds_ok hτ.2.2.1 n) (show r < 8 from by omega), b_X3_behind_59]
      · refine zP_same h0 (zI (-1)) (fun d => ?_) (fun d => ?_)
        · rw [e_X2_behind]
          by_cases q5 : w < 0 <;> simp (disch := omega) only [nrm_id, zix, ↓reduceIte, if_true, if_false, true_and, and_true, false_and, and_false, not_true_eq_false, not_false_eq_true, Int.reduceAdd, Int.reduceSub, Int.reduceMul, ↓if_pos, ↓if_neg, Option.bind_some, Option.toList_some, Option.toList_none, List.append_nil, List.cons_append, List.nil_append, znat, znat1, zpm1, zcm1, zof0, zof1, zof2, zof3, zofa0, zofa1, s_isRowY _ zCo1 hC hO hr, b_X2_behind_8, s_isMind, b_X2_behind_15]
        · rw [e_X3_behind]
          simp (disch := omega) only [nrm_id, zix, ↓reduceIte, if_true, if_false, true_and, and_true, false_and, and_false, not_true_eq_false, not_false_eq_true, Int.reduceAdd, Int.reduceSub, Int.reduceMul, ↓if_pos, ↓if_neg, Option.bind_some, Option.toList_some, Option.toList_none, List.append_nil, List.cons_append, List.nil_append, znat, znat1, zpm1, zcm1, zof0, zof1, zof2, zof3, zofa0, zofa1, r_isRowY _ hM hO hr, b_X3_behind_5, r_isIn, b_X3_behind_15, b_X3_behind_24]
    · refine zP_same h0 (zI (-1)) (fun d => ?_) (fun d => ?_)
      · rw [e_X2_behind]
        simp (disch := omega) only [nrm_id, zix, ↓reduceIte, if_true, if_false, true_and, and_true, false_and, and_false, not_true_eq_false, not_false_eq_true, Int.reduceAdd, Int.reduceSub, Int.reduceMul, ↓if_pos, ↓if_neg, Option.bind_some, Option.toList_some, Option.toList_none, List.append_nil, List.cons_append, List.nil_append, znat, znat1, zpm1, zcm1, zof0, zof1, zof2, zof3, zofa0, zofa1, s_isRowY _ zCo1 hC hO hr, b_X2_behind_8, s_isMind, b_X2_behind_15]
      · rw [e_X3_behind]
        simp (disch := omega) only [nrm_id, zix, ↓reduceIte, if_true, if_false, true_and, and_true, false_and, and_false, not_true_eq_false, not_false_eq_true, Int.reduceAdd, Int.reduceSub, Int.reduceMul, ↓if_pos, ↓if_neg, Option.bind_some, Option.toList_some, Option.toList_none, List.append_nil, List.cons_append, List.nil_append, znat, znat1, zpm1, zcm1, zof0, zof1, zof2, zof3, zofa0, zofa1, r_isRowY _ hM hO hr, b_X3_behind_5, r_isIn, b_X3_behind_15]
  · refine zP_same h0 (zI (-1)) (fun d => ?_) (fun d => ?_)
    · rw [e_X2_behind]
      simp (disch := omega) only [nrm_id, zix, ↓reduceIte, if_true, if_false, true_and, and_true, false_and, and_false, not_true_eq_false, not_false_eq_true, Int.reduceAdd, Int.reduceSub, Int.reduceMul, ↓if_pos, ↓if_neg, Option.bind_some, Option.toList_some, Option.toList_none, List.append_nil, List.cons_append, List.nil_append, znat, znat1, zpm1, zcm1, zof0, zof1, zof2, zof3, zofa0, zofa1, s_isRowN _ zCo1 hC hO hx.1 hx.2 q, b_X2_behind_8]
    · rw [e_X3_behind]
      simp (disch := omega) only [nrm_id, zix, ↓reduceIte, if_true, if_false, true_and, and_true, false_and, and_false, not_true_eq_false, not_false_eq_true, Int.reduceAdd, Int.reduceSub, Int.reduceMul, ↓if_pos, ↓if_neg, Option.bind_some, Option.toList_some, Option.toList_none, List.append_nil, List.cons_append, List.nil_append, znat, znat1, zpm1, zcm1, zof0, zof1, zof2, zof3, zofa0, zofa1, r_isRowN _ hM hO hx q, b_X3_behind_5]
theorem p_run (h : zSysK K T σ) {x n : Int} (hx : R32 x) (hn : R32 n) : zP mX2_run mX3_run [zI x, zI n] σ := by
  have h0 := h
  obtain ⟨hC, hM, hO, hT1, hT2, hT, -, -⟩ := h
  have hp := hO.1
  obtain ⟨n1, n2⟩ := hn
  by_cases q : 0 ≤ x ∧ x < K.1
  · obtain ⟨r, rfl, hr⟩ := zix_of q.1 q.2
    by_cases q2 : 0 ≤ n ∧ n ≤ 60
    · obtain ⟨n, rfl⟩ := Int.eq_ofNat_of_zero_le q2.1
      have hpn := mrounds_p n K
      refine zP_read h0 (zI ((mrun (mrounds n K).2.2.2.2.1 r ((mrounds n K).1 - r) : Nat) : Int)) (fun d => ?_) (fun d τ hτ => ?_)
      · obtain ⟨σ1, g1, g2, g3, g4⟩ := s_thinkN (d + 15) h0 (n := n) (by omega)
        refine ⟨σ1, ?_, g3⟩
        rw [e_X2_run]
        simp (disch := omega) only [nrm_id, zix, ↓reduceIte, if_true, if_false, true_and, and_true, false_and, and_false, not_true_eq_false, not_false_eq_true, Int.reduceAdd, Int.reduceSub, Int.reduceMul, ↓if_pos, ↓if_neg, Option.bind_some, Option.toList_some, Option.toList_none, List.append_nil, List.cons_append, List.nil_append, znat, znat1, zpm1, zcm1, zof0, zof1, zof2, zof3, zofa0, zofa1, s_isRowY _ zCo1 hC hO hr, b_X2_run_8, s_isMind, b_X2_run_15, g1, b_X2_run_25, s_tippingFrom _ zCo6 g2 g4 (show r ≤ (mrounds n K).1 from by omega), b_X2_run_33]
      · obtain ⟨σ1, g1, g2, g3⟩ := r_takesN (d + 15) hτ (n := n) (by omega)
        refine ⟨σ1, ?_, g3⟩
        rw [e_X3_run]
        simp (disch := omega) only [nrm_id, zix, ↓reduceIte, if_true, if_false, true_and, and_true, false_and, and_false, not_true_eq_false, not_false_eq_true, Int.reduceAdd, Int.reduceSub, Int.reduceMul, ↓if_pos, ↓if_neg, Option.bind_some, Option.toList_some, Option.toList_none, List.append_nil, List.cons_append, List.nil_append, znat, znat1, zpm1, zcm1, zof0, zof1, zof2, zof3, zofa0, zofa1, r_isRowY _ hτ.2.1 hτ.2.2.1 hr, b_X3_run_5, r_isIn, b_X3_run_15, g1, b_X3_run_25, r_runIn _ g2 (mrounds_ok hτ.2.2.1 n) (show r ≤ (mrounds n K).1 from by omega), b_X3_run_30]
    · refine zP_same h0 (zI (-1)) (fun d => ?_) (fun d => ?_)
      · rw [e_X2_run]
        simp (disch := omega) only [nrm_id, zix, ↓reduceIte, if_true, if_false, true_and, and_true, false_and, and_false, not_true_eq_false, not_false_eq_true, Int.reduceAdd, Int.reduceSub, Int.reduceMul, ↓if_pos, ↓if_neg, Option.bind_some, Option.toList_some, Option.toList_none, List.append_nil, List.cons_append, List.nil_append, znat, znat1, zpm1, zcm1, zof0, zof1, zof2, zof3, zofa0, zofa1, s_isRowY _ zCo1 hC hO hr, b_X2_run_8, s_isMind, b_X2_run_15]
      · rw [e_X3_run]
        simp (disch := omega) only [nrm_id, zix, ↓reduceIte, if_true, if_false, true_and, and_true, false_and, and_false, not_true_eq_false, not_false_eq_true, Int.reduceAdd, Int.reduceSub, Int.reduceMul, ↓if_pos, ↓if_neg, Option.bind_some, Option.toList_some, Option.toList_none, List.append_nil, List.cons_append, List.nil_append, znat, znat1, zpm1, zcm1, zof0, zof1, zof2, zof3, zofa0, zofa1, r_isRowY _ hM hO hr, b_X3_run_5, r_isIn, b_X3_run_15]
  · refine zP_same h0 (zI (-1)) (fun d => ?_) (fun d => ?_)
    · rw [e_X2_run]
      simp (disch := omega) only [nrm_id, zix, ↓reduceIte, if_true, if_false, true_and, and_true, false_and, and_false, not_true_eq_false, not_false_eq_true, Int.reduceAdd, Int.reduceSub, Int.reduceMul, ↓if_pos, ↓if_neg, Option.bind_some, Option.toList_some, Option.toList_none, List.append_nil, List.cons_append, List.nil_append, znat, znat1, zpm1, zcm1, zof0, zof1, zof2, zof3, zofa0, zofa1, s_isRowN _ zCo1 hC hO hx.1 hx.2 q, b_X2_run_8]
    · rw [e_X3_run]
      simp (disch := omega) only [nrm_id, zix, ↓reduceIte, if_true, if_false, true_and, and_true, false_and, and_false, not_true_eq_false, not_false_eq_true, Int.reduceAdd, Int.reduceSub, Int.reduceMul, ↓if_pos, ↓if_neg, Option.bind_some, Option.toList_some, Option.toList_none, List.append_nil, List.cons_append, List.nil_append, znat, znat1, zpm1, zcm1, zof0, zof1, zof2, zof3, zofa0, zofa1, r_isRowN _ hM hO hx q, b_X3_run_5]
theorem p_pays (h : zSysK K T σ) {x : Int} (hx : R32 x) : zP mX2_pays mX3_pays [zI x] σ := by
  have h0 := h
  obtain ⟨hC, hM, hO, hT1, hT2, hT, -, -⟩ := h
  have hp := hO.1
  obtain ⟨x1, x2⟩ := hx
  have hm := hM.1
  by_cases q : 0 ≤ x ∧ x + 1 < K.1
  · obtain ⟨r, rfl⟩ := Int.eq_ofNat_of_zero_le q.1
    have e3 := hC.2.2.2.2.1 r (by omega)
    have e4 := hM.2.2.2.2.1 r (by omega)
    refine zP_same h0 (zI (K.2.2.2.2.1 r * mwo K (r + 1) - K.2.2.2.2.1 r * mwo K r)) (fun d => ?_) (fun d => ?_)
    · rw [e_X2_pays, s_hasOne _ hC hO x1 x2]
      have w2 := s_worthAt (d + 17) zCo1 hC hO (show r + 1 < 8 from by omega)
      have w3 := s_worthAt (d + 17) zCo1 hC hO (show r < 8 from by omega)
      push_cast at w2
      simp (disch := omega) only [nrm_id, zix, ↓reduceIte, if_true, if_false, true_and, and_true, false_and, and_false, not_true_eq_false, not_false_eq_true, Int.reduceAdd, Int.reduceSub, Int.reduceMul, ↓if_pos, ↓if_neg, Option.bind_some, Option.toList_some, Option.toList_none, List.append_nil, List.cons_append, List.nil_append, znat, znat1, zpm1, zcm1, zof0, zof1, zof2, zof3, zofa0, zofa1, b_X2_pays_5, e_X2_wonBehind, w2, w3, e3, b_X2_wonBehind_19, b_X2_pays_16, e_X2_lostAhead, b_X2_lostAhead_17, b_X2_pays_21]
    · rw [e_X3_pays, hm, r_isIn _ _ ⟨x1, x2⟩ (by omega) (by omega)]
      have w2 := r_worthOf (d + 17) zAr37 hM hO (show r + 1 < 8 from by omega)
      have w3 := r_worthOf (d + 17) zAr37 hM hO (show r < 8 from by omega)
      push_cast at w2
      simp (disch := omega) only [nrm_id, zix, ↓reduceIte, if_true, if_false, true_and, and_true, false_and, and_false, not_true_eq_false, not_false_eq_true, Int.reduceAdd, Int.reduceSub, Int.reduceMul, ↓if_pos, ↓if_neg, Option.bind_some, Option.toList_some, Option.toList_none, List.append_nil, List.cons_append, List.nil_append, znat, znat1, zpm1, zcm1, zof0, zof1, zof2, zof3, zofa0, zofa1, b_X3_pays_13, r_of, b_X3_pays_28, e4, w2, w3, b_X3_pays_39, b_X3_pays_47]
      rw [Int.mul_sub]
  · refine zP_same h0 (zI 1000000001) (fun d => ?_) (fun d => ?_)
    · rw [e_X2_pays, s_hasOne _ hC hO x1 x2]
      simp (disch := omega) only [nrm_id, zix, ↓reduceIte, if_true, if_false, true_and, and_true, false_and, and_false, not_true_eq_false, not_false_eq_true, Int.reduceAdd, Int.reduceSub, Int.reduceMul, ↓if_pos, ↓if_neg, Option.bind_some, Option.toList_some, Option.toList_none, List.append_nil, List.cons_append, List.nil_append, znat, znat1, zpm1, zcm1, zof0, zof1, zof2, zof3, zofa0, zofa1, b_X2_pays_5]
    · rw [e_X3_pays, hm, r_isIn _ _ ⟨x1, x2⟩ (by omega) (by omega)]
      simp (disch := omega) only [nrm_id, zix, ↓reduceIte, if_true, if_false, true_and, and_true, false_and, and_false, not_true_eq_false, not_false_eq_true, Int.reduceAdd, Int.reduceSub, Int.reduceMul, ↓if_pos, ↓if_neg, Option.bind_some, Option.toList_some, Option.toList_none, List.append_nil, List.cons_append, List.nil_append, znat, znat1, zpm1, zcm1, zof0, zof1, zof2, zof3, zofa0, zofa1, b_X3_pays_13]
theorem p_price (h : zSysK K T σ) {x : Int} (hx : R32 x) : zP mX2_price mX3_price [zI x] σ := by
  have h0 := h
  obtain ⟨hC, hM, hO, hT1, hT2, hT, -, -⟩ := h
  have hp := hO.1
  obtain ⟨x1, x2⟩ := hx
  have hm := hM.1
  by_cases q : 0 ≤ x ∧ x + 1 < K.1
  · obtain ⟨r, rfl⟩ := Int.eq_ofNat_of_zero_le q.1
    have e3 := hC.2.2.2.2.1 r (by omega)
    have e4 := hM.2.2.2.2.1 r (by omega)
    refine zP_same h0 (zI ((nrm (K.2.2.2.2.1 r * mwo K (r + 1) + K.2.2.2.2.1 r * mwo K r)).tdiv 2)) (fun d => ?_) (fun d => ?_)
    · rw [e_X2_price, s_hasOne _ hC hO x1 x2]
      have w2 := s_worthAt (d + 17) zCo1 hC hO (show r + 1 < 8 from by omega)
      have w3 := s_worthAt (d + 17) zCo1 hC hO (show r < 8 from by omega)
      push_cast at w2
      simp (disch := omega) only [nrm_id, zix, ↓reduceIte, if_true, if_false, true_and, and_true, false_and, and_false, not_true_eq_false, not_false_eq_true, Int.reduceAdd, Int.reduceSub, Int.reduceMul, ↓if_pos, ↓if_neg, Option.bind_some, Option.toList_some, Option.toList_none, List.append_nil, List.cons_append, List.nil_append, znat, znat1, zpm1, zcm1, zof0, zof1, zof2, zof3, zofa0, zofa1, b_X2_price_5, e_X2_wonBehind, w2, w3, e3, b_X2_wonBehind_19, b_X2_price_16, e_X2_lostAhead, b_X2_lostAhead_17, b_X2_price_21]
    · rw [e_X3_price, hm, r_isIn _ _ ⟨x1, x2⟩ (by omega) (by omega)]
      have w2 := r_worthOf (d + 17) zAr37 hM hO (show r + 1 < 8 from by omega)
      have w3 := r_worthOf (d + 17) zAr37 hM hO (show r < 8 from by omega)
      push_cast at w2
      simp (disch := omega) only [nrm_id, zix, ↓reduceIte, if_true, if_false, true_and, and_true, false_and, and_false, not_true_eq_false, not_false_eq_true, Int.reduceAdd, Int.reduceSub, Int.reduceMul, ↓if_pos, ↓if_neg, Option.bind_some, Option.toList_some, Option.toList_none, List.append_nil, List.cons_append, List.nil_append, znat, znat1, zpm1, zcm1, zof0, zof1, zof2, zof3, zofa0, zofa1, b_X3_price_13, r_of, b_X3_price_28, e4, w2, w3, b_X3_price_39, b_X3_price_47]
      rw [Int.mul_add]
  · refine zP_same h0 (zI 1000000001) (fun d => ?_) (fun d => ?_)
    · rw [e_X2_price, s_hasOne _ hC hO x1 x2]
      simp (disch := omega) only [nrm_id, zix, ↓reduceIte, if_true, if_false, true_and, and_true, false_and, and_false, not_true_eq_false, not_false_eq_true, Int.reduceAdd, Int.reduceSub, Int.reduceMul, ↓if_pos, ↓if_neg, Option.bind_some, Option.toList_some, Option.toList_none, List.append_nil, List.cons_append, List.nil_append, znat, znat1, zpm1, zcm1, zof0, zof1, zof2, zof3, zofa0, zofa1, b_X2_price_5]
    · rw [e_X3_price, hm, r_isIn _ _ ⟨x1, x2⟩ (by omega) (by omega)]
      simp (disch := omega) only [nrm_id, zix, ↓reduceIte, if_true, if_false, true_and, and_true, false_and, and_false, not_true_eq_false, not_false_eq_true, Int.reduceAdd, Int.reduceSub, Int.reduceMul, ↓if_pos, ↓if_neg, Option.bind_some, Option.toList_some, Option.toList_none, List.append_nil, List.cons_append, List.nil_append, znat, znat1, zpm1, zcm1, zof0, zof1, zof2, zof3, zofa0, zofa1, b_X3_price_13]
theorem p_seat (h : zSysK K T σ) {x w : Int} (hx : R32 x) (hw : R32 w) : zP mX2_seat mX3_seat [zI x, zI w] σ := by
  have h0 := h
  obtain ⟨hC, hM, hO, hT1, hT2, hT, -, -⟩ := h
  have hp := hO.1
  obtain ⟨w1, w2⟩ := hw
  by_cases q : 0 ≤ x ∧ x < K.1
  · obtain ⟨r, rfl, hr⟩ := zix_of q.1 q.2
    have hr8 : r < 8 := by omega
    have k1 := hC.2.2.1 r hr8
    have k2 := hC.2.2.2.1 r hr8
    have k3 := hC.2.2.2.2.1 r hr8
    have m1 := hM.2.2.1 r hr8
    have m2 := hM.2.2.2.1 r hr8
    have m3 := hM.2.2.2.2.1 r hr8
    have m4 := hM.2.2.2.2.2 r hr8
    have hk := hO.2.2.1 r hr8
    have hf := hO.2.2.2.1 r hr8
    have hb := (hO.2.2.2.2.2 r hr8).1
    have hbl : ∀ d, zc d mX0_isBlocked [zR (some 1), zI r] σ = _ := fun d => s_isBlocked d zCo1 hC hr8
    by_cases q2 : 0 ≤ w ∧ w ≤ 7
    · have hw8 : w = 0 ∨ w = 1 ∨ w = 2 ∨ w = 3 ∨ w = 4 ∨ w = 5 ∨ w = 6 ∨ w = 7 := by omega
      rcases hw8 with rfl | rfl | rfl | rfl | rfl | rfl | rfl | rfl
      · refine zP_same h0 (zI (K.2.2.1 r)) (fun d => ?_) (fun d => ?_)
        · rw [e_X2_seat]; simp (disch := omega) only [nrm_id, zix, ↓reduceIte, if_true, if_false, true_and, and_true, false_and, and_false, not_true_eq_false, not_false_eq_true, Int.reduceAdd, Int.reduceSub, Int.reduceMul, ↓if_pos, ↓if_neg, Option.bind_some, Option.toList_some, Option.toList_none, List.append_nil, List.cons_append, List.nil_append, znat, znat1, zpm1, zcm1, zof0, zof1, zof2, zof3, zofa0, zofa1, s_isRowY _ zCo1 hC hO hr, b_X2_seat_8, k1]
        · rw [e_X3_seat]; simp (disch := omega) only [nrm_id, zix, ↓reduceIte, if_true, if_false, true_and, and_true, false_and, and_false, not_true_eq_false, not_false_eq_true, Int.reduceAdd, Int.reduceSub, Int.reduceMul, ↓if_pos, ↓if_neg, Option.bind_some, Option.toList_some, Option.toList_none, List.append_nil, List.cons_append, List.nil_append, znat, znat1, zpm1, zcm1, zof0, zof1, zof2, zof3, zofa0, zofa1, r_isRowY _ hM hO hr, b_X3_seat_5, r_isIn, b_X3_seat_15, r_of, b_X3_seat_112, m1]
      · refine zP_same h0 (zI (K.2.2.2.1 r)) (fun d => ?_) (fun d => ?_)
        · rw [e_X2_seat]; simp (disch := omega) only [nrm_id, zix, ↓reduceIte, if_true, if_false, true_and, and_true, false_and, and_false, not_true_eq_false, not_false_eq_true, Int.reduceAdd, Int.reduceSub, Int.reduceMul, ↓if_pos, ↓if_neg, Option.bind_some, Option.toList_some, Option.toList_none, List.append_nil, List.cons_append, List.nil_append, znat, znat1, zpm1, zcm1, zof0, zof1, zof2, zof3, zofa0, zofa1, s_isRowY _ zCo1 hC hO hr, b_X2_seat_8, k2]
        · rw [e_X3_seat]; simp (disch := omega) only [nrm_id, zix, ↓reduceIte, if_true, if_false, true_and, and_true, false_and, and_false, not_true_eq_false, not_false_eq_true, Int.reduceAdd, Int.reduceSub, Int.reduceMul, ↓if_pos, ↓if_neg, Option.bind_some, Option.toList_some, Option.toList_none, List.append_nil, List.cons_append, List.nil_append, znat, znat1, zpm1, zcm1, zof0, zof1, zof2, zof3, zofa0, zofa1, r_isRowY _ hM hO hr, b_X3_seat_5, r_isIn, b_X3_seat_15, r_of, b_X3_seat_112, m2]
      · refine zP_same h0 (zI (K.2.2.2.2.1 r)) (fun d => ?_) (fun d => ?_)
        · rw [e_X2_seat]; simp (disch := omega) only [nrm_id, zix, ↓reduceIte, if_true, if_false, true_and, and_true, false_and, and_false, not_true_eq_false, not_false_eq_true, Int.reduceAdd, Int.reduceSub, Int.reduceMul, ↓if_pos, ↓if_neg, Option.bind_some, Option.toList_some, Option.toList_none, List.append_nil, List.cons_append, List.nil_append, znat, znat1, zpm1, zcm1, zof0, zof1, zof2, zof3, zofa0, zofa1, s_isRowY _ zCo1 hC hO hr, b_X2_seat_8, k3]
        · rw [e_X3_seat]; simp (disch := omega) only [nrm_id, zix, ↓reduceIte, if_true, if_false, true_and, and_true, false_and, and_false, not_true_eq_false, not_false_eq_true, Int.reduceAdd, Int.reduceSub, Int.reduceMul, ↓if_pos, ↓if_neg, Option.bind_some, Option.toList_some, Option.toList_none, List.append_nil, List.cons_append, List.nil_append, znat, znat1, zpm1, zcm1, zof0, zof1, zof2, zof3, zofa0, zofa1, r_isRowY _ hM hO hr, b_X3_seat_5, r_isIn, b_X3_seat_15, r_of, b_X3_seat_112, m3]
      · refine zP_same h0 (zI (K.2.2.2.2.2 r)) (fun d => ?_) (fun d => ?_)
        · rw [e_X2_seat]
          rcases hb with e | e <;> simp (disch := omega) only [nrm_id, zix, ↓reduceIte, if_true, if_false, true_and, and_true, false_and, and_false, not_true_eq_false, not_false_eq_true, Int.reduceAdd, Int.reduceSub, Int.reduceMul, ↓if_pos, ↓if_neg, Option.bind_some, Option.toList_some, Option.toList_none, List.append_nil, List.cons_append, List.nil_append, znat, znat1, zpm1, zcm1, zof0, zof1, zof2, zof3, zofa0, zofa1, s_isRowY _ zCo1 hC hO hr, b_X2_seat_8, hbl, e, b_X2_seat_98]
        · rw [e_X3_seat]; simp (disch := omega) only [nrm_id, zix, ↓reduceIte, if_true, if_false, true_and, and_true, false_and, and_false, not_true_eq_false, not_false_eq_true, Int.reduceAdd, Int.reduceSub, Int.reduceMul, ↓if_pos, ↓if_neg, Option.bind_some, Option.toList_some, Option.toList_none, List.append_nil, List.cons_append, List.nil_append, znat, znat1, zpm1, zcm1, zof0, zof1, zof2, zof3, zofa0, zofa1, r_isRowY _ hM hO hr, b_X3_seat_5, r_isIn, b_X3_seat_15, r_of, b_X3_seat_112, m4]
      · refine zP_same h0 (zI (mcan K r)) (fun d => ?_) (fun d => ?_)
        · rw [e_X2_seat]; simp (disch := omega) only [nrm_id, zix, ↓reduceIte, if_true, if_false, true_and, and_true, false_and, and_false, not_true_eq_false, not_false_eq_true, Int.reduceAdd, Int.reduceSub, Int.reduceMul, ↓if_pos, ↓if_neg, Option.bind_some, Option.toList_some, Option.toList_none, List.append_nil, List.cons_append, List.nil_append, znat, znat1, zpm1, zcm1, zof0, zof1, zof2, zof3, zofa0, zofa1, s_isRowY _ zCo1 hC hO hr, b_X2_seat_8, s_canAt _ zCo1 hC hO hr, b_X2_seat_115]
        · rw [e_X3_seat]; simp (disch := omega) only [nrm_id, zix, ↓reduceIte, if_true, if_false, true_and, and_true, false_and, and_false, not_true_eq_false, not_false_eq_true, Int.reduceAdd, Int.reduceSub, Int.reduceMul, ↓if_pos, ↓if_neg, Option.bind_some, Option.toList_some, Option.toList_none, List.append_nil, List.cons_append, List.nil_append, znat, znat1, zpm1, zcm1, zof0, zof1, zof2, zof3, zofa0, zofa1, r_isRowY _ hM hO hr, b_X3_seat_5, r_isIn, b_X3_seat_15, r_can _ zAr37 hM hO hr, b_X3_seat_60]
      · refine zP_same h0 (zI (mknees (K.2.2.1 r) (K.2.2.2.1 r))) (fun d => ?_) (fun d => ?_)
        · rw [e_X2_seat]; simp (disch := omega) only [nrm_id, zix, ↓reduceIte, if_true, if_false, true_and, and_true, false_and, and_false, not_true_eq_false, not_false_eq_true, Int.reduceAdd, Int.reduceSub, Int.reduceMul, ↓if_pos, ↓if_neg, Option.bind_some, Option.toList_some, Option.toList_none, List.append_nil, List.cons_append, List.nil_append, znat, znat1, zpm1, zcm1, zof0, zof1, zof2, zof3, zofa0, zofa1, s_isRowY _ zCo1 hC hO hr, b_X2_seat_8, k1, k2, s_knees, b_X2_seat_137]
        · rw [e_X3_seat]; simp (disch := omega) only [nrm_id, zix, ↓reduceIte, if_true, if_false, true_and, and_true, false_and, and_false, not_true_eq_false, not_false_eq_true, Int.reduceAdd, Int.reduceSub, Int.reduceMul, ↓if_pos, ↓if_neg, Option.bind_some, Option.toList_some, Option.toList_none, List.append_nil, List.cons_append, List.nil_append, znat, znat1, zpm1, zcm1, zof0, zof1, zof2, zof3, zofa0, zofa1, r_isRowY _ hM hO hr, b_X3_seat_5, r_isIn, b_X3_seat_15, r_of, b_X3_seat_70, m1, b_X3_seat_80, m2, s_kneesM, b_X3_seat_84]
      · refine zP_same h0 (zI (mwo K r)) (fun d => ?_) (fun d => ?_)
        · rw [e_X2_seat]; simp (disch := omega) only [nrm_id, zix, ↓reduceIte, if_true, if_false, true_and, and_true, false_and, and_false, not_true_eq_false, not_false_eq_true, Int.reduceAdd, Int.reduceSub, Int.reduceMul, ↓if_pos, ↓if_neg, Option.bind_some, Option.toList_some, Option.toList_none, List.append_nil, List.cons_append, List.nil_append, znat, znat1, zpm1, zcm1, zof0, zof1, zof2, zof3, zofa0, zofa1, s_isRowY _ zCo1 hC hO hr, b_X2_seat_8, s_worthAt _ zCo1 hC hO hr8, b_X2_seat_146]
        · rw [e_X3_seat]; simp (disch := omega) only [nrm_id, zix, ↓reduceIte, if_true, if_false, true_and, and_true, false_and, and_false, not_true_eq_false, not_false_eq_true, Int.reduceAdd, Int.reduceSub, Int.reduceMul, ↓if_pos, ↓if_neg, Option.bind_some, Option.toList_some, Option.toList_none, List.append_nil, List.cons_append, List.nil_append, znat, znat1, zpm1, zcm1, zof0, zof1, zof2, zof3, zofa0, zofa1, r_isRowY _ hM hO hr, b_X3_seat_5, r_isIn, b_X3_seat_15, r_worthOf _ zAr37 hM hO hr8, b_X3_seat_93]
      · refine zP_same h0 (zI (mroom K r)) (fun d => ?_) (fun d => ?_)
        · rw [e_X2_seat]; simp (disch := omega) only [nrm_id, zix, ↓reduceIte, if_true, if_false, true_and, and_true, false_and, and_false, not_true_eq_false, not_false_eq_true, Int.reduceAdd, Int.reduceSub, Int.reduceMul, ↓if_pos, ↓if_neg, Option.bind_some, Option.toList_some, Option.toList_none, List.append_nil, List.cons_append, List.nil_append, znat, znat1, zpm1, zcm1, zof0, zof1, zof2, zof3, zofa0, zofa1, s_isRowY _ zCo1 hC hO hr, b_X2_seat_8, s_roomAt _ zCo1 hC hr8, b_X2_seat_155]
        · rw [e_X3_seat]; simp (disch := omega) only [nrm_id, zix, ↓reduceIte, if_true, if_false, true_and, and_true, false_and, and_false, not_true_eq_false, not_false_eq_true, Int.reduceAdd, Int.reduceSub, Int.reduceMul, ↓if_pos, ↓if_neg, Option.bind_some, Option.toList_some, Option.toList_none, List.append_nil, List.cons_append, List.nil_append, znat, znat1, zpm1, zcm1, zof0, zof1, zof2, zof3, zofa0, zofa1, r_isRowY _ hM hO hr, b_X3_seat_5, r_isIn, b_X3_seat_15, r_room _ zAr37 hM hO hr8, b_X3_seat_102]
    · refine zP_same h0 (zI (-1)) (fun d => ?_) (fun d => ?_)
      · rw [e_X2_seat]
        simp (disch := omega) only [nrm_id, zix, ↓reduceIte, if_true, if_false, true_and, and_true, false_and, and_false, not_true_eq_false, not_false_eq_true, Int.reduceAdd, Int.reduceSub, Int.reduceMul, ↓if_pos, ↓if_neg, Option.bind_some, Option.toList_some, Option.toList_none, List.append_nil, List.cons_append, List.nil_append, znat, znat1, zpm1, zcm1, zof0, zof1, zof2, zof3, zofa0, zofa1, s_isRowY _ zCo1 hC hO hr, b_X2_seat_8]
      · rw [e_X3_seat]; simp (disch := omega) only [nrm_id, zix, ↓reduceIte, if_true, if_false, true_and, and_true, false_and, and_false, not_true_eq_false, not_false_eq_true, Int.reduceAdd, Int.reduceSub, Int.reduceMul, ↓if_pos, ↓if_neg, Option.bind_some, Option.toList_some, Option.toList_none, List.append_nil, List.cons_append, List.nil_append, znat, znat1, zpm1, zcm1, zof0, zof1, zof2, zof3, zofa0, zofa1, r_isRowY _ hM hO hr, b_X3_seat_5, r_isIn, b_X3_seat_15]
  · refine zP_same h0 (zI (-1)) (fun d => ?_) (fun d => ?_)
    · rw [e_X2_seat]; simp (disch := omega) only [nrm_id, zix, ↓reduceIte, if_true, if_false, true_and, and_true, false_and, and_false, not_true_eq_false, not_false_eq_true, Int.reduceAdd, Int.reduceSub, Int.reduceMul, ↓if_pos, ↓if_neg, Option.bind_some, Option.toList_some, Option.toList_none, List.append_nil, List.cons_append, List.nil_append, znat, znat1, zpm1, zcm1, zof0, zof1, zof2, zof3, zofa0, zofa1, s_isRowN _ zCo1 hC hO hx.1 hx.2 q, b_X2_seat_8]
    · rw [e_X3_seat]; simp (disch := omega) only [nrm_id, zix, ↓reduceIte, if_true, if_false, true_and, and_true, false_and, and_false, not_true_eq_false, not_false_eq_true, Int.reduceAdd, Int.reduceSub, Int.reduceMul, ↓if_pos, ↓if_neg, Option.bind_some, Option.toList_some, Option.toList_none, List.append_nil, List.cons_append, List.nil_append, znat, znat1, zpm1, zcm1, zof0, zof1, zof2, zof3, zofa0, zofa1, r_isRowN _ hM hO hx q, b_X3_seat_5]
end SYS3
