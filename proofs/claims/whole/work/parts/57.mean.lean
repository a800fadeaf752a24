section SYS16
variable {σ : zS} {K : zK} {T : Int}
theorem p_mean (h : zSysK K T σ) {x : Int} (hx : R32 x) : zP mX2_mean mX3_mean [zI x] σ := by
  have h0 := h
  obtain ⟨hC, hM, hO, hT1, hT2, hT, -, -⟩ := h
  have hp := hO.1
  obtain ⟨x1, x2⟩ := hx
  by_cases q : 0 ≤ x ∧ x ≤ 1
  · have hw : x = 0 ∨ x = 1 := by omega
    have hrr := msum_rng (f := mroom K) (a := 10) (b := 30) K.1 (fun r hr => mroom_rng hO (by omega))
    obtain ⟨a, ea⟩ := Int.eq_ofNat_of_zero_le (show 0 ≤ msum (mroom K) K.1 by omega)
    refine zP_same h0 (zJ (mpart a K.1 x)) (fun d => ?_) (fun d => ?_)
    · rw [e_X2_mean, hC.1]
      by_cases k0 : K.1 = 0
      · have a0 : a = 0 := by rw [k0] at ea; have e : msum (mroom K) 0 = 0 := rfl; omega
        have sp := s_partOf (σ := σ) (d + 18) (a := 0) (b := 1) (by decide) (by decide) (by decide) hw
        have sp' : zc (d + 19) mX2_partOf [zJ 0, zJ 1, zI x] σ = some (some (zJ (mpart 0 1 x)), σ) := sp
        have e1 : mpart 0 1 x = mpart a K.1 x := by rw [a0]; rfl
        rw [k0]
        simp (disch := omega) only [nrm_id, zix, ↓reduceIte, if_true, if_false, true_and, and_true, false_and, and_false, not_true_eq_false, not_false_eq_true, Int.reduceAdd, Int.reduceSub, Int.reduceMul, ↓if_pos, ↓if_neg, Option.bind_some, Option.toList_some, Option.toList_none, List.append_nil, List.cons_append, List.nil_append, znat, znat1, zpm1, zcm1, zof0, zof1, zof2, zof3, zofa0, zofa1, sp', b_X2_mean_29]
        rw [a0]; rfl
      · have sp := s_partOf (σ := σ) (d + 18) (a := a) (b := K.1) (by omega) (by omega) k0 hw
        simp (disch := omega) only [nrm_id, zix, ↓reduceIte, if_true, if_false, true_and, and_true, false_and, and_false, not_true_eq_false, not_false_eq_true, Int.reduceAdd, Int.reduceSub, Int.reduceMul, ↓if_pos, ↓if_neg, Option.bind_some, Option.toList_some, Option.toList_none, List.append_nil, List.cons_append, List.nil_append, znat, znat1, zpm1, zcm1, zof0, zof1, zof2, zof3, zofa0, zofa1, s_allRoom _ zCo1 hC hO, b_X2_mean_39, hC.1, ea, sp, b_X2_mean_52]
    · have rp := r_partOf (σ := σ) (d + 18) (a := a) (b := K.1) (by omega) (by omega) hw
      rw [e_X3_mean]
      simp (disch := omega) only [nrm_id, zix, ↓reduceIte, if_true, if_false, true_and, and_true, false_and, and_false, not_true_eq_false, not_false_eq_true, Int.reduceAdd, Int.reduceSub, Int.reduceMul, ↓if_pos, ↓if_neg, Option.bind_some, Option.toList_some, Option.toList_none, List.append_nil, List.cons_append, List.nil_append, znat, znat1, zpm1, zcm1, zof0, zof1, zof2, zof3, zofa0, zofa1, r_isIn, b_X3_mean_6, r_roomAll _ hM hO, b_X3_mean_13, hM.1, ea, rp, b_X3_mean_25]
  · refine zP_same h0 (zJ 1000000001) (fun d => ?_) (fun d => ?_)
    · rw [e_X2_mean]
      by_cases q5 : x < 0 <;> simp (disch := omega) only [nrm_id, zix, ↓reduceIte, if_true, if_false, true_and, and_true, false_and, and_false, not_true_eq_false, not_false_eq_true, Int.reduceAdd, Int.reduceSub, Int.reduceMul, ↓if_pos, ↓if_neg, Option.bind_some, Option.toList_some, Option.toList_none, List.append_nil, List.cons_append, List.nil_append, znat, znat1, zpm1, zcm1, zof0, zof1, zof2, zof3, zofa0, zofa1]
    · rw [e_X3_mean]
      simp (disch := omega) only [nrm_id, zix, ↓reduceIte, if_true, if_false, true_and, and_true, false_and, and_false, not_true_eq_false, not_false_eq_true, Int.reduceAdd, Int.reduceSub, Int.reduceMul, ↓if_pos, ↓if_neg, Option.bind_some, Option.toList_some, Option.toList_none, List.append_nil, List.cons_append, List.nil_append, znat, znat1, zpm1, zcm1, zof0, zof1, zof2, zof3, zofa0, zofa1, r_isIn, b_X3_mean_6]
end SYS16
