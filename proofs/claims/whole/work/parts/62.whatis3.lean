section SYS21
variable {σ : zS} {K : zK} {T : Int}
theorem p_whatIs (h : zSysK K T σ) {x y w : Int} (hx : R32 x) (hy : R32 y) (hw : R32 w) : zP mX2_whatIs mX3_whatIs [zI x, zI y, zI w] σ := by
  have h0 := h
  obtain ⟨hC, hM, hO, hT1, hT2, hT, -, hS⟩ := h
  have hp := hO.1
  obtain ⟨w1, w2⟩ := hw
  by_cases q : 0 ≤ x ∧ x < 8
  · obtain ⟨i, rfl, hi⟩ := zix_of q.1 q.2
    have hq := zSh_of i hi
    by_cases qy : 0 ≤ y ∧ y < K.1
    · obtain ⟨r, rfl, hr⟩ := zix_of qy.1 qy.2
      by_cases qw : 0 ≤ w ∧ w ≤ 1
      · obtain ⟨s1, s2, s3, s4⟩ := hS i hi
        have hk := fun d => r_wrongRow (σ := σ) (d + 17) hi (o := -1) (by rw [s2]; exact s1) (Or.inl rfl) (fun e => by rw [s2] at e; have := s4 e; clear s3 s4 hS; omega)
        rw [s2] at hk
        rcases s1 with e | e | e
        · clear s3 s4 hS
          refine zP_same h0 (zI (-11)) (fun d => ?_) (fun d => ?_)
          · rw [e_X2_whatIs]
            simp (disch := omega) only [nrm_id, zix, ↓reduceIte, if_true, if_false, true_and, and_true, false_and, and_false, not_true_eq_false, not_false_eq_true, Int.reduceAdd, Int.reduceSub, Int.reduceMul, ↓if_pos, ↓if_neg, Option.bind_some, Option.toList_some, Option.toList_none, List.append_nil, List.cons_append, List.nil_append, znat, znat1, zpm1, zcm1, zof0, zof1, zof2, zof3, zofa0, zofa1, s_shelfAt _ _ hi, b_X2_whatIs_5 _ _ _ _ hq, s_isRowY _ zCo1 hC hO hr, b_X2_whatIs_20 _ _ _ _ _ hq, s_refusal _ hq (Or.inr rfl) (Or.inl e), e, b_X2_whatIs_40 _ _ _ _ _ hq]
          · rw [e] at hk
            rw [e_X3_whatIs]
            simp (disch := omega) only [nrm_id, zix, ↓reduceIte, if_true, if_false, true_and, and_true, false_and, and_false, not_true_eq_false, not_false_eq_true, Int.reduceAdd, Int.reduceSub, Int.reduceMul, ↓if_pos, ↓if_neg, Option.bind_some, Option.toList_some, Option.toList_none, List.append_nil, List.cons_append, List.nil_append, znat, znat1, zpm1, zcm1, zof0, zof1, zof2, zof3, zofa0, zofa1, r_isRowY _ hM hO hr, b_X3_whatIs_5, r_isIn, b_X3_whatIs_14, hk, b_X3_whatIs_25]
        · clear s3 s4 hS
          refine zP_same h0 (zI (-12)) (fun d => ?_) (fun d => ?_)
          · rw [e_X2_whatIs]
            simp (disch := omega) only [nrm_id, zix, ↓reduceIte, if_true, if_false, true_and, and_true, false_and, and_false, not_true_eq_false, not_false_eq_true, Int.reduceAdd, Int.reduceSub, Int.reduceMul, ↓if_pos, ↓if_neg, Option.bind_some, Option.toList_some, Option.toList_none, List.append_nil, List.cons_append, List.nil_append, znat, znat1, zpm1, zcm1, zof0, zof1, zof2, zof3, zofa0, zofa1, s_shelfAt _ _ hi, b_X2_whatIs_5 _ _ _ _ hq, s_isRowY _ zCo1 hC hO hr, b_X2_whatIs_20 _ _ _ _ _ hq, s_refusal _ hq (Or.inr rfl) (Or.inr (Or.inl e)), e, b_X2_whatIs_40 _ _ _ _ _ hq]
          · rw [e] at hk
            rw [e_X3_whatIs]
            simp (disch := omega) only [nrm_id, zix, ↓reduceIte, if_true, if_false, true_and, and_true, false_and, and_false, not_true_eq_false, not_false_eq_true, Int.reduceAdd, Int.reduceSub, Int.reduceMul, ↓if_pos, ↓if_neg, Option.bind_some, Option.toList_some, Option.toList_none, List.append_nil, List.cons_append, List.nil_append, znat, znat1, zpm1, zcm1, zof0, zof1, zof2, zof3, zofa0, zofa1, r_isRowY _ hM hO hr, b_X3_whatIs_5, r_isIn, b_X3_whatIs_14, hk, b_X3_whatIs_25]
        · obtain ⟨t1, t2, t3, t4, -, t5⟩ := s4 e
          clear s3 s4 hS
          obtain ⟨n, hn⟩ := Int.eq_ofNat_of_zero_le t4.1
          have t5' : ∀ j, j < 100 → σ 50 (100 * i + j) = σ (20 + 2 * i + 1) j ∧ R32 (σ (20 + 2 * i + 1) j) := fun j hj => by
            rw [show 20 + 2 * i + 1 = 21 + 2 * i from by omega]; exact t5 j hj
          have hk2 : ∀ (d : Nat) (τ : zS), zScr zSc σ τ → zc (d + 19) mX3_wrongRow [zR (some 36), zI i, zI (-1)] τ = some (some (zI 0), τ) := fun d τ hs => by
            have e45 : τ 45 i = 2 := by rw [hs.1 45 (by decide) (by decide), s2, e]
            have k := r_wrongRow (σ := τ) (d + 17) hi (o := -1) (by rw [e45]; exact Or.inr (Or.inr rfl)) (Or.inl rfl) (fun _ => by rw [hs.1 48 (by decide) (by decide), t1]; exact t2)
            rw [e45] at k
            rw [k]
            simp (disch := omega) only [nrm_id, zix, ↓reduceIte, if_true, if_false, true_and, and_true, false_and, and_false, not_true_eq_false, not_false_eq_true, Int.reduceAdd, Int.reduceSub, Int.reduceMul, ↓if_pos, ↓if_neg, Option.bind_some, Option.toList_some, Option.toList_none, List.append_nil, List.cons_append, List.nil_append, znat, znat1, zpm1, zcm1, zof0, zof1, zof2, zof3, zofa0, zofa1, Int.reduceNeg, Int.reduceEq, false_implies]
          have q01 : w = 0 ∨ w = 1 := by omega
          rcases q01 with rfl | rfl
          · refine zP_read2 h0 (zI (mset (fun k : Nat => mtold (mKf K r (k : Int) (K.2.2.2.1 r)) (σ (20 + 2 * i + 1)) (mleast (σ (20 + 2 * i) 3)) r n 0) 8)) (fun d => ?_) (fun d τ hτ hs => ?_)
            · obtain ⟨σ1, g1, g2⟩ := s_kinds (d + 14) h0 hi (n := n) hn (by omega) t2 (w := σ (20 + 2 * i + 1)) rfl (fun j hj => (t5' j hj).2) (l := mleast (σ (20 + 2 * i) 3)) rfl hr
              refine ⟨σ1, ?_, g2⟩
              rw [e_X2_whatIs]
              simp (disch := omega) only [nrm_id, zix, ↓reduceIte, if_true, if_false, true_and, and_true, false_and, and_false, not_true_eq_false, not_false_eq_true, Int.reduceAdd, Int.reduceSub, Int.reduceMul, ↓if_pos, ↓if_neg, Option.bind_some, Option.toList_some, Option.toList_none, List.append_nil, List.cons_append, List.nil_append, znat, znat1, zpm1, zcm1, zof0, zof1, zof2, zof3, zofa0, zofa1, s_shelfAt _ _ hi, b_X2_whatIs_5 _ _ _ _ hq, s_isRowY _ zCo1 hC hO hr, b_X2_whatIs_20 _ _ _ _ _ hq, s_refusal _ hq (Or.inr rfl) (Or.inr (Or.inr e)), e, b_X2_whatIs_40 _ _ _ _ _ hq, g1, b_X2_whatIs_61 _ _ _ _ _ _ hq]
            · obtain ⟨σ1, g1, g2⟩ := r_kinds (d + 16) hτ hi (n := n) (s := σ (20 + 2 * i) 3) (by rw [hs.1 48 (by decide) (by decide)]; exact t1) (by rw [hs.1 49 (by decide) (by decide), t3]; exact hn) (by omega) t2 (w := σ (20 + 2 * i + 1)) (fun j hj => by rw [hs.1 50 (by decide) (by decide)]; exact (t5' j hj).1) (fun j hj => (t5' j hj).2) (l := mleast (σ (20 + 2 * i) 3)) rfl hr
              refine ⟨σ1, ?_, g2⟩
              rw [e_X3_whatIs]
              simp (disch := omega) only [nrm_id, zix, ↓reduceIte, if_true, if_false, true_and, and_true, false_and, and_false, not_true_eq_false, not_false_eq_true, Int.reduceAdd, Int.reduceSub, Int.reduceMul, ↓if_pos, ↓if_neg, Option.bind_some, Option.toList_some, Option.toList_none, List.append_nil, List.cons_append, List.nil_append, znat, znat1, zpm1, zcm1, zof0, zof1, zof2, zof3, zofa0, zofa1, r_isRowY _ hτ.2.1 hO hr, b_X3_whatIs_5, r_isIn, b_X3_whatIs_14, hk2 d τ hs, b_X3_whatIs_25]
              exact g1
          · refine zP_read2 h0 (zI (mset (fun k : Nat => mtold (mKf K r (K.2.2.1 r) (k : Int)) (σ (20 + 2 * i + 1)) (mleast (σ (20 + 2 * i) 3)) r n 0) 10)) (fun d => ?_) (fun d τ hτ hs => ?_)
            · obtain ⟨σ1, g1, g2⟩ := s_figures (d + 14) h0 hi (n := n) hn (by omega) t2 (w := σ (20 + 2 * i + 1)) rfl (fun j hj => (t5' j hj).2) (l := mleast (σ (20 + 2 * i) 3)) rfl hr
              refine ⟨σ1, ?_, g2⟩
              rw [e_X2_whatIs]
              simp (disch := omega) only [nrm_id, zix, ↓reduceIte, if_true, if_false, true_and, and_true, false_and, and_false, not_true_eq_false, not_false_eq_true, Int.reduceAdd, Int.reduceSub, Int.reduceMul, ↓if_pos, ↓if_neg, Option.bind_some, Option.toList_some, Option.toList_none, List.append_nil, List.cons_append, List.nil_append, znat, znat1, zpm1, zcm1, zof0, zof1, zof2, zof3, zofa0, zofa1, s_shelfAt _ _ hi, b_X2_whatIs_5 _ _ _ _ hq, s_isRowY _ zCo1 hC hO hr, b_X2_whatIs_20 _ _ _ _ _ hq, s_refusal _ hq (Or.inr rfl) (Or.inr (Or.inr e)), e, b_X2_whatIs_40 _ _ _ _ _ hq, g1, b_X2_whatIs_71]
            · obtain ⟨σ1, g1, g2⟩ := r_figures (d + 16) hτ hi (n := n) (s := σ (20 + 2 * i) 3) (by rw [hs.1 48 (by decide) (by decide)]; exact t1) (by rw [hs.1 49 (by decide) (by decide), t3]; exact hn) (by omega) t2 (w := σ (20 + 2 * i + 1)) (fun j hj => by rw [hs.1 50 (by decide) (by decide)]; exact (t5' j hj).1) (fun j hj => (t5' j hj).2) (l := mleast (σ (20 + 2 * i) 3)) rfl hr
              refine ⟨σ1, ?_, g2⟩
              rw [e_X3_whatIs]
              simp (disch := omega) only [nrm_id, zix, ↓reduceIte, if_true, if_false, true_and, and_true, false_and, and_false, not_true_eq_false, not_false_eq_true, Int.reduceAdd, Int.reduceSub, Int.reduceMul, ↓if_pos, ↓if_neg, Option.bind_some, Option.toList_some, Option.toList_none, List.append_nil, List.cons_append, List.nil_append, znat, znat1, zpm1, zcm1, zof0, zof1, zof2, zof3, zofa0, zofa1, r_isRowY _ hτ.2.1 hO hr, b_X3_whatIs_5, r_isIn, b_X3_whatIs_14, hk2 d τ hs, b_X3_whatIs_25]
              exact g1
      · clear hS
        refine zP_same h0 (zI (-1)) (fun d => ?_) (fun d => ?_)
        · rw [e_X2_whatIs]
          by_cases q5 : w < 0 <;> simp (disch := omega) only [nrm_id, zix, ↓reduceIte, if_true, if_false, true_and, and_true, false_and, and_false, not_true_eq_false, not_false_eq_true, Int.reduceAdd, Int.reduceSub, Int.reduceMul, ↓if_pos, ↓if_neg, Option.bind_some, Option.toList_some, Option.toList_none, List.append_nil, List.cons_append, List.nil_append, znat, znat1, zpm1, zcm1, zof0, zof1, zof2, zof3, zofa0, zofa1, s_shelfAt _ _ hi, b_X2_whatIs_5 _ _ _ _ hq, s_isRowY _ zCo1 hC hO hr, b_X2_whatIs_20 _ _ _ _ _ hq]
        · rw [e_X3_whatIs]
          simp (disch := omega) only [nrm_id, zix, ↓reduceIte, if_true, if_false, true_and, and_true, false_and, and_false, not_true_eq_false, not_false_eq_true, Int.reduceAdd, Int.reduceSub, Int.reduceMul, ↓if_pos, ↓if_neg, Option.bind_some, Option.toList_some, Option.toList_none, List.append_nil, List.cons_append, List.nil_append, znat, znat1, zpm1, zcm1, zof0, zof1, zof2, zof3, zofa0, zofa1, r_isRowY _ hM hO hr, b_X3_whatIs_5, r_isIn, b_X3_whatIs_14]
    · clear hS
      refine zP_same h0 (zI (-1)) (fun d => ?_) (fun d => ?_)
      · rw [e_X2_whatIs]
        simp (disch := omega) only [nrm_id, zix, ↓reduceIte, if_true, if_false, true_and, and_true, false_and, and_false, not_true_eq_false, not_false_eq_true, Int.reduceAdd, Int.reduceSub, Int.reduceMul, ↓if_pos, ↓if_neg, Option.bind_some, Option.toList_some, Option.toList_none, List.append_nil, List.cons_append, List.nil_append, znat, znat1, zpm1, zcm1, zof0, zof1, zof2, zof3, zofa0, zofa1, s_shelfAt _ _ hi, b_X2_whatIs_5 _ _ _ _ hq, s_isRowN _ zCo1 hC hO hy.1 hy.2 qy, b_X2_whatIs_20 _ _ _ _ _ hq]
      · rw [e_X3_whatIs]
        simp (disch := omega) only [nrm_id, zix, ↓reduceIte, if_true, if_false, true_and, and_true, false_and, and_false, not_true_eq_false, not_false_eq_true, Int.reduceAdd, Int.reduceSub, Int.reduceMul, ↓if_pos, ↓if_neg, Option.bind_some, Option.toList_some, Option.toList_none, List.append_nil, List.cons_append, List.nil_append, znat, znat1, zpm1, zcm1, zof0, zof1, zof2, zof3, zofa0, zofa1, r_isRowN _ hM hO hy qy, b_X3_whatIs_5]
  · clear hS
    refine zP_same h0 (zI (-1)) (fun d => ?_) (fun d => ?_)
    · rw [e_X2_whatIs]
      simp (disch := omega) only [nrm_id, zix, ↓reduceIte, if_true, if_false, true_and, and_true, false_and, and_false, not_true_eq_false, not_false_eq_true, Int.reduceAdd, Int.reduceSub, Int.reduceMul, ↓if_pos, ↓if_neg, Option.bind_some, Option.toList_some, Option.toList_none, List.append_nil, List.cons_append, List.nil_append, znat, znat1, zpm1, zcm1, zof0, zof1, zof2, zof3, zofa0, zofa1, s_shelfAtN _ _ hx q, b_X2_whatIs_5_2]
    · rw [e_X3_whatIs, r_isRow _ hM hO hy]
      by_cases qy : 0 ≤ y ∧ y < K.1
      · by_cases qw : 0 ≤ w ∧ w ≤ 1
        · simp (disch := omega) only [nrm_id, zix, ↓reduceIte, if_true, if_false, true_and, and_true, false_and, and_false, not_true_eq_false, not_false_eq_true, Int.reduceAdd, Int.reduceSub, Int.reduceMul, ↓if_pos, ↓if_neg, Option.bind_some, Option.toList_some, Option.toList_none, List.append_nil, List.cons_append, List.nil_append, znat, znat1, zpm1, zcm1, zof0, zof1, zof2, zof3, zofa0, zofa1, b_X3_whatIs_5, r_isIn, b_X3_whatIs_14, r_wrongRowN _ hx q, b_X3_whatIs_25]
        · simp (disch := omega) only [nrm_id, zix, ↓reduceIte, if_true, if_false, true_and, and_true, false_and, and_false, not_true_eq_false, not_false_eq_true, Int.reduceAdd, Int.reduceSub, Int.reduceMul, ↓if_pos, ↓if_neg, Option.bind_some, Option.toList_some, Option.toList_none, List.append_nil, List.cons_append, List.nil_append, znat, znat1, zpm1, zcm1, zof0, zof1, zof2, zof3, zofa0, zofa1, b_X3_whatIs_5, r_isIn, b_X3_whatIs_14]
      · simp (disch := omega) only [nrm_id, zix, ↓reduceIte, if_true, if_false, true_and, and_true, false_and, and_false, not_true_eq_false, not_false_eq_true, Int.reduceAdd, Int.reduceSub, Int.reduceMul, ↓if_pos, ↓if_neg, Option.bind_some, Option.toList_some, Option.toList_none, List.append_nil, List.cons_append, List.nil_append, znat, znat1, zpm1, zcm1, zof0, zof1, zof2, zof3, zofa0, zofa1, b_X3_whatIs_5]
end SYS21
