def mforg (K : zK) (v : Nat → Int) : Nat → Nat → Int
  | 0, _ => -4
  | n + 1, j => if j < K.1 ∧ 0 ≤ v j ∧ v j ≤ mcan K j then mforg K v n (j + 1) else j
def mjdg (K : zK) (v : Nat → Int) (l : Int) : Nat → Nat → Int
  | 0, _ => -4
  | n + 1, j => if v j = l ∨ v j = mtS (mrounds j K) then mjdg K v l n (j + 1) else j
def mleast (s : Int) : Int := if s = 0 then -128 else if s = 1 then -32768 else -2147483648
theorem mleast_rng (s : Int) : -2147483648 ≤ mleast s ∧ mleast s ≤ -128 := by unfold mleast; repeat' split <;> omega
theorem zof50 (i j : Nat) : ((100 * (i : Int)) + j).toNat = 100 * i + j := by omega
section SYS11
variable {σ : zS} {K : zK} {T : Int}
theorem s_isSkipped (d : Nat) {q : Nat} (hq : zSh q) {j : Nat} (hj : (j : Int) < σ q 4) (h4 : σ q 4 ≤ 100) (h3 : 0 ≤ σ q 3 ∧ σ q 3 ≤ 2) (hv : R32 (σ (q + 1) j)) : zc (d + 1) mX1_isSkipped [zR (some q), zI j] σ = some (some (zI (if σ (q + 1) j = mleast (σ q 3) then 1 else 0)), σ) := by
  obtain ⟨v1, v2⟩ := hv
  have l := mleast_rng (σ q 3)
  have e : zc d mX2_leastOf [zI (σ q 3)] σ = some (some (zI (mleast (σ q 3))), σ) := by
    rw [e_X2_leastOf]
    unfold mleast
    have h3' : σ q 3 = 0 ∨ σ q 3 = 1 ∨ σ q 3 = 2 := by omega
    rcases h3' with e | e | e <;> rw [e] <;> simp (disch := omega) only [nrm_id, zix, ↓reduceIte, if_true, if_false, true_and, and_true, false_and, and_false, not_true_eq_false, not_false_eq_true, Int.reduceAdd, Int.reduceSub, Int.reduceMul, ↓if_pos, ↓if_neg, Option.bind_some, Option.toList_some, Option.toList_none, List.append_nil, List.cons_append, List.nil_append, znat, znat1, zpm1, zcm1, zof0, zof1, zof2, zof3, zofa0, zofa1] <;> rfl
  rw [e_X1_isSkipped _ _ hq, e_X1_isPlace _ _ hq]
  by_cases q2 : σ (q + 1) j = mleast (σ q 3)
  · simp (disch := omega) only [nrm_id, zix, ↓reduceIte, if_true, if_false, true_and, and_true, false_and, and_false, not_true_eq_false, not_false_eq_true, Int.reduceAdd, Int.reduceSub, Int.reduceMul, ↓if_pos, ↓if_neg, Option.bind_some, Option.toList_some, Option.toList_none, List.append_nil, List.cons_append, List.nil_append, znat, znat1, zpm1, zcm1, zof0, zof1, zof2, zof3, zofa0, zofa1, b_X1_isSkipped_5 _ _ _ hq, e, b_X1_isSkipped_21 _ _ _ _ hq]
  · simp (disch := omega) only [nrm_id, zix, ↓reduceIte, if_true, if_false, true_and, and_true, false_and, and_false, not_true_eq_false, not_false_eq_true, Int.reduceAdd, Int.reduceSub, Int.reduceMul, ↓if_pos, ↓if_neg, Option.bind_some, Option.toList_some, Option.toList_none, List.append_nil, List.cons_append, List.nil_append, znat, znat1, zpm1, zcm1, zof0, zof1, zof2, zof3, zofa0, zofa1, b_X1_isSkipped_5 _ _ _ hq, e, b_X1_isSkipped_21 _ _ _ _ hq]
theorem r_leastOf (d : Nat) {s : Int} (h3 : 0 ≤ s ∧ s ≤ 2) : zc d mX3_leastOf [zI s] σ = some (some (zI (mleast s)), σ) := by
  rw [e_X3_leastOf]
  unfold mleast
  have h3' : s = 0 ∨ s = 1 ∨ s = 2 := by omega
  rcases h3' with rfl | rfl | rfl <;> simp (disch := omega) only [nrm_id, zix, ↓reduceIte, if_true, if_false, true_and, and_true, false_and, and_false, not_true_eq_false, not_false_eq_true, Int.reduceAdd, Int.reduceSub, Int.reduceMul, ↓if_pos, ↓if_neg, Option.bind_some, Option.toList_some, Option.toList_none, List.append_nil, List.cons_append, List.nil_append, znat, znat1, zpm1, zcm1, zof0, zof1, zof2, zof3, zofa0, zofa1] <;> rfl
theorem p_forged (h : zSysK K T σ) {x : Int} (hx : R32 x) : zP mX2_forged mX3_forged [zI x] σ := by
  have h0 := h
  obtain ⟨hC, hM, hO, hT1, hT2, hT, -, hS⟩ := h
  have hp := hO.1
  by_cases q : 0 ≤ x ∧ x < 8
  · obtain ⟨i, rfl, hi⟩ := zix_of q.1 q.2
    obtain ⟨s1, s2, s3, s4⟩ := hS i hi
    have hq := zSh_of i hi
    have hk := fun d => r_wrongRow (σ := σ) (d + 17) hi (o := -1) (by rw [s2]; exact s1) (Or.inl rfl) (fun e => by rw [s2] at e; have := s4 e; omega)
    rcases s1 with e | e | e
    · clear s3 s4 hS
      refine zP_same h0 (zI (-11)) (fun d => ?_) (fun d => ?_)
      · rw [e_X2_forged]
        simp (disch := omega) only [nrm_id, zix, ↓reduceIte, if_true, if_false, true_and, and_true, false_and, and_false, not_true_eq_false, not_false_eq_true, Int.reduceAdd, Int.reduceSub, Int.reduceMul, ↓if_pos, ↓if_neg, Option.bind_some, Option.toList_some, Option.toList_none, List.append_nil, List.cons_append, List.nil_append, znat, znat1, zpm1, zcm1, zof0, zof1, zof2, zof3, zofa0, zofa1, s_shelfAt _ _ hi, b_X2_forged_5 _ _ hq, s_refusal _ hq (Or.inr rfl) (Or.inl e), e, b_X2_forged_17 _ _ _ hq]
      · have hk := hk d
        rw [s2, e] at hk
        rw [e_X3_forged]
        simp (disch := omega) only [nrm_id, zix, ↓reduceIte, if_true, if_false, true_and, and_true, false_and, and_false, not_true_eq_false, not_false_eq_true, Int.reduceAdd, Int.reduceSub, Int.reduceMul, ↓if_pos, ↓if_neg, Option.bind_some, Option.toList_some, Option.toList_none, List.append_nil, List.cons_append, List.nil_append, znat, znat1, zpm1, zcm1, zof0, zof1, zof2, zof3, zofa0, zofa1, hk, b_X3_forged_6]
    · clear s3 s4 hS
      refine zP_same h0 (zI (-12)) (fun d => ?_) (fun d => ?_)
      · rw [e_X2_forged]
        simp (disch := omega) only [nrm_id, zix, ↓reduceIte, if_true, if_false, true_and, and_true, false_and, and_false, not_true_eq_false, not_false_eq_true, Int.reduceAdd, Int.reduceSub, Int.reduceMul, ↓if_pos, ↓if_neg, Option.bind_some, Option.toList_some, Option.toList_none, List.append_nil, List.cons_append, List.nil_append, znat, znat1, zpm1, zcm1, zof0, zof1, zof2, zof3, zofa0, zofa1, s_shelfAt _ _ hi, b_X2_forged_5 _ _ hq, s_refusal _ hq (Or.inr rfl) (Or.inr (Or.inl e)), e, b_X2_forged_17 _ _ _ hq]
      · have hk := hk d
        rw [s2, e] at hk
        rw [e_X3_forged]
        simp (disch := omega) only [nrm_id, zix, ↓reduceIte, if_true, if_false, true_and, and_true, false_and, and_false, not_true_eq_false, not_false_eq_true, Int.reduceAdd, Int.reduceSub, Int.reduceMul, ↓if_pos, ↓if_neg, Option.bind_some, Option.toList_some, Option.toList_none, List.append_nil, List.cons_append, List.nil_append, znat, znat1, zpm1, zcm1, zof0, zof1, zof2, zof3, zofa0, zofa1, hk, b_X3_forged_6]
    · obtain ⟨t1, t2, t3, t4, -, t5⟩ := s4 e
      clear s3 s4 hS
      obtain ⟨n, hn⟩ := Int.eq_ofNat_of_zero_le t4.1
      have hv : ∀ j, j < 100 → σ 50 (100 * i + j) = σ (20 + 2 * i + 1) j ∧ -2147483648 ≤ σ (20 + 2 * i + 1) j ∧ σ (20 + 2 * i + 1) j < 2147483648 := fun j hj => by
        rw [show 20 + 2 * i + 1 = 21 + 2 * i from by omega]; exact t5 j hj
      refine zP_same h0 (zI (mforg K (σ (20 + 2 * i + 1)) n 0)) (fun d => ?_) (fun d => ?_)
      · have lp : ∀ m j : Nat, j + m = n → zq (d + 20) mX2_forged 27 [some (zR (some 0)), none, some (zR (some (20 + 2 * i))), none, some (zI j), none] [] σ = some (some (zI (mforg K (σ (20 + 2 * i + 1)) m j)), σ) := by
          intro m
          induction m with
          | zero =>
            intro j hj
            rw [b_X2_forged_27 _ _ hq, hn, show j = n from by omega]
            simp (disch := omega) only [nrm_id, zix, ↓reduceIte, if_true, if_false, true_and, and_true, false_and, and_false, not_true_eq_false, not_false_eq_true, Int.reduceAdd, Int.reduceSub, Int.reduceMul, ↓if_pos, ↓if_neg, Option.bind_some, Option.toList_some, Option.toList_none, List.append_nil, List.cons_append, List.nil_append, znat, znat1, zpm1, zcm1, zof0, zof1, zof2, zof3, zofa0, zofa1, mforg]
          | succ m ih =>
            intro j hj
            obtain ⟨-, v1, v2⟩ := hv j (by omega)
            rw [b_X2_forged_27 _ _ hq, hn]
            unfold mforg
            by_cases q1 : j < K.1
            · have cr := mcan_rng hO (r := j) (by omega)
              by_cases q2 : σ (20 + 2 * i + 1) j < 0
              · simp (disch := omega) only [nrm_id, zix, ↓reduceIte, if_true, if_false, true_and, and_true, false_and, and_false, not_true_eq_false, not_false_eq_true, Int.reduceAdd, Int.reduceSub, Int.reduceMul, ↓if_pos, ↓if_neg, Option.bind_some, Option.toList_some, Option.toList_none, List.append_nil, List.cons_append, List.nil_append, znat, znat1, zpm1, zcm1, zof0, zof1, zof2, zof3, zofa0, zofa1, s_isRowY _ zCo1 hC hO q1, b_X2_forged_54 _ _ _ _ hq]
              · by_cases q3 : σ (20 + 2 * i + 1) j ≤ mcan K j
                · simp (disch := omega) only [nrm_id, zix, ↓reduceIte, if_true, if_false, true_and, and_true, false_and, and_false, not_true_eq_false, not_false_eq_true, Int.reduceAdd, Int.reduceSub, Int.reduceMul, ↓if_pos, ↓if_neg, Option.bind_some, Option.toList_some, Option.toList_none, List.append_nil, List.cons_append, List.nil_append, znat, znat1, zpm1, zcm1, zof0, zof1, zof2, zof3, zofa0, zofa1, s_isRowY _ zCo1 hC hO q1, b_X2_forged_54 _ _ _ _ hq, s_canAt _ zCo1 hC hO q1, b_X2_forged_73 _ _ _ _ _ hq]
                  exact ih (j + 1) (by omega)
                · simp (disch := omega) only [nrm_id, zix, ↓reduceIte, if_true, if_false, true_and, and_true, false_and, and_false, not_true_eq_false, not_false_eq_true, Int.reduceAdd, Int.reduceSub, Int.reduceMul, ↓if_pos, ↓if_neg, Option.bind_some, Option.toList_some, Option.toList_none, List.append_nil, List.cons_append, List.nil_append, znat, znat1, zpm1, zcm1, zof0, zof1, zof2, zof3, zofa0, zofa1, s_isRowY _ zCo1 hC hO q1, b_X2_forged_54 _ _ _ _ hq, s_canAt _ zCo1 hC hO q1, b_X2_forged_73 _ _ _ _ _ hq]
            · have e0 := s_isRowN (d + 19) zCo1 hC hO (x := (j : Int)) (by omega) (by omega) (by omega)
              simp (disch := omega) only [nrm_id, zix, ↓reduceIte, if_true, if_false, true_and, and_true, false_and, and_false, not_true_eq_false, not_false_eq_true, Int.reduceAdd, Int.reduceSub, Int.reduceMul, ↓if_pos, ↓if_neg, Option.bind_some, Option.toList_some, Option.toList_none, List.append_nil, List.cons_append, List.nil_append, znat, znat1, zpm1, zcm1, zof0, zof1, zof2, zof3, zofa0, zofa1, e0, b_X2_forged_54 _ _ _ _ hq]
        rw [e_X2_forged]
        simp (disch := omega) only [nrm_id, zix, ↓reduceIte, if_true, if_false, true_and, and_true, false_and, and_false, not_true_eq_false, not_false_eq_true, Int.reduceAdd, Int.reduceSub, Int.reduceMul, ↓if_pos, ↓if_neg, Option.bind_some, Option.toList_some, Option.toList_none, List.append_nil, List.cons_append, List.nil_append, znat, znat1, zpm1, zcm1, zof0, zof1, zof2, zof3, zofa0, zofa1, s_shelfAt _ _ hi, b_X2_forged_5 _ _ hq, s_refusal _ hq (Or.inr rfl) (Or.inr (Or.inr e)), e, b_X2_forged_17 _ _ _ hq]
        exact lp n 0 (by omega)
      · have lp : ∀ m j : Nat, j + m = n → zq (d + 20) mX3_forged 15 [some (zR (some 36)), some (zI i), none, some (zI j)] [] σ = some (some (zI (mforg K (σ (20 + 2 * i + 1)) m j)), σ) := by
          intro m
          induction m with
          | zero =>
            intro j hj
            rw [b_X3_forged_15]
            simp (disch := omega) only [nrm_id, zix, ↓reduceIte, if_true, if_false, true_and, and_true, false_and, and_false, not_true_eq_false, not_false_eq_true, Int.reduceAdd, Int.reduceSub, Int.reduceMul, ↓if_pos, ↓if_neg, Option.bind_some, Option.toList_some, Option.toList_none, List.append_nil, List.cons_append, List.nil_append, znat, znat1, zpm1, zcm1, zof0, zof1, zof2, zof3, zofa0, zofa1, t3, hn, mforg]
          | succ m ih =>
            intro j hj
            obtain ⟨v0, v1, v2⟩ := hv j (by omega)
            rw [b_X3_forged_15]
            unfold mforg
            by_cases q1 : j < K.1
            · have cr := mcan_rng hO (r := j) (by omega)
              by_cases q2 : 0 ≤ σ (20 + 2 * i + 1) j ∧ σ (20 + 2 * i + 1) j ≤ mcan K j
              · simp (disch := omega) only [nrm_id, zix, ↓reduceIte, if_true, if_false, true_and, and_true, false_and, and_false, not_true_eq_false, not_false_eq_true, Int.reduceAdd, Int.reduceSub, Int.reduceMul, ↓if_pos, ↓if_neg, Option.bind_some, Option.toList_some, Option.toList_none, List.append_nil, List.cons_append, List.nil_append, znat, znat1, zpm1, zcm1, zof0, zof1, zof2, zof3, zofa0, zofa1, t3, hn, r_isRowY _ hM hO q1, b_X3_forged_30, r_can _ zAr37 hM hO q1, zof50, v0, b_X3_forged_53, r_isIn, b_X3_forged_56]
                exact ih (j + 1) (by omega)
              · simp (disch := omega) only [nrm_id, zix, ↓reduceIte, if_true, if_false, true_and, and_true, false_and, and_false, not_true_eq_false, not_false_eq_true, Int.reduceAdd, Int.reduceSub, Int.reduceMul, ↓if_pos, ↓if_neg, Option.bind_some, Option.toList_some, Option.toList_none, List.append_nil, List.cons_append, List.nil_append, znat, znat1, zpm1, zcm1, zof0, zof1, zof2, zof3, zofa0, zofa1, t3, hn, r_isRowY _ hM hO q1, b_X3_forged_30, r_can _ zAr37 hM hO q1, zof50, v0, b_X3_forged_53, r_isIn, b_X3_forged_56]
            · have e0 := r_isRowN (d + 18) hM hO (x := (j : Int)) ⟨by omega, by omega⟩ (by omega)
              simp (disch := omega) only [nrm_id, zix, ↓reduceIte, if_true, if_false, true_and, and_true, false_and, and_false, not_true_eq_false, not_false_eq_true, Int.reduceAdd, Int.reduceSub, Int.reduceMul, ↓if_pos, ↓if_neg, Option.bind_some, Option.toList_some, Option.toList_none, List.append_nil, List.cons_append, List.nil_append, znat, znat1, zpm1, zcm1, zof0, zof1, zof2, zof3, zofa0, zofa1, t3, hn, e0, b_X3_forged_30]
        have hk := hk d
        rw [s2, e] at hk
        rw [e_X3_forged]
        simp (disch := omega) only [nrm_id, zix, ↓reduceIte, if_true, if_false, true_and, and_true, false_and, and_false, not_true_eq_false, not_false_eq_true, Int.reduceAdd, Int.reduceSub, Int.reduceMul, ↓if_pos, ↓if_neg, Option.bind_some, Option.toList_some, Option.toList_none, List.append_nil, List.cons_append, List.nil_append, znat, znat1, zpm1, zcm1, zof0, zof1, zof2, zof3, zofa0, zofa1, hk, b_X3_forged_6, Int.reduceNeg, Int.reduceEq, false_implies]
        exact lp n 0 (by omega)
  · refine zP_same h0 (zI (-1)) (fun d => ?_) (fun d => ?_)
    · rw [e_X2_forged]
      simp (disch := omega) only [nrm_id, zix, ↓reduceIte, if_true, if_false, true_and, and_true, false_and, and_false, not_true_eq_false, not_false_eq_true, Int.reduceAdd, Int.reduceSub, Int.reduceMul, ↓if_pos, ↓if_neg, Option.bind_some, Option.toList_some, Option.toList_none, List.append_nil, List.cons_append, List.nil_append, znat, znat1, zpm1, zcm1, zof0, zof1, zof2, zof3, zofa0, zofa1, s_shelfAtN _ _ hx q, b_X2_forged_5_2]
    · rw [e_X3_forged]
      simp (disch := omega) only [nrm_id, zix, ↓reduceIte, if_true, if_false, true_and, and_true, false_and, and_false, not_true_eq_false, not_false_eq_true, Int.reduceAdd, Int.reduceSub, Int.reduceMul, ↓if_pos, ↓if_neg, Option.bind_some, Option.toList_some, Option.toList_none, List.append_nil, List.cons_append, List.nil_append, znat, znat1, zpm1, zcm1, zof0, zof1, zof2, zof3, zofa0, zofa1, r_wrongRowN _ hx q, b_X3_forged_6]
end SYS11
