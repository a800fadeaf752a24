section SYS13
variable {σ : zS} {K : zK} {T : Int}
theorem zShR_pt {σ σ' : zS} {d : Nat} (h : zShR σ d) (e0 : σ' (20 + 2 * d) = σ (20 + 2 * d)) (e1 : σ' (21 + 2 * d) = σ (21 + 2 * d)) (e2 : σ' 45 d = σ 45 d) (e3 : σ' 46 d = σ 46 d) (e4 : σ' 47 d = σ 47 d) (e5 : σ' 48 d = σ 48 d) (e6 : σ' 49 d = σ 49 d) (e7 : ∀ k, k < 100 → σ' 50 (100 * d + k) = σ 50 (100 * d + k)) : zShR σ' d := by
  unfold zShR at h ⊢
  rw [e0, e1, e2, e3, e4, e5, e6]
  obtain ⟨a, b, c, g⟩ := h
  refine ⟨a, b, c, fun e => ?_⟩
  obtain ⟨t1, t2, t3, t4, tb, t5⟩ := g e
  exact ⟨t1, t2, t3, t4, tb, fun k hk => by rw [e7 k hk]; exact t5 k hk⟩
theorem zSys_shelf {σ' : zS} (h : zSysK K T σ) {i : Nat} (hi : i < 8) (hq : ∀ q, q ≠ 20 + 2 * i → q ≠ 21 + 2 * i → q < 45 ∨ 50 < q → σ' q = σ q) (h45 : ∀ j, j < 8 → j ≠ i → σ' 45 j = σ 45 j ∧ σ' 46 j = σ 46 j ∧ σ' 47 j = σ 47 j ∧ σ' 48 j = σ 48 j ∧ σ' 49 j = σ 49 j) (h50 : ∀ x, x < 100 * i ∨ 100 * i + 100 ≤ x → σ' 50 x = σ 50 x) (hn : zShR σ' i) : zSysK K T σ' := by
  obtain ⟨hC, hM, hO, hT1, hT2, hT, hI, hS⟩ := h
  have q : ∀ x, x < 20 ∨ 36 ≤ x → x < 45 → σ' x = σ x := fun x h1 h2 => hq x (by omega) (by omega) (Or.inl h2)
  refine ⟨AbsC_fr hC (q 1 (by decide) (by decide)) (q 2 (by decide) (by decide)) (q 3 (by decide) (by decide)) (q 4 (by decide) (by decide)), AbsM_fr hM (q 37 (by decide) (by decide)), hO, by rw [q 1 (by decide) (by decide)]; exact hT1, by rw [q 37 (by decide) (by decide)]; exact hT2, hT, ?_, fun d hd => ?_⟩
  · unfold zImg at hI ⊢
    rw [q 0 (by decide) (by decide), q 36 (by decide) (by decide)]
    rcases hI with hI | ⟨a, b, KI, TI, c1, c2, c3, c4, c5, c6⟩
    · exact Or.inl hI
    · refine Or.inr ⟨a, b, KI, TI, AbsC_fr c1 (q 11 (by decide) (by decide)) (q 12 (by decide) (by decide)) (q 13 (by decide) (by decide)) (q 14 (by decide) (by decide)), AbsM_fr c2 (q 39 (by decide) (by decide)), c3, by rw [q 11 (by decide) (by decide)]; exact c4, by rw [q 39 (by decide) (by decide)]; exact c5, c6⟩
  · by_cases e : d = i
    · subst e; exact hn
    · obtain ⟨a1, a2, a3, a4, a5⟩ := h45 d hd e
      exact zShR_pt (hS d hd) (hq _ (by omega) (by omega) (by omega)) (hq _ (by omega) (by omega) (by omega)) a1 a2 a3 a4 a5 (fun k hk => h50 _ (by omega))
theorem p_keep (h : zSysK K T σ) {x w k f : Int} (hx : R32 x) (hw : R32 w) (hk : R32 k) (hf : R32 f) : zP mX2_keep mX3_keep [zI x, zI w, zI k, zI f] σ := by
  intro d
  obtain ⟨w1, w2⟩ := hw
  obtain ⟨k1, k2⟩ := hk
  obtain ⟨f1, f2⟩ := hf
  by_cases q : 0 ≤ x ∧ x < 8
  · obtain ⟨i, rfl, hi⟩ := zix_of q.1 q.2
    have hq := zSh_of i hi
    by_cases q0 : w = 0
    · subst q0
      refine ⟨zup σ (20 + 2 * i) 0 0, zup (zup (zup (zup σ (20 + 2 * i) 0 0) 45 i 0) 46 i k) 47 i f, zI 0, ?_, ?_, K, T, zSys_shelf h hi (fun p h1 h2 h3 => ?_) (fun j hj hji => ?_) (fun p hp => ?_) ?_⟩
      · rw [e_X2_keep]
        simp (disch := omega) only [nrm_id, zix, ↓reduceIte, if_true, if_false, true_and, and_true, false_and, and_false, not_true_eq_false, not_false_eq_true, Int.reduceAdd, Int.reduceSub, Int.reduceMul, ↓if_pos, ↓if_neg, Option.bind_some, Option.toList_some, Option.toList_none, List.append_nil, List.cons_append, List.nil_append, znat, znat1, zpm1, zcm1, zof0, zof1, zof2, zof3, zofa0, zofa1, s_shelfAt _ _ hi, b_X2_keep_5 _ _ _ _ _ hq]
      · rw [e_X3_keep, r_isShelf _ _ ⟨by omega, by omega⟩]
        simp (disch := omega) only [nrm_id, zix, ↓reduceIte, if_true, if_false, true_and, and_true, false_and, and_false, not_true_eq_false, not_false_eq_true, Int.reduceAdd, Int.reduceSub, Int.reduceMul, ↓if_pos, ↓if_neg, Option.bind_some, Option.toList_some, Option.toList_none, List.append_nil, List.cons_append, List.nil_append, znat, znat1, zpm1, zcm1, zof0, zof1, zof2, zof3, zofa0, zofa1, b_X3_keep_4, r_isIn, b_X3_keep_13, b_X3_keep_44]
      · rw [zup_ne (by omega), zup_ne (by omega), zup_ne (by omega), zup_ne h1]
      · simp (disch := omega) only [nrm_id, zix, ↓reduceIte, if_true, if_false, true_and, and_true, false_and, and_false, not_true_eq_false, not_false_eq_true, Int.reduceAdd, Int.reduceSub, Int.reduceMul, ↓if_pos, ↓if_neg, Option.bind_some, Option.toList_some, Option.toList_none, List.append_nil, List.cons_append, List.nil_append, znat, znat1, zpm1, zcm1, zof0, zof1, zof2, zof3, zofa0, zofa1, zup_ix, zup_ne]
      · simp (disch := omega) only [nrm_id, zix, ↓reduceIte, if_true, if_false, true_and, and_true, false_and, and_false, not_true_eq_false, not_false_eq_true, Int.reduceAdd, Int.reduceSub, Int.reduceMul, ↓if_pos, ↓if_neg, Option.bind_some, Option.toList_some, Option.toList_none, List.append_nil, List.cons_append, List.nil_append, znat, znat1, zpm1, zcm1, zof0, zof1, zof2, zof3, zofa0, zofa1, zup_ne]
      · have e1 : zup (zup (zup (zup σ (20 + 2 * i) 0 0) 45 i 0) 46 i k) 47 i f (20 + 2 * i) 0 = 0 := by simp (disch := omega) only [nrm_id, zix, ↓reduceIte, if_true, if_false, true_and, and_true, false_and, and_false, not_true_eq_false, not_false_eq_true, Int.reduceAdd, Int.reduceSub, Int.reduceMul, ↓if_pos, ↓if_neg, Option.bind_some, Option.toList_some, Option.toList_none, List.append_nil, List.cons_append, List.nil_append, znat, znat1, zpm1, zcm1, zof0, zof1, zof2, zof3, zofa0, zofa1, zup_ne, zup_at]
        have e2 : zup (zup (zup (zup σ (20 + 2 * i) 0 0) 45 i 0) 46 i k) 47 i f 45 i = 0 := by simp (disch := omega) only [nrm_id, zix, ↓reduceIte, if_true, if_false, true_and, and_true, false_and, and_false, not_true_eq_false, not_false_eq_true, Int.reduceAdd, Int.reduceSub, Int.reduceMul, ↓if_pos, ↓if_neg, Option.bind_some, Option.toList_some, Option.toList_none, List.append_nil, List.cons_append, List.nil_append, znat, znat1, zpm1, zcm1, zof0, zof1, zof2, zof3, zofa0, zofa1, zup_ne, zup_at]
        unfold zShR
        rw [e1, e2]
        exact ⟨Or.inl rfl, rfl, fun a => absurd a (by decide), fun a => absurd a (by decide)⟩
    · by_cases q1 : w = 1 ∧ (0 ≤ k ∧ k ≤ 7) ∧ 0 ≤ f ∧ f ≤ 9
      · obtain ⟨rfl, qk, qf⟩ := q1
        refine ⟨zup (zup (zup σ (20 + 2 * i) 0 1) (20 + 2 * i) 1 k) (20 + 2 * i) 2 f, zup (zup (zup (zup (zup (zup σ (20 + 2 * i) 0 1) (20 + 2 * i) 1 k) (20 + 2 * i) 2 f) 45 i 1) 46 i k) 47 i f, zI 0, ?_, ?_, K, T, zSys_shelf h hi (fun p h1 h2 h3 => ?_) (fun j hj hji => ?_) (fun p hp => ?_) ?_⟩
        · rw [e_X2_keep]
          simp (disch := omega) only [nrm_id, zix, ↓reduceIte, if_true, if_false, true_and, and_true, false_and, and_false, not_true_eq_false, not_false_eq_true, Int.reduceAdd, Int.reduceSub, Int.reduceMul, ↓if_pos, ↓if_neg, Option.bind_some, Option.toList_some, Option.toList_none, List.append_nil, List.cons_append, List.nil_append, znat, znat1, zpm1, zcm1, zof0, zof1, zof2, zof3, zofa0, zofa1, s_shelfAt _ _ hi, b_X2_keep_5 _ _ _ _ _ hq]
        · rw [e_X3_keep, r_isShelf _ _ ⟨by omega, by omega⟩]
          simp (disch := omega) only [nrm_id, zix, ↓reduceIte, if_true, if_false, true_and, and_true, false_and, and_false, not_true_eq_false, not_false_eq_true, Int.reduceAdd, Int.reduceSub, Int.reduceMul, ↓if_pos, ↓if_neg, Option.bind_some, Option.toList_some, Option.toList_none, List.append_nil, List.cons_append, List.nil_append, znat, znat1, zpm1, zcm1, zof0, zof1, zof2, zof3, zofa0, zofa1, b_X3_keep_4, r_isIn, b_X3_keep_13, b_X3_keep_28, b_X3_keep_39, b_X3_keep_44]
        · simp (disch := omega) only [nrm_id, zix, ↓reduceIte, if_true, if_false, true_and, and_true, false_and, and_false, not_true_eq_false, not_false_eq_true, Int.reduceAdd, Int.reduceSub, Int.reduceMul, ↓if_pos, ↓if_neg, Option.bind_some, Option.toList_some, Option.toList_none, List.append_nil, List.cons_append, List.nil_append, znat, znat1, zpm1, zcm1, zof0, zof1, zof2, zof3, zofa0, zofa1, zup_ne]
        · simp (disch := omega) only [nrm_id, zix, ↓reduceIte, if_true, if_false, true_and, and_true, false_and, and_false, not_true_eq_false, not_false_eq_true, Int.reduceAdd, Int.reduceSub, Int.reduceMul, ↓if_pos, ↓if_neg, Option.bind_some, Option.toList_some, Option.toList_none, List.append_nil, List.cons_append, List.nil_append, znat, znat1, zpm1, zcm1, zof0, zof1, zof2, zof3, zofa0, zofa1, zup_ix, zup_ne]
        · simp (disch := omega) only [nrm_id, zix, ↓reduceIte, if_true, if_false, true_and, and_true, false_and, and_false, not_true_eq_false, not_false_eq_true, Int.reduceAdd, Int.reduceSub, Int.reduceMul, ↓if_pos, ↓if_neg, Option.bind_some, Option.toList_some, Option.toList_none, List.append_nil, List.cons_append, List.nil_append, znat, znat1, zpm1, zcm1, zof0, zof1, zof2, zof3, zofa0, zofa1, zup_ne]
        · generalize hτ : zup (zup (zup (zup (zup (zup σ (20 + 2 * i) 0 1) (20 + 2 * i) 1 k) (20 + 2 * i) 2 f) 45 i 1) 46 i k) 47 i f = τ
          have e0 : τ (20 + 2 * i) 0 = 1 := by rw [← hτ]; simp (disch := omega) only [nrm_id, zix, ↓reduceIte, if_true, if_false, true_and, and_true, false_and, and_false, not_true_eq_false, not_false_eq_true, Int.reduceAdd, Int.reduceSub, Int.reduceMul, ↓if_pos, ↓if_neg, Option.bind_some, Option.toList_some, Option.toList_none, List.append_nil, List.cons_append, List.nil_append, znat, znat1, zpm1, zcm1, zof0, zof1, zof2, zof3, zofa0, zofa1, zup_ne, zup_at, zup_ix]
          have e1 : τ (20 + 2 * i) 1 = k := by rw [← hτ]; simp (disch := omega) only [nrm_id, zix, ↓reduceIte, if_true, if_false, true_and, and_true, false_and, and_false, not_true_eq_false, not_false_eq_true, Int.reduceAdd, Int.reduceSub, Int.reduceMul, ↓if_pos, ↓if_neg, Option.bind_some, Option.toList_some, Option.toList_none, List.append_nil, List.cons_append, List.nil_append, znat, znat1, zpm1, zcm1, zof0, zof1, zof2, zof3, zofa0, zofa1, zup_ne, zup_at, zup_ix]
          have e2 : τ (20 + 2 * i) 2 = f := by rw [← hτ]; simp (disch := omega) only [nrm_id, zix, ↓reduceIte, if_true, if_false, true_and, and_true, false_and, and_false, not_true_eq_false, not_false_eq_true, Int.reduceAdd, Int.reduceSub, Int.reduceMul, ↓if_pos, ↓if_neg, Option.bind_some, Option.toList_some, Option.toList_none, List.append_nil, List.cons_append, List.nil_append, znat, znat1, zpm1, zcm1, zof0, zof1, zof2, zof3, zofa0, zofa1, zup_ne, zup_at, zup_ix]
          have e3 : τ 45 i = 1 := by rw [← hτ]; simp (disch := omega) only [nrm_id, zix, ↓reduceIte, if_true, if_false, true_and, and_true, false_and, and_false, not_true_eq_false, not_false_eq_true, Int.reduceAdd, Int.reduceSub, Int.reduceMul, ↓if_pos, ↓if_neg, Option.bind_some, Option.toList_some, Option.toList_none, List.append_nil, List.cons_append, List.nil_append, znat, znat1, zpm1, zcm1, zof0, zof1, zof2, zof3, zofa0, zofa1, zup_ne, zup_at, zup_ix]
          have e4 : τ 46 i = k := by rw [← hτ]; simp (disch := omega) only [nrm_id, zix, ↓reduceIte, if_true, if_false, true_and, and_true, false_and, and_false, not_true_eq_false, not_false_eq_true, Int.reduceAdd, Int.reduceSub, Int.reduceMul, ↓if_pos, ↓if_neg, Option.bind_some, Option.toList_some, Option.toList_none, List.append_nil, List.cons_append, List.nil_append, znat, znat1, zpm1, zcm1, zof0, zof1, zof2, zof3, zofa0, zofa1, zup_ne, zup_at, zup_ix]
          have e5 : τ 47 i = f := by rw [← hτ]; simp (disch := omega) only [nrm_id, zix, ↓reduceIte, if_true, if_false, true_and, and_true, false_and, and_false, not_true_eq_false, not_false_eq_true, Int.reduceAdd, Int.reduceSub, Int.reduceMul, ↓if_pos, ↓if_neg, Option.bind_some, Option.toList_some, Option.toList_none, List.append_nil, List.cons_append, List.nil_append, znat, znat1, zpm1, zcm1, zof0, zof1, zof2, zof3, zofa0, zofa1, zup_ne, zup_at, zup_ix]
          unfold zShR
          rw [e0, e1, e2, e3, e4, e5]
          exact ⟨Or.inr (Or.inl rfl), rfl, fun _ => ⟨rfl, rfl, qk, qf⟩, fun a => absurd a (by decide)⟩
      · refine ⟨σ, σ, zI (-1), ?_, ?_, K, T, h⟩
        · rw [e_X2_keep]
          by_cases w3 : w < 0
          · simp (disch := omega) only [nrm_id, zix, ↓reduceIte, if_true, if_false, true_and, and_true, false_and, and_false, not_true_eq_false, not_false_eq_true, Int.reduceAdd, Int.reduceSub, Int.reduceMul, ↓if_pos, ↓if_neg, Option.bind_some, Option.toList_some, Option.toList_none, List.append_nil, List.cons_append, List.nil_append, znat, znat1, zpm1, zcm1, zof0, zof1, zof2, zof3, zofa0, zofa1, s_shelfAt _ _ hi, b_X2_keep_5 _ _ _ _ _ hq]
          · by_cases w4 : w ≤ 1
            · by_cases w5 : k < 0
              · simp (disch := omega) only [nrm_id, zix, ↓reduceIte, if_true, if_false, true_and, and_true, false_and, and_false, not_true_eq_false, not_false_eq_true, Int.reduceAdd, Int.reduceSub, Int.reduceMul, ↓if_pos, ↓if_neg, Option.bind_some, Option.toList_some, Option.toList_none, List.append_nil, List.cons_append, List.nil_append, znat, znat1, zpm1, zcm1, zof0, zof1, zof2, zof3, zofa0, zofa1, s_shelfAt _ _ hi, b_X2_keep_5 _ _ _ _ _ hq]
              · by_cases w6 : 8 ≤ k
                · simp (disch := omega) only [nrm_id, zix, ↓reduceIte, if_true, if_false, true_and, and_true, false_and, and_false, not_true_eq_false, not_false_eq_true, Int.reduceAdd, Int.reduceSub, Int.reduceMul, ↓if_pos, ↓if_neg, Option.bind_some, Option.toList_some, Option.toList_none, List.append_nil, List.cons_append, List.nil_append, znat, znat1, zpm1, zcm1, zof0, zof1, zof2, zof3, zofa0, zofa1, s_shelfAt _ _ hi, b_X2_keep_5 _ _ _ _ _ hq]
                · by_cases w7 : f < 0
                  · simp (disch := omega) only [nrm_id, zix, ↓reduceIte, if_true, if_false, true_and, and_true, false_and, and_false, not_true_eq_false, not_false_eq_true, Int.reduceAdd, Int.reduceSub, Int.reduceMul, ↓if_pos, ↓if_neg, Option.bind_some, Option.toList_some, Option.toList_none, List.append_nil, List.cons_append, List.nil_append, znat, znat1, zpm1, zcm1, zof0, zof1, zof2, zof3, zofa0, zofa1, s_shelfAt _ _ hi, b_X2_keep_5 _ _ _ _ _ hq]
                  · simp (disch := omega) only [nrm_id, zix, ↓reduceIte, if_true, if_false, true_and, and_true, false_and, and_false, not_true_eq_false, not_false_eq_true, Int.reduceAdd, Int.reduceSub, Int.reduceMul, ↓if_pos, ↓if_neg, Option.bind_some, Option.toList_some, Option.toList_none, List.append_nil, List.cons_append, List.nil_append, znat, znat1, zpm1, zcm1, zof0, zof1, zof2, zof3, zofa0, zofa1, s_shelfAt _ _ hi, b_X2_keep_5 _ _ _ _ _ hq]
            · simp (disch := omega) only [nrm_id, zix, ↓reduceIte, if_true, if_false, true_and, and_true, false_and, and_false, not_true_eq_false, not_false_eq_true, Int.reduceAdd, Int.reduceSub, Int.reduceMul, ↓if_pos, ↓if_neg, Option.bind_some, Option.toList_some, Option.toList_none, List.append_nil, List.cons_append, List.nil_append, znat, znat1, zpm1, zcm1, zof0, zof1, zof2, zof3, zofa0, zofa1, s_shelfAt _ _ hi, b_X2_keep_5 _ _ _ _ _ hq]
        · rw [e_X3_keep, r_isShelf _ _ ⟨by omega, by omega⟩]
          by_cases w3 : 0 ≤ w ∧ w ≤ 1
          · by_cases w4 : 0 ≤ k ∧ k ≤ 7
            · simp (disch := omega) only [nrm_id, zix, ↓reduceIte, if_true, if_false, true_and, and_true, false_and, and_false, not_true_eq_false, not_false_eq_true, Int.reduceAdd, Int.reduceSub, Int.reduceMul, ↓if_pos, ↓if_neg, Option.bind_some, Option.toList_some, Option.toList_none, List.append_nil, List.cons_append, List.nil_append, znat, znat1, zpm1, zcm1, zof0, zof1, zof2, zof3, zofa0, zofa1, b_X3_keep_4, r_isIn, b_X3_keep_13, b_X3_keep_28, b_X3_keep_39]
            · simp (disch := omega) only [nrm_id, zix, ↓reduceIte, if_true, if_false, true_and, and_true, false_and, and_false, not_true_eq_false, not_false_eq_true, Int.reduceAdd, Int.reduceSub, Int.reduceMul, ↓if_pos, ↓if_neg, Option.bind_some, Option.toList_some, Option.toList_none, List.append_nil, List.cons_append, List.nil_append, znat, znat1, zpm1, zcm1, zof0, zof1, zof2, zof3, zofa0, zofa1, b_X3_keep_4, r_isIn, b_X3_keep_13, b_X3_keep_28]
          · simp (disch := omega) only [nrm_id, zix, ↓reduceIte, if_true, if_false, true_and, and_true, false_and, and_false, not_true_eq_false, not_false_eq_true, Int.reduceAdd, Int.reduceSub, Int.reduceMul, ↓if_pos, ↓if_neg, Option.bind_some, Option.toList_some, Option.toList_none, List.append_nil, List.cons_append, List.nil_append, znat, znat1, zpm1, zcm1, zof0, zof1, zof2, zof3, zofa0, zofa1, b_X3_keep_4, r_isIn, b_X3_keep_13]
  · refine ⟨σ, σ, zI (-1), ?_, ?_, K, T, h⟩
    · rw [e_X2_keep]
      simp (disch := omega) only [nrm_id, zix, ↓reduceIte, if_true, if_false, true_and, and_true, false_and, and_false, not_true_eq_false, not_false_eq_true, Int.reduceAdd, Int.reduceSub, Int.reduceMul, ↓if_pos, ↓if_neg, Option.bind_some, Option.toList_some, Option.toList_none, List.append_nil, List.cons_append, List.nil_append, znat, znat1, zpm1, zcm1, zof0, zof1, zof2, zof3, zofa0, zofa1, s_shelfAtN _ _ hx q, b_X2_keep_5_2]
    · rw [e_X3_keep, r_isShelf _ _ hx]
      simp (disch := omega) only [nrm_id, zix, ↓reduceIte, if_true, if_false, true_and, and_true, false_and, and_false, not_true_eq_false, not_false_eq_true, Int.reduceAdd, Int.reduceSub, Int.reduceMul, ↓if_pos, ↓if_neg, Option.bind_some, Option.toList_some, Option.toList_none, List.append_nil, List.cons_append, List.nil_append, znat, znat1, zpm1, zcm1, zof0, zof1, zof2, zof3, zofa0, zofa1, b_X3_keep_4]
theorem r_zero (d : Nat) {i : Nat} (hi : i < 8) : ∀ (m j : Nat) (τ : zS), j + m = 100 → ∃ τ' : zS, zq d mX3_row 55 [some (zR (some 36)), some (zI i), none, none, some (zI j)] [] τ = some (some (zI 0), τ') ∧ (∀ k, j ≤ k → k < 100 → τ' 50 (100 * i + k) = 0) ∧ (∀ x, x < 100 * i + j ∨ 100 * i + 100 ≤ x → τ' 50 x = τ 50 x) ∧ zFr [50] τ τ' := by
  intro m
  induction m with
  | zero =>
    intro j τ hj
    refine ⟨τ, ?_, fun k h1 h2 => by omega, fun _ _ => rfl, zFr_rf _ _⟩
    rw [b_X3_row_55, show j = 100 from by omega]
    rfl
  | succ m ih =>
    intro j τ hj
    obtain ⟨τ', g1, g2, g3, g4⟩ := ih (j + 1) (zup τ 50 (100 * i + j) 0) (by omega)
    refine ⟨τ', ?_, fun k h1 h2 => ?_, fun x hx => ?_, zFr_tr (zFr_up (by simp)) g4⟩
    · rw [b_X3_row_55]
      simp (disch := omega) only [nrm_id, zix, ↓reduceIte, if_true, if_false, true_and, and_true, false_and, and_false, not_true_eq_false, not_false_eq_true, Int.reduceAdd, Int.reduceSub, Int.reduceMul, ↓if_pos, ↓if_neg, Option.bind_some, Option.toList_some, Option.toList_none, List.append_nil, List.cons_append, List.nil_append, znat, znat1, zpm1, zcm1, zof0, zof1, zof2, zof3, zofa0, zofa1, zof50]
      exact g1
    · by_cases e : k = j
      · subst e; rw [g3 _ (by omega), zup_at]
      · exact g2 k (by omega) h2
    · rw [g3 x (by omega), zup_ix (by omega)]
theorem p_row (h : zSysK K T σ) {x w n : Int} (hx : R32 x) (hw : R32 w) (hn : R32 n) : zP mX2_row mX3_row [zI x, zI w, zI n] σ := by
  intro d
  obtain ⟨w1, w2⟩ := hw
  obtain ⟨n1, n2⟩ := hn
  by_cases q : 0 ≤ x ∧ x < 8
  · obtain ⟨i, rfl, hi⟩ := zix_of q.1 q.2
    have hq := zSh_of i hi
    by_cases q1 : 0 ≤ w ∧ w ≤ 2
    · by_cases q2 : 0 ≤ n ∧ n ≤ 100
      · obtain ⟨σ1, a1, a2, a3⟩ := s_fill (d + 19) (zSh_a1 hq) (zSh_n1 hq) (by omega) 0 (zup (zup (zup σ (20 + 2 * i) 0 2) (20 + 2 * i) 3 w) (20 + 2 * i) 4 n)
        obtain ⟨σ2, b1, b2, b3, b4⟩ := r_zero (d + 20) hi 100 0 (zup (zup (zup σ1 45 i 2) 48 i w) 49 i n) (by omega)
        have k1 : ∀ p, p ≠ 20 + 2 * i + 1 → σ1 p = (zup (zup (zup σ (20 + 2 * i) 0 2) (20 + 2 * i) 3 w) (20 + 2 * i) 4 n) p := fun p hp => a3 p (by simpa using hp)
        have k2 : ∀ p, p ≠ 50 → σ2 p = (zup (zup (zup σ1 45 i 2) 48 i w) 49 i n) p := fun p hp => b4 p (by simpa using hp)
        refine ⟨σ1, σ2, zI 0, ?_, ?_, K, T, zSys_shelf h hi (fun p h1 h2 h3 => ?_) (fun j hj hji => ?_) (fun p hp => ?_) ?_⟩
        · rw [e_X2_row]
          simp (disch := omega) only [nrm_id, zix, ↓reduceIte, if_true, if_false, true_and, and_true, false_and, and_false, not_true_eq_false, not_false_eq_true, Int.reduceAdd, Int.reduceSub, Int.reduceMul, ↓if_pos, ↓if_neg, Option.bind_some, Option.toList_some, Option.toList_none, List.append_nil, List.cons_append, List.nil_append, znat, znat1, zpm1, zcm1, zof0, zof1, zof2, zof3, zofa0, zofa1, s_shelfAt _ _ hi, b_X2_row_5 _ _ _ _ hq, a1, b_X2_row_63 _ _ _ _ hq]
        · rw [e_X3_row, r_isShelf _ _ ⟨by omega, by omega⟩]
          simp (disch := omega) only [nrm_id, zix, ↓reduceIte, if_true, if_false, true_and, and_true, false_and, and_false, not_true_eq_false, not_false_eq_true, Int.reduceAdd, Int.reduceSub, Int.reduceMul, ↓if_pos, ↓if_neg, Option.bind_some, Option.toList_some, Option.toList_none, List.append_nil, List.cons_append, List.nil_append, znat, znat1, zpm1, zcm1, zof0, zof1, zof2, zof3, zofa0, zofa1, b_X3_row_4, r_isIn, b_X3_row_13]
          exact b1
        · rw [k2 p (by omega)]
          simp (disch := omega) only [nrm_id, zix, ↓reduceIte, if_true, if_false, true_and, and_true, false_and, and_false, not_true_eq_false, not_false_eq_true, Int.reduceAdd, Int.reduceSub, Int.reduceMul, ↓if_pos, ↓if_neg, Option.bind_some, Option.toList_some, Option.toList_none, List.append_nil, List.cons_append, List.nil_append, znat, znat1, zpm1, zcm1, zof0, zof1, zof2, zof3, zofa0, zofa1, zup_ne]
          rw [k1 p (by omega)]
          simp (disch := omega) only [nrm_id, zix, ↓reduceIte, if_true, if_false, true_and, and_true, false_and, and_false, not_true_eq_false, not_false_eq_true, Int.reduceAdd, Int.reduceSub, Int.reduceMul, ↓if_pos, ↓if_neg, Option.bind_some, Option.toList_some, Option.toList_none, List.append_nil, List.cons_append, List.nil_append, znat, znat1, zpm1, zcm1, zof0, zof1, zof2, zof3, zofa0, zofa1, zup_ne]
        · rw [k2 45 (by decide), k2 46 (by decide), k2 47 (by decide), k2 48 (by decide), k2 49 (by decide)]
          simp (disch := omega) only [nrm_id, zix, ↓reduceIte, if_true, if_false, true_and, and_true, false_and, and_false, not_true_eq_false, not_false_eq_true, Int.reduceAdd, Int.reduceSub, Int.reduceMul, ↓if_pos, ↓if_neg, Option.bind_some, Option.toList_some, Option.toList_none, List.append_nil, List.cons_append, List.nil_append, znat, znat1, zpm1, zcm1, zof0, zof1, zof2, zof3, zofa0, zofa1, zup_ix, zup_ne]
          rw [k1 45 (by omega), k1 46 (by omega), k1 47 (by omega), k1 48 (by omega), k1 49 (by omega)]
          simp (disch := omega) only [nrm_id, zix, ↓reduceIte, if_true, if_false, true_and, and_true, false_and, and_false, not_true_eq_false, not_false_eq_true, Int.reduceAdd, Int.reduceSub, Int.reduceMul, ↓if_pos, ↓if_neg, Option.bind_some, Option.toList_some, Option.toList_none, List.append_nil, List.cons_append, List.nil_append, znat, znat1, zpm1, zcm1, zof0, zof1, zof2, zof3, zofa0, zofa1, zup_ne]
        · rw [b3 p (by omega)]
          simp (disch := omega) only [nrm_id, zix, ↓reduceIte, if_true, if_false, true_and, and_true, false_and, and_false, not_true_eq_false, not_false_eq_true, Int.reduceAdd, Int.reduceSub, Int.reduceMul, ↓if_pos, ↓if_neg, Option.bind_some, Option.toList_some, Option.toList_none, List.append_nil, List.cons_append, List.nil_append, znat, znat1, zpm1, zcm1, zof0, zof1, zof2, zof3, zofa0, zofa1, zup_ne]
          rw [k1 50 (by omega)]
          simp (disch := omega) only [nrm_id, zix, ↓reduceIte, if_true, if_false, true_and, and_true, false_and, and_false, not_true_eq_false, not_false_eq_true, Int.reduceAdd, Int.reduceSub, Int.reduceMul, ↓if_pos, ↓if_neg, Option.bind_some, Option.toList_some, Option.toList_none, List.append_nil, List.cons_append, List.nil_append, znat, znat1, zpm1, zcm1, zof0, zof1, zof2, zof3, zofa0, zofa1, zup_ne]
        · have e0 : σ2 (20 + 2 * i) 0 = 2 := by rw [k2 _ (by omega)]; simp (disch := omega) only [nrm_id, zix, ↓reduceIte, if_true, if_false, true_and, and_true, false_and, and_false, not_true_eq_false, not_false_eq_true, Int.reduceAdd, Int.reduceSub, Int.reduceMul, ↓if_pos, ↓if_neg, Option.bind_some, Option.toList_some, Option.toList_none, List.append_nil, List.cons_append, List.nil_append, znat, znat1, zpm1, zcm1, zof0, zof1, zof2, zof3, zofa0, zofa1, zup_ne]; rw [k1 _ (by omega)]; simp (disch := omega) only [nrm_id, zix, ↓reduceIte, if_true, if_false, true_and, and_true, false_and, and_false, not_true_eq_false, not_false_eq_true, Int.reduceAdd, Int.reduceSub, Int.reduceMul, ↓if_pos, ↓if_neg, Option.bind_some, Option.toList_some, Option.toList_none, List.append_nil, List.cons_append, List.nil_append, znat, znat1, zpm1, zcm1, zof0, zof1, zof2, zof3, zofa0, zofa1, zup_ne, zup_at, zup_ix]
          have e1 : σ2 (20 + 2 * i) 3 = w := by rw [k2 _ (by omega)]; simp (disch := omega) only [nrm_id, zix, ↓reduceIte, if_true, if_false, true_and, and_true, false_and, and_false, not_true_eq_false, not_false_eq_true, Int.reduceAdd, Int.reduceSub, Int.reduceMul, ↓if_pos, ↓if_neg, Option.bind_some, Option.toList_some, Option.toList_none, List.append_nil, List.cons_append, List.nil_append, znat, znat1, zpm1, zcm1, zof0, zof1, zof2, zof3, zofa0, zofa1, zup_ne]; rw [k1 _ (by omega)]; simp (disch := omega) only [nrm_id, zix, ↓reduceIte, if_true, if_false, true_and, and_true, false_and, and_false, not_true_eq_false, not_false_eq_true, Int.reduceAdd, Int.reduceSub, Int.reduceMul, ↓if_pos, ↓if_neg, Option.bind_some, Option.toList_some, Option.toList_none, List.append_nil, List.cons_append, List.nil_append, znat, znat1, zpm1, zcm1, zof0, zof1, zof2, zof3, zofa0, zofa1, zup_ne, zup_at, zup_ix]
          have e2 : σ2 (20 + 2 * i) 4 = n := by rw [k2 _ (by omega)]; simp (disch := omega) only [nrm_id, zix, ↓reduceIte, if_true, if_false, true_and, and_true, false_and, and_false, not_true_eq_false, not_false_eq_true, Int.reduceAdd, Int.reduceSub, Int.reduceMul, ↓if_pos, ↓if_neg, Option.bind_some, Option.toList_some, Option.toList_none, List.append_nil, List.cons_append, List.nil_append, znat, znat1, zpm1, zcm1, zof0, zof1, zof2, zof3, zofa0, zofa1, zup_ne]; rw [k1 _ (by omega)]; simp (disch := omega) only [nrm_id, zix, ↓reduceIte, if_true, if_false, true_and, and_true, false_and, and_false, not_true_eq_false, not_false_eq_true, Int.reduceAdd, Int.reduceSub, Int.reduceMul, ↓if_pos, ↓if_neg, Option.bind_some, Option.toList_some, Option.toList_none, List.append_nil, List.cons_append, List.nil_append, znat, znat1, zpm1, zcm1, zof0, zof1, zof2, zof3, zofa0, zofa1, zup_ne, zup_at, zup_ix]
          have e3 : σ2 45 i = 2 := by rw [k2 _ (by omega)]; simp (disch := omega) only [nrm_id, zix, ↓reduceIte, if_true, if_false, true_and, and_true, false_and, and_false, not_true_eq_false, not_false_eq_true, Int.reduceAdd, Int.reduceSub, Int.reduceMul, ↓if_pos, ↓if_neg, Option.bind_some, Option.toList_some, Option.toList_none, List.append_nil, List.cons_append, List.nil_append, znat, znat1, zpm1, zcm1, zof0, zof1, zof2, zof3, zofa0, zofa1, zup_ne, zup_at, zup_ix]
          have e4 : σ2 48 i = w := by rw [k2 _ (by omega)]; simp (disch := omega) only [nrm_id, zix, ↓reduceIte, if_true, if_false, true_and, and_true, false_and, and_false, not_true_eq_false, not_false_eq_true, Int.reduceAdd, Int.reduceSub, Int.reduceMul, ↓if_pos, ↓if_neg, Option.bind_some, Option.toList_some, Option.toList_none, List.append_nil, List.cons_append, List.nil_append, znat, znat1, zpm1, zcm1, zof0, zof1, zof2, zof3, zofa0, zofa1, zup_ne, zup_at, zup_ix]
          have e5 : σ2 49 i = n := by rw [k2 _ (by omega)]; simp (disch := omega) only [nrm_id, zix, ↓reduceIte, if_true, if_false, true_and, and_true, false_and, and_false, not_true_eq_false, not_false_eq_true, Int.reduceAdd, Int.reduceSub, Int.reduceMul, ↓if_pos, ↓if_neg, Option.bind_some, Option.toList_some, Option.toList_none, List.append_nil, List.cons_append, List.nil_append, znat, znat1, zpm1, zcm1, zof0, zof1, zof2, zof3, zofa0, zofa1, zup_ne, zup_at, zup_ix]
          have e6 : ∀ k, k < 100 → σ2 (21 + 2 * i) k = 0 := fun k hk => by
            rw [k2 _ (by omega)]; simp (disch := omega) only [nrm_id, zix, ↓reduceIte, if_true, if_false, true_and, and_true, false_and, and_false, not_true_eq_false, not_false_eq_true, Int.reduceAdd, Int.reduceSub, Int.reduceMul, ↓if_pos, ↓if_neg, Option.bind_some, Option.toList_some, Option.toList_none, List.append_nil, List.cons_append, List.nil_append, znat, znat1, zpm1, zcm1, zof0, zof1, zof2, zof3, zofa0, zofa1, zup_ne]; rw [show 21 + 2 * i = 20 + 2 * i + 1 from by omega]; exact a2 k hk
          unfold zShR
          rw [e0, e1, e2, e3, e4, e5]
          exact ⟨Or.inr (Or.inr rfl), rfl, fun a => absurd a (by decide), fun _ => ⟨rfl, q1, rfl, q2, fun _ k hk => by rw [e6 k hk]; decide, fun k hk => by rw [e6 k hk, b2 k (Nat.zero_le _) hk]; decide⟩⟩
      · by_cases q3 : n ≤ 100
        · refine ⟨σ, σ, zI (-14), ?_, ?_, K, T, h⟩
          · rw [e_X2_row]
            simp (disch := omega) only [nrm_id, zix, ↓reduceIte, if_true, if_false, true_and, and_true, false_and, and_false, not_true_eq_false, not_false_eq_true, Int.reduceAdd, Int.reduceSub, Int.reduceMul, ↓if_pos, ↓if_neg, Option.bind_some, Option.toList_some, Option.toList_none, List.append_nil, List.cons_append, List.nil_append, znat, znat1, zpm1, zcm1, zof0, zof1, zof2, zof3, zofa0, zofa1, s_shelfAt _ _ hi, b_X2_row_5 _ _ _ _ hq]
          · rw [e_X3_row, r_isShelf _ _ ⟨by omega, by omega⟩]
            simp (disch := omega) only [nrm_id, zix, ↓reduceIte, if_true, if_false, true_and, and_true, false_and, and_false, not_true_eq_false, not_false_eq_true, Int.reduceAdd, Int.reduceSub, Int.reduceMul, ↓if_pos, ↓if_neg, Option.bind_some, Option.toList_some, Option.toList_none, List.append_nil, List.cons_append, List.nil_append, znat, znat1, zpm1, zcm1, zof0, zof1, zof2, zof3, zofa0, zofa1, b_X3_row_4, r_isIn, b_X3_row_13]
        · refine ⟨σ, σ, zI (-1), ?_, ?_, K, T, h⟩
          · rw [e_X2_row]
            simp (disch := omega) only [nrm_id, zix, ↓reduceIte, if_true, if_false, true_and, and_true, false_and, and_false, not_true_eq_false, not_false_eq_true, Int.reduceAdd, Int.reduceSub, Int.reduceMul, ↓if_pos, ↓if_neg, Option.bind_some, Option.toList_some, Option.toList_none, List.append_nil, List.cons_append, List.nil_append, znat, znat1, zpm1, zcm1, zof0, zof1, zof2, zof3, zofa0, zofa1, s_shelfAt _ _ hi, b_X2_row_5 _ _ _ _ hq]
          · rw [e_X3_row, r_isShelf _ _ ⟨by omega, by omega⟩]
            simp (disch := omega) only [nrm_id, zix, ↓reduceIte, if_true, if_false, true_and, and_true, false_and, and_false, not_true_eq_false, not_false_eq_true, Int.reduceAdd, Int.reduceSub, Int.reduceMul, ↓if_pos, ↓if_neg, Option.bind_some, Option.toList_some, Option.toList_none, List.append_nil, List.cons_append, List.nil_append, znat, znat1, zpm1, zcm1, zof0, zof1, zof2, zof3, zofa0, zofa1, b_X3_row_4, r_isIn, b_X3_row_13]
    · refine ⟨σ, σ, zI (-1), ?_, ?_, K, T, h⟩
      · rw [e_X2_row]
        by_cases w3 : w < 0
        · simp (disch := omega) only [nrm_id, zix, ↓reduceIte, if_true, if_false, true_and, and_true, false_and, and_false, not_true_eq_false, not_false_eq_true, Int.reduceAdd, Int.reduceSub, Int.reduceMul, ↓if_pos, ↓if_neg, Option.bind_some, Option.toList_some, Option.toList_none, List.append_nil, List.cons_append, List.nil_append, znat, znat1, zpm1, zcm1, zof0, zof1, zof2, zof3, zofa0, zofa1, s_shelfAt _ _ hi, b_X2_row_5 _ _ _ _ hq]
        · simp (disch := omega) only [nrm_id, zix, ↓reduceIte, if_true, if_false, true_and, and_true, false_and, and_false, not_true_eq_false, not_false_eq_true, Int.reduceAdd, Int.reduceSub, Int.reduceMul, ↓if_pos, ↓if_neg, Option.bind_some, Option.toList_some, Option.toList_none, List.append_nil, List.cons_append, List.nil_append, znat, znat1, zpm1, zcm1, zof0, zof1, zof2, zof3, zofa0, zofa1, s_shelfAt _ _ hi, b_X2_row_5 _ _ _ _ hq]
      · rw [e_X3_row, r_isShelf _ _ ⟨by omega, by omega⟩]
        simp (disch := omega) only [nrm_id, zix, ↓reduceIte, if_true, if_false, true_and, and_true, false_and, and_false, not_true_eq_false, not_false_eq_true, Int.reduceAdd, Int.reduceSub, Int.reduceMul, ↓if_pos, ↓if_neg, Option.bind_some, Option.toList_some, Option.toList_none, List.append_nil, List.cons_append, List.nil_append, znat, znat1, zpm1, zcm1, zof0, zof1, zof2, zof3, zofa0, zofa1, b_X3_row_4, r_isIn, b_X3_row_13]
  · refine ⟨σ, σ, zI (-1), ?_, ?_, K, T, h⟩
    · rw [e_X2_row]
      simp (disch := omega) only [nrm_id, zix, ↓reduceIte, if_true, if_false, true_and, and_true, false_and, and_false, not_true_eq_false, not_false_eq_true, Int.reduceAdd, Int.reduceSub, Int.reduceMul, ↓if_pos, ↓if_neg, Option.bind_some, Option.toList_some, Option.toList_none, List.append_nil, List.cons_append, List.nil_append, znat, znat1, zpm1, zcm1, zof0, zof1, zof2, zof3, zofa0, zofa1, s_shelfAtN _ _ hx q, b_X2_row_5_2]
    · rw [e_X3_row, r_isShelf _ _ hx]
      simp (disch := omega) only [nrm_id, zix, ↓reduceIte, if_true, if_false, true_and, and_true, false_and, and_false, not_true_eq_false, not_false_eq_true, Int.reduceAdd, Int.reduceSub, Int.reduceMul, ↓if_pos, ↓if_neg, Option.bind_some, Option.toList_some, Option.toList_none, List.append_nil, List.cons_append, List.nil_append, znat, znat1, zpm1, zcm1, zof0, zof1, zof2, zof3, zofa0, zofa1, b_X3_row_4]
end SYS13
