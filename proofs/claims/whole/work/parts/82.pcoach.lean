section SYS37
variable {σ : zS} {K : zK} {T : Int}
theorem p_coach (h : zSysK K T σ) {x : Int} (hx : R32 x) : zP mX2_coach mX3_coach [zI x] σ := by
  have h0 := h
  obtain ⟨hC, hM, hO, hT1, hT2, hT, -, hS⟩ := h
  by_cases q : 0 ≤ x ∧ x < 8
  · obtain ⟨i, rfl, hi⟩ := zix_of q.1 q.2
    have hq := zSh_of i hi
    obtain ⟨s1, s2, -, s4⟩ := hS i hi
    clear hS
    have hk := fun d => r_wrongRow (σ := σ) (d + 17) hi (o := 0) (by rw [s2]; exact s1) (Or.inr rfl) (fun e => by rw [s2] at e; have := s4 e; exact ⟨by rw [this.1]; exact this.2.1.1, by rw [this.1]; exact this.2.1.2⟩)
    rw [s2] at hk
    rcases s1 with e | e | e
    · clear s4
      refine zP_same h0 (zI (-11)) (fun d => ?_) (fun d => ?_)
      · rw [e_X2_coach]
        simp (disch := omega) only [nrm_id, zix, ↓reduceIte, if_true, if_false, true_and, and_true, false_and, and_false, not_true_eq_false, not_false_eq_true, Int.reduceAdd, Int.reduceSub, Int.reduceMul, ↓if_pos, ↓if_neg, Option.bind_some, Option.toList_some, Option.toList_none, List.append_nil, List.cons_append, List.nil_append, znat, znat1, zpm1, zcm1, zof0, zof1, zof2, zof3, zofa0, zofa1, s_shelfAt _ _ hi, b_X2_coach_5 _ _ hq, e]
      · rw [e_X3_coach]
        rw [e] at hk
        simp (disch := omega) only [nrm_id, zix, ↓reduceIte, if_true, if_false, true_and, and_true, false_and, and_false, not_true_eq_false, not_false_eq_true, Int.reduceAdd, Int.reduceSub, Int.reduceMul, ↓if_pos, ↓if_neg, Option.bind_some, Option.toList_some, Option.toList_none, List.append_nil, List.cons_append, List.nil_append, znat, znat1, zpm1, zcm1, zof0, zof1, zof2, zof3, zofa0, zofa1, hk, b_X3_coach_6]
    · clear s4
      refine zP_same h0 (zI (-12)) (fun d => ?_) (fun d => ?_)
      · rw [e_X2_coach]
        simp (disch := omega) only [nrm_id, zix, ↓reduceIte, if_true, if_false, true_and, and_true, false_and, and_false, not_true_eq_false, not_false_eq_true, Int.reduceAdd, Int.reduceSub, Int.reduceMul, ↓if_pos, ↓if_neg, Option.bind_some, Option.toList_some, Option.toList_none, List.append_nil, List.cons_append, List.nil_append, znat, znat1, zpm1, zcm1, zof0, zof1, zof2, zof3, zofa0, zofa1, s_shelfAt _ _ hi, b_X2_coach_5 _ _ hq, e]
      · rw [e_X3_coach]
        rw [e] at hk
        simp (disch := omega) only [nrm_id, zix, ↓reduceIte, if_true, if_false, true_and, and_true, false_and, and_false, not_true_eq_false, not_false_eq_true, Int.reduceAdd, Int.reduceSub, Int.reduceMul, ↓if_pos, ↓if_neg, Option.bind_some, Option.toList_some, Option.toList_none, List.append_nil, List.cons_append, List.nil_append, znat, znat1, zpm1, zcm1, zof0, zof1, zof2, zof3, zofa0, zofa1, hk, b_X3_coach_6]
    · obtain ⟨t1, t2, t3, t4, tb, t5⟩ := s4 e
      clear s4
      by_cases c : σ (20 + 2 * i) 3 = 0
      · obtain ⟨n, hn⟩ := Int.eq_ofNat_of_zero_le t4.1
        have hn100 : n ≤ 100 := by omega
        have hb : ∀ j, j < 100 → -128 ≤ σ (20 + 2 * i + 1) j ∧ σ (20 + 2 * i + 1) j ≤ 127 := fun j hj => by
          rw [show 20 + 2 * i + 1 = 21 + 2 * i from by omega]; exact tb c j hj
        intro d
        obtain ⟨σ1, a1, a2, a3⟩ := s_coach (d + 12) hC hO hT1 hT hi (w := σ (20 + 2 * i + 1)) e c hn hn100 (fun _ _ => rfl) hb
        have hF : ∀ p, p ∉ [1, 2, 3, 4, 6, 7, 8, 9, 10] → σ1 p = σ p := by
          intro p hp
          cases hm : (mco (mby (σ (20 + 2 * i + 1)) n) n K T).2 with
          | none => exact a2 hm p (fun z => hp (by simp at z ⊢; omega))
          | some s => exact (a3 s hm).2.2.2.2 p hp
        have hsc1 : zScr ([1, 2, 3, 4, 37] ++ zSc) σ σ1 := ⟨fun p hp _ => hF p (fun z => hp (by simp [zSc] at z ⊢; omega)), by rw [hF 36 (by simp)]⟩
        obtain ⟨σ2, b1, b2, b3, b4⟩ := r_coach (σ := σ1) (K := K) (T := T) (d + 12) (AbsM_fr hM (hF 37 (by simp))) hO (by rw [hF 37 (by simp)]; exact hT2) hT hi (w := σ (20 + 2 * i + 1)) (n := n) (by rw [hF 45 (by simp), s2, e]) (by rw [hF 48 (by simp), t1, c]) (by rw [hF 49 (by simp), t3, hn]) hn100 (fun j hj => by rw [hF 50 (by simp), show 20 + 2 * i + 1 = 21 + 2 * i from by omega]; exact (t5 j hj).1) hb
        have hsc : zScr ([1, 2, 3, 4, 37] ++ zSc) σ σ2 := zScr_tr hsc1 (zScr_mono b2 (by simp [zSc]))
        have h1 : ∀ p, p ∈ [1, 2, 3, 4] → σ2 p = σ1 p := fun p hp => b2.1 p (by simp at hp ⊢; omega) (by simp at hp; omega)
        cases hm : (mco (mby (σ (20 + 2 * i + 1)) n) n K T).2 with
        | none =>
          have hF1 := a2 hm
          have hk37 := b3 hm
          refine ⟨σ1, σ2, _, a1, b1, K, T, zSys_upd h0 hsc ?_ ?_ hO ?_ ?_ hT⟩
          · exact AbsC_fr hC (by rw [h1 1 (by simp), hF1 1 (by simp)]) (by rw [h1 2 (by simp), hF1 2 (by simp)]) (by rw [h1 3 (by simp), hF1 3 (by simp)]) (by rw [h1 4 (by simp), hF1 4 (by simp)])
          · exact AbsM_copy (AbsM_fr hM (hF 37 (by simp))) hk37
          · rw [h1 1 (by simp), hF1 1 (by simp)]; exact hT1
          · rw [hk37 2 (by decide), hF 37 (by simp)]; exact hT2
        | some s =>
          obtain ⟨c1, c2, c3, c4, -⟩ := a3 s hm
          obtain ⟨d1, d2⟩ := b4 s hm
          refine ⟨σ1, σ2, _, a1, b1, s.1, s.2, zSys_upd h0 hsc ?_ d1 c2 ?_ d2 c4⟩
          · exact AbsC_fr c1 (h1 1 (by simp)) (h1 2 (by simp)) (h1 3 (by simp)) (h1 4 (by simp))
          · rw [h1 1 (by simp)]; exact c3
      · clear tb t5
        refine zP_same h0 (zI (-12)) (fun d => ?_) (fun d => ?_)
        · rw [e_X2_coach]
          simp (disch := omega) only [nrm_id, zix, ↓reduceIte, if_true, if_false, true_and, and_true, false_and, and_false, not_true_eq_false, not_false_eq_true, Int.reduceAdd, Int.reduceSub, Int.reduceMul, ↓if_pos, ↓if_neg, Option.bind_some, Option.toList_some, Option.toList_none, List.append_nil, List.cons_append, List.nil_append, znat, znat1, zpm1, zcm1, zof0, zof1, zof2, zof3, zofa0, zofa1, s_shelfAt _ _ hi, b_X2_coach_5 _ _ hq, e]
        · have hk2 : zc (d + 19) mX3_wrongRow [zR (some 36), zI i, zI 0] σ = some (some (zI (-12)), σ) := by
            rw [hk, e, if_neg (by decide), if_neg (fun z => c (by rw [← t1]; exact z.2 rfl))]
          rw [e_X3_coach, hk2]
          simp (disch := omega) only [nrm_id, zix, ↓reduceIte, if_true, if_false, true_and, and_true, false_and, and_false, not_true_eq_false, not_false_eq_true, Int.reduceAdd, Int.reduceSub, Int.reduceMul, ↓if_pos, ↓if_neg, Option.bind_some, Option.toList_some, Option.toList_none, List.append_nil, List.cons_append, List.nil_append, znat, znat1, zpm1, zcm1, zof0, zof1, zof2, zof3, zofa0, zofa1, b_X3_coach_6]
  · clear hS
    refine zP_same h0 (zI (-1)) (fun d => ?_) (fun d => ?_)
    · rw [e_X2_coach]
      simp (disch := omega) only [nrm_id, zix, ↓reduceIte, if_true, if_false, true_and, and_true, false_and, and_false, not_true_eq_false, not_false_eq_true, Int.reduceAdd, Int.reduceSub, Int.reduceMul, ↓if_pos, ↓if_neg, Option.bind_some, Option.toList_some, Option.toList_none, List.append_nil, List.cons_append, List.nil_append, znat, znat1, zpm1, zcm1, zof0, zof1, zof2, zof3, zofa0, zofa1, s_shelfAtN _ _ hx q, b_X2_coach_5_2]
    · rw [e_X3_coach]
      simp (disch := omega) only [nrm_id, zix, ↓reduceIte, if_true, if_false, true_and, and_true, false_and, and_false, not_true_eq_false, not_false_eq_true, Int.reduceAdd, Int.reduceSub, Int.reduceMul, ↓if_pos, ↓if_neg, Option.bind_some, Option.toList_some, Option.toList_none, List.append_nil, List.cons_append, List.nil_append, znat, znat1, zpm1, zcm1, zof0, zof1, zof2, zof3, zofa0, zofa1, r_wrongRowN _ hx q, b_X3_coach_6]
end SYS37
