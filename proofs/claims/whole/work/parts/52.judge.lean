theorem zSc_sh : ∀ i : Nat, i < 8 → (20 + 2 * i ∉ zSc ∧ 20 + 2 * i + 1 ∉ zSc) := by decide
theorem zP_read2 {fx fm : zM} {as : List zV} {σ : zS} {K : zK} {T : Int} (h : zSysK K T σ) (v : zV) (hx : ∀ d, ∃ σ1, zc (d + 20) fx (zR (some 0) :: as) σ = some (some v, σ1) ∧ zScr zSc σ σ1) (hm : ∀ d τ, zSysK K T τ → zScr zSc σ τ → ∃ τ', zc (d + 20) fm (zR (some 36) :: as) τ = some (some v, τ') ∧ zScr zSc τ τ') : zP fx fm as σ := by
  intro d
  obtain ⟨σ1, a1, a2⟩ := hx d
  obtain ⟨σ2, b1, b2⟩ := hm d σ1 (zSys_scr h a2) a2
  exact ⟨σ1, σ2, v, a1, b1, K, T, zSys_scr (zSys_scr h a2) b2⟩
section SYS12
variable {σ : zS} {K : zK} {T : Int}
theorem p_judge (h : zSysK K T σ) {x : Int} (hx : R32 x) : zP mX2_judge mX3_judge [zI x] σ := by
  have h0 := h
  obtain ⟨hC, hM, hO, hT1, hT2, hT, -, hS⟩ := h
  have hp := hO.1
  by_cases q : 0 ≤ x ∧ x < 8
  · obtain ⟨i, rfl, hi⟩ := zix_of q.1 q.2
    obtain ⟨s1, s2, s3, s4⟩ := hS i hi
    have hq := zSh_of i hi
    have hk := fun d => r_wrongRow (σ := σ) (d + 17) hi (o := -1) (by rw [s2]; exact s1) (Or.inl rfl) (fun e => by rw [s2] at e; have := s4 e; omega)
    rcases s1 with e | e | e
    · clear s3 s4 hS
      refine zP_same h0 (zI (-11)) (fun d => ?_) (fun d => ?_)
      · rw [e_X2_judge]
        simp (disch := omega) only [nrm_id, zix, ↓reduceIte, if_true, if_false, true_and, and_true, false_and, and_false, not_true_eq_false, not_false_eq_true, Int.reduceAdd, Int.reduceSub, Int.reduceMul, ↓if_pos, ↓if_neg, Option.bind_some, Option.toList_some, Option.toList_none, List.append_nil, List.cons_append, List.nil_append, znat, znat1, zpm1, zcm1, zof0, zof1, zof2, zof3, zofa0, zofa1, s_shelfAt _ _ hi, b_X2_judge_5 _ _ hq, s_refusal _ hq (Or.inr rfl) (Or.inl e), e, b_X2_judge_17 _ _ _ hq]
      · have hk := hk d
        rw [s2, e] at hk
        rw [e_X3_judge]
        simp (disch := omega) only [nrm_id, zix, ↓reduceIte, if_true, if_false, true_and, and_true, false_and, and_false, not_true_eq_false, not_false_eq_true, Int.reduceAdd, Int.reduceSub, Int.reduceMul, ↓if_pos, ↓if_neg, Option.bind_some, Option.toList_some, Option.toList_none, List.append_nil, List.cons_append, List.nil_append, znat, znat1, zpm1, zcm1, zof0, zof1, zof2, zof3, zofa0, zofa1, hk, b_X3_judge_6]
    · clear s3 s4 hS
      refine zP_same h0 (zI (-12)) (fun d => ?_) (fun d => ?_)
      · rw [e_X2_judge]
        simp (disch := omega) only [nrm_id, zix, ↓reduceIte, if_true, if_false, true_and, and_true, false_and, and_false, not_true_eq_false, not_false_eq_true, Int.reduceAdd, Int.reduceSub, Int.reduceMul, ↓if_pos, ↓if_neg, Option.bind_some, Option.toList_some, Option.toList_none, List.append_nil, List.cons_append, List.nil_append, znat, znat1, zpm1, zcm1, zof0, zof1, zof2, zof3, zofa0, zofa1, s_shelfAt _ _ hi, b_X2_judge_5 _ _ hq, s_refusal _ hq (Or.inr rfl) (Or.inr (Or.inl e)), e, b_X2_judge_17 _ _ _ hq]
      · have hk := hk d
        rw [s2, e] at hk
        rw [e_X3_judge]
        simp (disch := omega) only [nrm_id, zix, ↓reduceIte, if_true, if_false, true_and, and_true, false_and, and_false, not_true_eq_false, not_false_eq_true, Int.reduceAdd, Int.reduceSub, Int.reduceMul, ↓if_pos, ↓if_neg, Option.bind_some, Option.toList_some, Option.toList_none, List.append_nil, List.cons_append, List.nil_append, znat, znat1, zpm1, zcm1, zof0, zof1, zof2, zof3, zofa0, zofa1, hk, b_X3_judge_6]
    · generalize hl : mleast (σ (20 + 2 * i) 3) = l
      generalize hw : σ (20 + 2 * i + 1) = w
      have hlr := mleast_rng (σ (20 + 2 * i) 3)
      rw [hl] at hlr
      obtain ⟨t1, t2, t3, t4, -, t5⟩ := s4 e
      clear s3 s4 hS
      obtain ⟨n, hn⟩ := Int.eq_ofNat_of_zero_le t4.1
      have hmt : ∀ j, 0 ≤ mtS (mrounds j K) ∧ mtS (mrounds j K) ≤ 80 := fun j => mtS_rng (mrounds_ok hO j)
      refine zP_read2 h0 (zI (mjdg K w l n 0)) (fun d => ?_) (fun d τ hτ hτs => ?_)
      · have lp : ∀ (m j : Nat) (τ : zS), j + m = n → zScr zSc σ τ → AbsC τ 6 (mrounds (j - 1) K) → ∃ τ', zq (d + 20) mX2_judge 38 [some (zR (some 0)), none, some (zR (some (20 + 2 * i))), none, some (zI j)] [] τ = some (some (zI (mjdg K w l m j)), τ') ∧ zScr zSc τ τ' := by
          intro m
          induction m with
          | zero =>
            intro j τ hj hs hA
            have f1 : τ (20 + 2 * i) = σ (20 + 2 * i) := hs.1 _ (zSc_sh i hi).1 (by omega)
            refine ⟨τ, ?_, zScr_rf _ _⟩
            rw [b_X2_judge_38 _ _ hq, f1, hn, show j = n from by omega]
            simp (disch := omega) only [nrm_id, zix, ↓reduceIte, if_true, if_false, true_and, and_true, false_and, and_false, not_true_eq_false, not_false_eq_true, Int.reduceAdd, Int.reduceSub, Int.reduceMul, ↓if_pos, ↓if_neg, Option.bind_some, Option.toList_some, Option.toList_none, List.append_nil, List.cons_append, List.nil_append, znat, znat1, zpm1, zcm1, zof0, zof1, zof2, zof3, zofa0, zofa1, mjdg]
          | succ m ih =>
            intro j τ hj hs hA
            have hm := hmt j
            have st : ∃ τ1, zq (d + 20) mX2_judge 38 [some (zR (some 0)), none, some (zR (some (20 + 2 * i))), none, some (zI j)] [] τ = zq (d + 20) mX2_judge 61 [some (zR (some 0)), none, some (zR (some (20 + 2 * i))), none, some (zI j)] [] τ1 ∧ AbsC τ1 6 (mrounds j K) ∧ zScr zSc τ τ1 := by
              have f1 : τ (20 + 2 * i) = σ (20 + 2 * i) := hs.1 _ (zSc_sh i hi).1 (by omega)
              by_cases j0 : j = 0
              · subst j0
                refine ⟨τ, ?_, hA, zScr_rf _ _⟩
                rw [b_X2_judge_38 _ _ hq, f1, hn]
                simp (disch := omega) only [nrm_id, zix, ↓reduceIte, if_true, if_false, true_and, and_true, false_and, and_false, not_true_eq_false, not_false_eq_true, Int.reduceAdd, Int.reduceSub, Int.reduceMul, ↓if_pos, ↓if_neg, Option.bind_some, Option.toList_some, Option.toList_none, List.append_nil, List.cons_append, List.nil_append, znat, znat1, zpm1, zcm1, zof0, zof1, zof2, zof3, zofa0, zofa1]
              · obtain ⟨τ1, g1, g2, g3⟩ := s_goOn (d + 16) zCo6 hA (mrounds_ok hO (j - 1)) (n := 1) (by omega)
                have g1' : zc (d + 19) mX0_goOn [zR (some 6), zI 1] τ = _ := g1
                refine ⟨τ1, ?_, ?_, zScr_of g3 (by simp [zSc]) (by simp)⟩
                · rw [b_X2_judge_38 _ _ hq, f1, hn]
                  simp (disch := omega) only [nrm_id, zix, ↓reduceIte, if_true, if_false, true_and, and_true, false_and, and_false, not_true_eq_false, not_false_eq_true, Int.reduceAdd, Int.reduceSub, Int.reduceMul, ↓if_pos, ↓if_neg, Option.bind_some, Option.toList_some, Option.toList_none, List.append_nil, List.cons_append, List.nil_append, znat, znat1, zpm1, zcm1, zof0, zof1, zof2, zof3, zofa0, zofa1, g1', b_X2_judge_60 _ _ _ hq]
                · have e2 : mrounds j K = mrounds 1 (mrounds (j - 1) K) := by
                    conv => lhs; rw [show j = (j - 1) + 1 from by omega, mrounds_succ]
                    rfl
                  rw [e2]; exact g2
            obtain ⟨τ1, st1, st2, st3⟩ := st
            have hs1 := zScr_tr hs st3
            have f1 : τ1 (20 + 2 * i) = σ (20 + 2 * i) := hs1.1 _ (zSc_sh i hi).1 (by omega)
            have f2 : τ1 (20 + 2 * i + 1) = w := by rw [hs1.1 _ (zSc_sh i hi).2 (by omega)]; exact hw
            have v12 : R32 (w j) := by
              have := t5 j (by omega)
              rw [← hw, show 20 + 2 * i + 1 = 21 + 2 * i from by omega]; exact this.2
            have sk := s_isSkipped (σ := τ1) (d + 18) hq (j := j) (by rw [f1]; omega) (by rw [f1]; omega) (by rw [f1]; exact t2) (by rw [f2]; exact v12)
            rw [f1, f2, hl] at sk
            obtain ⟨v1, v2⟩ := v12
            have al := zC_tips (d + 19) st2 (mrounds_ok hO j)
            unfold mjdg
            by_cases q1 : w j = l
            · obtain ⟨τ2, k1, k2⟩ := ih (j + 1) τ1 (by omega) hs1 st2
              refine ⟨τ2, st1.trans ?_, zScr_tr st3 k2⟩
              rw [if_pos (Or.inl q1), b_X2_judge_61 _ _ hq]
              rw [if_pos q1] at sk
              simp (disch := omega) only [nrm_id, zix, ↓reduceIte, if_true, if_false, true_and, and_true, false_and, and_false, not_true_eq_false, not_false_eq_true, Int.reduceAdd, Int.reduceSub, Int.reduceMul, ↓if_pos, ↓if_neg, Option.bind_some, Option.toList_some, Option.toList_none, List.append_nil, List.cons_append, List.nil_append, znat, znat1, zpm1, zcm1, zof0, zof1, zof2, zof3, zofa0, zofa1, sk, b_X2_judge_67 _ _ _ hq, b_X2_judge_90 _ _ hq]
              exact k1
            · rw [if_neg q1] at sk
              by_cases q2 : w j = mtS (mrounds j K)
              · obtain ⟨τ2, k1, k2⟩ := ih (j + 1) τ1 (by omega) hs1 st2
                refine ⟨τ2, st1.trans ?_, zScr_tr st3 k2⟩
                rw [if_pos (Or.inr q2), b_X2_judge_61 _ _ hq]
                simp (disch := omega) only [nrm_id, zix, ↓reduceIte, if_true, if_false, true_and, and_true, false_and, and_false, not_true_eq_false, not_false_eq_true, Int.reduceAdd, Int.reduceSub, Int.reduceMul, ↓if_pos, ↓if_neg, Option.bind_some, Option.toList_some, Option.toList_none, List.append_nil, List.cons_append, List.nil_append, znat, znat1, zpm1, zcm1, zof0, zof1, zof2, zof3, zofa0, zofa1, sk, b_X2_judge_67 _ _ _ hq, f2, al, b_X2_judge_84 _ _ _ _ hq, b_X2_judge_90 _ _ hq]
                exact k1
              · refine ⟨τ1, st1.trans ?_, st3⟩
                rw [if_neg (fun z => z.elim q1 q2), b_X2_judge_61 _ _ hq]
                simp (disch := omega) only [nrm_id, zix, ↓reduceIte, if_true, if_false, true_and, and_true, false_and, and_false, not_true_eq_false, not_false_eq_true, Int.reduceAdd, Int.reduceSub, Int.reduceMul, ↓if_pos, ↓if_neg, Option.bind_some, Option.toList_some, Option.toList_none, List.append_nil, List.cons_append, List.nil_append, znat, znat1, zpm1, zcm1, zof0, zof1, zof2, zof3, zofa0, zofa1, sk, b_X2_judge_67 _ _ _ hq, f2, al, b_X2_judge_84 _ _ _ _ hq]
        obtain ⟨σ1, a1, a2, -, a3⟩ := s_copyFrom (d + 18) zCo6 zCo1 (by decide) hC
        have hs := zScr_of (qs := zSc) a3 (by simp [zSc]) (by simp)
        obtain ⟨σ2, k1, k2⟩ := lp n 0 σ1 (by omega) hs a2
        refine ⟨σ2, ?_, zScr_tr hs k2⟩
        rw [e_X2_judge]
        simp (disch := omega) only [nrm_id, zix, ↓reduceIte, if_true, if_false, true_and, and_true, false_and, and_false, not_true_eq_false, not_false_eq_true, Int.reduceAdd, Int.reduceSub, Int.reduceMul, ↓if_pos, ↓if_neg, Option.bind_some, Option.toList_some, Option.toList_none, List.append_nil, List.cons_append, List.nil_append, znat, znat1, zpm1, zcm1, zof0, zof1, zof2, zof3, zofa0, zofa1, s_shelfAt _ _ hi, b_X2_judge_5 _ _ hq, s_refusal _ hq (Or.inr rfl) (Or.inr (Or.inr e)), e, b_X2_judge_17 _ _ _ hq, a1, b_X2_judge_35 _ _ _ hq]
        exact k1
      · have lp : ∀ (m j : Nat) (τ : zS), j + m = n → zScr zSc σ τ → AbsM τ 38 (mrounds j K) → ∃ τ', zq (d + 20) mX3_judge 26 [some (zR (some 36)), some (zI i), none, some (zI j), none] [] τ = some (some (zI (mjdg K w l m j)), τ') ∧ zScr zSc τ τ' := by
          intro m
          induction m with
          | zero =>
            intro j τ hj hs hA
            have f49 : τ 49 = σ 49 := hs.1 49 (by decide) (by decide)
            refine ⟨τ, ?_, zScr_rf _ _⟩
            rw [b_X3_judge_26, f49]
            simp (disch := omega) only [nrm_id, zix, ↓reduceIte, if_true, if_false, true_and, and_true, false_and, and_false, not_true_eq_false, not_false_eq_true, Int.reduceAdd, Int.reduceSub, Int.reduceMul, ↓if_pos, ↓if_neg, Option.bind_some, Option.toList_some, Option.toList_none, List.append_nil, List.cons_append, List.nil_append, znat, znat1, zpm1, zcm1, zof0, zof1, zof2, zof3, zofa0, zofa1, t3, hn, mjdg]
          | succ m ih =>
            intro j τ hj hs hA
            have f48 : τ 48 = σ 48 := hs.1 48 (by decide) (by decide)
            have f49 : τ 49 = σ 49 := hs.1 49 (by decide) (by decide)
            have f50 : τ 50 = σ 50 := hs.1 50 (by decide) (by decide)
            have hm := hmt j
            obtain ⟨v0, v1, v2⟩ := t5 j (by omega)
            rw [show 21 + 2 * i = 20 + 2 * i + 1 from by omega, hw] at v0 v1 v2
            have lo := fun d => r_leastOf (σ := τ) d t2
            rw [hl] at lo
            have al := zM_tips (d + 18) hA (mrounds_ok hO j)
            obtain ⟨τ2, b1, b2, -, b3⟩ := r_round (d + 17) zAr38 hA (mrounds_ok hO j) (B := 0) (by omega)
            rw [mrtS_0] at b2
            have b2' : AbsM τ2 38 (mrounds (j + 1) K) := by rw [mrounds_succ]; exact b2
            have hs2 := zScr_of (qs := zSc) b3 (by simp [zSc]) (by simp)
            unfold mjdg
            by_cases q1 : w j = l
            · obtain ⟨τ3, k1, k2⟩ := ih (j + 1) τ2 (by omega) (zScr_tr hs hs2) b2'
              refine ⟨τ3, ?_, zScr_tr hs2 k2⟩
              rw [if_pos (Or.inl q1), b_X3_judge_26, f48, f49, f50]
              simp (disch := omega) only [nrm_id, zix, ↓reduceIte, if_true, if_false, true_and, and_true, false_and, and_false, not_true_eq_false, not_false_eq_true, Int.reduceAdd, Int.reduceSub, Int.reduceMul, ↓if_pos, ↓if_neg, Option.bind_some, Option.toList_some, Option.toList_none, List.append_nil, List.cons_append, List.nil_append, znat, znat1, zpm1, zcm1, zof0, zof1, zof2, zof3, zofa0, zofa1, t3, hn, zof50, v0, t1, lo, b_X3_judge_60, b_X3_judge_77, b1, b_X3_judge_86]
              exact k1
            · by_cases q2 : w j = mtS (mrounds j K)
              · obtain ⟨τ3, k1, k2⟩ := ih (j + 1) τ2 (by omega) (zScr_tr hs hs2) b2'
                refine ⟨τ3, ?_, zScr_tr hs2 k2⟩
                rw [if_pos (Or.inr q2), b_X3_judge_26, f48, f49, f50]
                simp (disch := omega) only [nrm_id, zix, ↓reduceIte, if_true, if_false, true_and, and_true, false_and, and_false, not_true_eq_false, not_false_eq_true, Int.reduceAdd, Int.reduceSub, Int.reduceMul, ↓if_pos, ↓if_neg, Option.bind_some, Option.toList_some, Option.toList_none, List.append_nil, List.cons_append, List.nil_append, znat, znat1, zpm1, zcm1, zof0, zof1, zof2, zof3, zofa0, zofa1, t3, hn, zof50, v0, t1, lo, b_X3_judge_60, al, b_X3_judge_72, b_X3_judge_77, b1, b_X3_judge_86]
                exact k1
              · refine ⟨τ, ?_, zScr_rf _ _⟩
                rw [if_neg (fun z => z.elim q1 q2), b_X3_judge_26, f48, f49, f50]
                simp (disch := omega) only [nrm_id, zix, ↓reduceIte, if_true, if_false, true_and, and_true, false_and, and_false, not_true_eq_false, not_false_eq_true, Int.reduceAdd, Int.reduceSub, Int.reduceMul, ↓if_pos, ↓if_neg, Option.bind_some, Option.toList_some, Option.toList_none, List.append_nil, List.cons_append, List.nil_append, znat, znat1, zpm1, zcm1, zof0, zof1, zof2, zof3, zofa0, zofa1, t3, hn, zof50, v0, t1, lo, b_X3_judge_60, al, b_X3_judge_72]
        obtain ⟨σ1, a1, a2, a3⟩ := r_copies (d + 19) zAr37 zAr38 τ
        have hs := zScr_of (qs := zSc) a3 (by simp [zSc]) (by simp)
        obtain ⟨σ2, k1, k2⟩ := lp n 0 σ1 (by omega) (zScr_tr hτs hs) (AbsM_copy hτ.2.1 a2)
        refine ⟨σ2, ?_, zScr_tr hs k2⟩
        have hk' := r_wrongRow (σ := τ) (d + 17) hi (o := -1) (by rw [hτs.1 45 (by decide) (by decide), s2]; exact Or.inr (Or.inr e)) (Or.inl rfl) (fun _ => by rw [hτs.1 48 (by decide) (by decide)]; omega)
        rw [hτs.1 45 (by decide) (by decide), s2, e] at hk'
        rw [e_X3_judge]
        simp (disch := omega) only [nrm_id, zix, ↓reduceIte, if_true, if_false, true_and, and_true, false_and, and_false, not_true_eq_false, not_false_eq_true, Int.reduceAdd, Int.reduceSub, Int.reduceMul, ↓if_pos, ↓if_neg, Option.bind_some, Option.toList_some, Option.toList_none, List.append_nil, List.cons_append, List.nil_append, znat, znat1, zpm1, zcm1, zof0, zof1, zof2, zof3, zofa0, zofa1, hk', b_X3_judge_6, Int.reduceNeg, Int.reduceEq, false_implies, a1, b_X3_judge_24]
        exact k1
  · refine zP_same h0 (zI (-1)) (fun d => ?_) (fun d => ?_)
    · rw [e_X2_judge]
      simp (disch := omega) only [nrm_id, zix, ↓reduceIte, if_true, if_false, true_and, and_true, false_and, and_false, not_true_eq_false, not_false_eq_true, Int.reduceAdd, Int.reduceSub, Int.reduceMul, ↓if_pos, ↓if_neg, Option.bind_some, Option.toList_some, Option.toList_none, List.append_nil, List.cons_append, List.nil_append, znat, znat1, zpm1, zcm1, zof0, zof1, zof2, zof3, zofa0, zofa1, s_shelfAtN _ _ hx q, b_X2_judge_5_2]
    · rw [e_X3_judge]
      simp (disch := omega) only [nrm_id, zix, ↓reduceIte, if_true, if_false, true_and, and_true, false_and, and_false, not_true_eq_false, not_false_eq_true, Int.reduceAdd, Int.reduceSub, Int.reduceMul, ↓if_pos, ↓if_neg, Option.bind_some, Option.toList_some, Option.toList_none, List.append_nil, List.cons_append, List.nil_append, znat, znat1, zpm1, zcm1, zof0, zof1, zof2, zof3, zofa0, zofa1, r_wrongRowN _ hx q, b_X3_judge_6]
end SYS12
