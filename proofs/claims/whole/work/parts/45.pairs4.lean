section SYS5
variable {σ : zS} {K : zK} {T : Int}
theorem p_still (h : zSysK K T σ) : zP mX2_still mX3_still [] σ := by
  have h0 := h
  obtain ⟨hC, hM, hO, hT1, hT2, hT, -, -⟩ := h
  have hp := hO.1
  have hle := mstill_le K 61
  refine zP_read h0 (zI (if mstill K 61 ≤ 60 then ((mstill K 61 : Nat) : Int) else -4)) (fun d => ?_) (fun d τ hτ => ?_)
  · obtain ⟨σ1, a1, a2, -, a3⟩ := s_copyFrom (d + 18) zCo6 zCo1 (by decide) hC
    obtain ⟨σ2, b1, b2, b3⟩ := s_goOn (d + 16) zCo6 a2 hO (n := 61) (by omega)
    have b1' : zc (d + 19) mX0_goOn [zR (some 6), zI 61] σ1 = some (some (zI ((mstill K 61 : Nat) : Int)), σ2) := b1
    refine ⟨σ2, ?_, zScr_tr (zScr_of a3 (by simp [zSc]) (by simp)) (zScr_of b3 (by simp [zSc]) (by simp))⟩
    rw [e_X2_still]
    by_cases q : mstill K 61 ≤ 60
    · simp (disch := omega) only [nrm_id, zix, ↓reduceIte, if_true, if_false, true_and, and_true, false_and, and_false, not_true_eq_false, not_false_eq_true, Int.reduceAdd, Int.reduceSub, Int.reduceMul, ↓if_pos, ↓if_neg, Option.bind_some, Option.toList_some, Option.toList_none, List.append_nil, List.cons_append, List.nil_append, znat, znat1, zpm1, zcm1, zof0, zof1, zof2, zof3, zofa0, zofa1, a1, b_X2_still_11, b1', b_X2_still_20]
    · simp (disch := omega) only [nrm_id, zix, ↓reduceIte, if_true, if_false, true_and, and_true, false_and, and_false, not_true_eq_false, not_false_eq_true, Int.reduceAdd, Int.reduceSub, Int.reduceMul, ↓if_pos, ↓if_neg, Option.bind_some, Option.toList_some, Option.toList_none, List.append_nil, List.cons_append, List.nil_append, znat, znat1, zpm1, zcm1, zof0, zof1, zof2, zof3, zofa0, zofa1, a1, b_X2_still_11, b1', b_X2_still_20]
  · have inner : ∀ (j : Nat), j ≤ 60 → ∀ (K' : zK) (τ : zS), mOk K' → AbsM τ 38 (mround K') → AbsM τ 40 K' → ∀ (m i : Nat) (fl : Int), i + m = K'.1 → (fl = 0 ∨ fl = 1) → (fl = 1 ↔ ∀ r, r < i → mrt K' K'.2.2.2.2.1 r = K'.2.2.2.2.1 r) → (mfix K' → zq (d + 20) mX3_still 43 [some (zR (some 36)), some (zI j), some (zI fl), some (zI i)] [] τ = some (some (zI j), τ)) ∧ (¬ mfix K' → zq (d + 20) mX3_still 43 [some (zR (some 36)), some (zI j), some (zI fl), some (zI i)] [] τ = zq (d + 20) mX3_still 13 [some (zR (some 36)), some (zI ((j : Int) + 1)), none, none] [] τ) := by
      intro j hj K' τ hO' h1 h2 m
      have hp' := hO'.1
      induction m with
      | zero =>
        intro i fl hi hfl hiff
        have hi' : i = K'.1 := by omega
        refine ⟨fun hf => ?_, fun hf => ?_⟩
        · have e : fl = 1 := hiff.mpr (fun r hr => hf r (by omega))
          rw [b_X3_still_43, h1.1, hi', e]
          show (if nrm ((K'.1 : Nat) : Int) ≤ nrm ((K'.1 : Nat) : Int) then _ else _) = _
          simp (disch := omega) only [nrm_id, zix, ↓reduceIte, if_true, if_false, true_and, and_true, false_and, and_false, not_true_eq_false, not_false_eq_true, Int.reduceAdd, Int.reduceSub, Int.reduceMul, ↓if_pos, ↓if_neg, Option.bind_some, Option.toList_some, Option.toList_none, List.append_nil, List.cons_append, List.nil_append, znat, znat1, zpm1, zcm1, zof0, zof1, zof2, zof3, zofa0, zofa1]
        · have e : fl = 0 := by
            rcases hfl with e | e
            · exact e
            · exact absurd (fun r hr => hiff.mp e r (by omega)) hf
          rw [b_X3_still_43, h1.1, hi', e]
          show (if nrm ((K'.1 : Nat) : Int) ≤ nrm ((K'.1 : Nat) : Int) then _ else _) = _
          simp (disch := omega) only [nrm_id, zix, ↓reduceIte, if_true, if_false, true_and, and_true, false_and, and_false, not_true_eq_false, not_false_eq_true, Int.reduceAdd, Int.reduceSub, Int.reduceMul, ↓if_pos, ↓if_neg, Option.bind_some, Option.toList_some, Option.toList_none, List.append_nil, List.cons_append, List.nil_append, znat, znat1, zpm1, zcm1, zof0, zof1, zof2, zof3, zofa0, zofa1]
      | succ m ih =>
        intro i fl hi hfl hiff
        have t1 : τ 38 (5 + 4 * i) = mrt K' K'.2.2.2.2.1 i := h1.2.2.2.2.1 i (by omega)
        have t2 : τ 40 (5 + 4 * i) = K'.2.2.2.2.1 i := h2.2.2.2.2.1 i (by omega)
        have r1 : 0 ≤ mrt K' K'.2.2.2.2.1 i ∧ mrt K' K'.2.2.2.2.1 i ≤ 10 := (mround_ok hO').2.2.2.2.1 i (by omega)
        have r2 := hO'.2.2.2.2.1 i (by omega)
        have h10 : τ 38 0 = (K'.1 : Int) := h1.1
        by_cases q : mrt K' K'.2.2.2.2.1 i = K'.2.2.2.2.1 i
        · have st : zq (d + 20) mX3_still 43 [some (zR (some 36)), some (zI j), some (zI fl), some (zI i)] [] τ = zq (d + 20) mX3_still 43 [some (zR (some 36)), some (zI j), some (zI fl), some (zI ((i : Int) + 1))] [] τ := by
            rw [b_X3_still_43, h10]
            rcases hfl with rfl | rfl
            · simp (disch := omega) only [nrm_id, zix, ↓reduceIte, if_true, if_false, true_and, and_true, false_and, and_false, not_true_eq_false, not_false_eq_true, Int.reduceAdd, Int.reduceSub, Int.reduceMul, ↓if_pos, ↓if_neg, Option.bind_some, Option.toList_some, Option.toList_none, List.append_nil, List.cons_append, List.nil_append, znat, znat1, zpm1, zcm1, zof0, zof1, zof2, zof3, zofa0, zofa1, r_of, b_X3_still_63, t1, b_X3_still_73, t2, q, b_X3_still_82, zand01, zand11]
            · simp (disch := omega) only [nrm_id, zix, ↓reduceIte, if_true, if_false, true_and, and_true, false_and, and_false, not_true_eq_false, not_false_eq_true, Int.reduceAdd, Int.reduceSub, Int.reduceMul, ↓if_pos, ↓if_neg, Option.bind_some, Option.toList_some, Option.toList_none, List.append_nil, List.cons_append, List.nil_append, znat, znat1, zpm1, zcm1, zof0, zof1, zof2, zof3, zofa0, zofa1, r_of, b_X3_still_63, t1, b_X3_still_73, t2, q, b_X3_still_82, zand01, zand11]
          rw [st]
          exact ih (i + 1) fl (by omega) hfl (hiff.trans ⟨fun a r hr => by
            by_cases e : r = i
            · subst e; exact q
            · exact a r (by omega), fun a r hr => a r (by omega)⟩)
        · have st : zq (d + 20) mX3_still 43 [some (zR (some 36)), some (zI j), some (zI fl), some (zI i)] [] τ = zq (d + 20) mX3_still 43 [some (zR (some 36)), some (zI j), some (zI 0), some (zI ((i : Int) + 1))] [] τ := by
            rw [b_X3_still_43, h10]
            rcases hfl with rfl | rfl
            · simp (disch := omega) only [nrm_id, zix, ↓reduceIte, if_true, if_false, true_and, and_true, false_and, and_false, not_true_eq_false, not_false_eq_true, Int.reduceAdd, Int.reduceSub, Int.reduceMul, ↓if_pos, ↓if_neg, Option.bind_some, Option.toList_some, Option.toList_none, List.append_nil, List.cons_append, List.nil_append, znat, znat1, zpm1, zcm1, zof0, zof1, zof2, zof3, zofa0, zofa1, r_of, b_X3_still_63, t1, b_X3_still_73, t2, q, b_X3_still_82, zand00, zand10]
            · simp (disch := omega) only [nrm_id, zix, ↓reduceIte, if_true, if_false, true_and, and_true, false_and, and_false, not_true_eq_false, not_false_eq_true, Int.reduceAdd, Int.reduceSub, Int.reduceMul, ↓if_pos, ↓if_neg, Option.bind_some, Option.toList_some, Option.toList_none, List.append_nil, List.cons_append, List.nil_append, znat, znat1, zpm1, zcm1, zof0, zof1, zof2, zof3, zofa0, zofa1, r_of, b_X3_still_63, t1, b_X3_still_73, t2, q, b_X3_still_82, zand00, zand10]
          rw [st]
          exact ih (i + 1) 0 (by omega) (Or.inl rfl) ⟨fun e => absurd e (by decide), fun a => absurd (a i (by omega)) q⟩
    have lp : ∀ (m j : Nat) (K' : zK) (τ : zS), j + m = 61 → mOk K' → AbsM τ 38 K' → ∃ τ', zq (d + 20) mX3_still 13 [some (zR (some 36)), some (zI j), none, none] [] τ = some (some (zI (if j + mstill K' m ≤ 60 then ((j + mstill K' m : Nat) : Int) else -4)), τ') ∧ zScr zSc τ τ' := by
      intro m
      induction m with
      | zero =>
        intro j K' τ hj hO' hA
        refine ⟨τ, ?_, zScr_rf _ _⟩
        rw [b_X3_still_13, show j = 61 from by omega]
        rfl
      | succ m ih =>
        intro j K' τ hj hO' hA
        obtain ⟨τ1, a1, a2, a3⟩ := r_copies (d + 19) zAr38 (b := 40) (Or.inr (Or.inr (Or.inr rfl))) τ
        have hA1 : AbsM τ1 38 K' := AbsM_fr hA (a3 38 (by simp))
        have hB1 : AbsM τ1 40 K' := AbsM_copy hA a2
        obtain ⟨τ2, b1, b2, -, b3⟩ := r_round (d + 17) zAr38 hA1 hO' (B := 0) (by omega)
        rw [mrtS_0] at b2
        have hB2 : AbsM τ2 40 K' := AbsM_fr hB1 (b3 40 (by simp))
        have hs : zScr zSc τ τ2 := zScr_tr (zScr_of a3 (by simp [zSc]) (by simp)) (zScr_of b3 (by simp [zSc]) (by simp))
        obtain ⟨g1, g2⟩ := inner j (by omega) K' τ2 hO' b2 hB2 K'.1 0 1 (by omega) (Or.inr rfl) ⟨fun _ r hr => by omega, fun _ => rfl⟩
        by_cases q : mfix K'
        · refine ⟨τ2, ?_, hs⟩
          have e : mstill K' (m + 1) = 0 := by simp [mstill, q]
          rw [e, if_pos (by omega), b_X3_still_13]
          simp (disch := omega) only [nrm_id, zix, ↓reduceIte, if_true, if_false, true_and, and_true, false_and, and_false, not_true_eq_false, not_false_eq_true, Int.reduceAdd, Int.reduceSub, Int.reduceMul, ↓if_pos, ↓if_neg, Option.bind_some, Option.toList_some, Option.toList_none, List.append_nil, List.cons_append, List.nil_append, znat, znat1, zpm1, zcm1, zof0, zof1, zof2, zof3, zofa0, zofa1, a1, b_X3_still_30, b1, b_X3_still_39]
          exact g1 q
        · obtain ⟨τ3, k1, k2⟩ := ih (j + 1) (mround K') τ2 (by omega) (mround_ok hO') b2
          refine ⟨τ3, ?_, zScr_tr hs k2⟩
          have e : j + mstill K' (m + 1) = j + 1 + mstill (mround K') m := by simp only [mstill, q, if_false]; omega
          rw [e, b_X3_still_13]
          simp (disch := omega) only [nrm_id, zix, ↓reduceIte, if_true, if_false, true_and, and_true, false_and, and_false, not_true_eq_false, not_false_eq_true, Int.reduceAdd, Int.reduceSub, Int.reduceMul, ↓if_pos, ↓if_neg, Option.bind_some, Option.toList_some, Option.toList_none, List.append_nil, List.cons_append, List.nil_append, znat, znat1, zpm1, zcm1, zof0, zof1, zof2, zof3, zofa0, zofa1, a1, b_X3_still_30, b1, b_X3_still_39]
          exact (g2 q).trans k1
    obtain ⟨τ1, a1, a2, a3⟩ := r_copies (d + 19) zAr37 zAr38 τ
    obtain ⟨τ2, k1, k2⟩ := lp 61 0 K τ1 (by omega) hO (AbsM_copy hτ.2.1 a2)
    refine ⟨τ2, ?_, zScr_tr (zScr_of a3 (by simp [zSc]) (by simp)) k2⟩
    rw [e_X3_still]
    simp (disch := omega) only [nrm_id, zix, ↓reduceIte, if_true, if_false, true_and, and_true, false_and, and_false, not_true_eq_false, not_false_eq_true, Int.reduceAdd, Int.reduceSub, Int.reduceMul, ↓if_pos, ↓if_neg, Option.bind_some, Option.toList_some, Option.toList_none, List.append_nil, List.cons_append, List.nil_append, znat, znat1, zpm1, zcm1, zof0, zof1, zof2, zof3, zofa0, zofa1, a1, b_X3_still_11]
    refine Eq.trans k1 ?_
    rw [Nat.zero_add]
abbrev mhr (K : zK) (h : Int) : zK := (K.1, h, K.2.2)
theorem mhr_ok (hO : mOk K) {h : Int} (h0 : 0 ≤ h ∧ h ≤ 23) : mOk (mhr K h) := ⟨hO.1, h0, hO.2.2⟩
theorem AbsM_clock {a : Nat} (h : AbsM σ a K) (v : Int) : AbsM (zup σ a 1 v) a (mhr K v) := by
  obtain ⟨g0, g1, e1, e2, e3, e5⟩ := h
  exact ⟨by rw [zup_ix (by omega)]; exact g0, by rw [zup_at], fun j hj => by rw [zup_ix (by omega)]; exact e1 j hj, fun j hj => by rw [zup_ix (by omega)]; exact e2 j hj, fun j hj => by rw [zup_ix (by omega)]; exact e3 j hj, fun j hj => by rw [zup_ix (by omega)]; exact e5 j hj⟩
theorem s_joyAtHour (d : Nat) (h : zSysK K T σ) {i n : Nat} (hi : i ≤ 23) (hn : n < 1000) : ∃ σ1, zc (d + 4) mX2_joyAtHour [zR (some 0), zI i, zI n] σ = some (some (zI (mjS (mrounds n (mhr K i)))), σ1) ∧ zScr zSc σ σ1 := by
  obtain ⟨σ1, a1, a2, -, a3⟩ := s_copyFrom (d + 2) zCo6 zCo1 (by decide) h.1
  have hO := mhr_ok h.2.2.1 (h := (i : Int)) (by omega)
  obtain ⟨σ2, b1, b2, b3⟩ := s_goOn d zCo6 (AbsC_clock a2 i) hO hn
  refine ⟨σ2, ?_, zScr_tr (zScr_tr (zScr_of a3 (by simp [zSc]) (by simp)) (zScr_of (ps := [6]) (zFr_up (by simp)) (by simp [zSc]) (by simp))) (zScr_of b3 (by simp [zSc]) (by simp))⟩
  rw [e_X2_joyAtHour]
  simp (disch := omega) only [nrm_id, zix, ↓reduceIte, if_true, if_false, true_and, and_true, false_and, and_false, not_true_eq_false, not_false_eq_true, Int.reduceAdd, Int.reduceSub, Int.reduceMul, ↓if_pos, ↓if_neg, Option.bind_some, Option.toList_some, Option.toList_none, List.append_nil, List.cons_append, List.nil_append, znat, znat1, zpm1, zcm1, zof0, zof1, zof2, zof3, zofa0, zofa1, a1, b_X2_joyAtHour_11, b1, b_X2_joyAtHour_27, zC_joy _ b2 (mrounds_ok hO n), b_X2_joyAtHour_35]
theorem p_bestHour (h : zSysK K T σ) {x : Int} (hx : R32 x) : zP mX2_bestHour mX3_bestHour [zI x] σ := by
  have h0 := h
  obtain ⟨hC, hM, hO, hT1, hT2, hT, -, -⟩ := h
  have hp := hO.1
  obtain ⟨x1, x2⟩ := hx
  by_cases q : 0 ≤ x ∧ x ≤ 60
  · obtain ⟨n, rfl⟩ := Int.eq_ofNat_of_zero_le q.1
    have hgr : ∀ i : Nat, i ≤ 23 → -400 ≤ mjS (mrounds n (mhr K i)) ∧ mjS (mrounds n (mhr K i)) ≤ 400 := fun i hi => mjS_rng (mrounds_ok (mhr_ok hO (by omega)) n)
    refine zP_read h0 (zI (mbst (fun i => mjS (mrounds n (mhr K i))) mI 23 1 0 (mjS (mrounds n (mhr K 0)))).1) (fun d => ?_) (fun d τ hτ => ?_)
    · have lp : ∀ (m i : Nat) (f b : Int) (τ : zS), i + m = 24 → zSysK K T τ → (-400 ≤ b ∧ b ≤ 400) → ∃ τ', zq (d + 20) mX2_bestHour 21 [some (zR (some 0)), some (zI n), some (zI f), some (zI b), some (zI i), none] [] τ = some (some (zI (mbst (fun i => mjS (mrounds n (mhr K i))) mI m i f b).1), τ') ∧ zScr zSc τ τ' := by
        intro m
        induction m with
        | zero =>
          intro i f b τ hi hS hb
          refine ⟨τ, ?_, zScr_rf _ _⟩
          rw [b_X2_bestHour_21, show i = 24 from by omega]
          simp (disch := omega) only [nrm_id, zix, ↓reduceIte, if_true, if_false, true_and, and_true, false_and, and_false, not_true_eq_false, not_false_eq_true, Int.reduceAdd, Int.reduceSub, Int.reduceMul, ↓if_pos, ↓if_neg, Option.bind_some, Option.toList_some, Option.toList_none, List.append_nil, List.cons_append, List.nil_append, znat, znat1, zpm1, zcm1, zof0, zof1, zof2, zof3, zofa0, zofa1, mbst]
        | succ m ih =>
          intro i f b τ hi hS hb
          have hg := hgr i (by omega)
          obtain ⟨τ1, g1, g3⟩ := s_joyAtHour (d + 15) hS (i := i) (n := n) (by omega) (by omega)
          have hS1 := zSys_scr hS g3
          unfold mbst
          by_cases hc : mjS (mrounds n (mhr K i)) ≤ b
          · obtain ⟨τ2, k1, k2⟩ := ih (i + 1) f b τ1 (by omega) hS1 hb
            refine ⟨τ2, ?_, zScr_tr g3 k2⟩
            rw [b_X2_bestHour_21]
            simp (disch := omega) only [nrm_id, zix, ↓reduceIte, if_true, if_false, true_and, and_true, false_and, and_false, not_true_eq_false, not_false_eq_true, Int.reduceAdd, Int.reduceSub, Int.reduceMul, ↓if_pos, ↓if_neg, Option.bind_some, Option.toList_some, Option.toList_none, List.append_nil, List.cons_append, List.nil_append, znat, znat1, zpm1, zcm1, zof0, zof1, zof2, zof3, zofa0, zofa1, g1, b_X2_bestHour_35, b_X2_bestHour_49]
            exact k1
          · obtain ⟨τ2, k1, k2⟩ := ih (i + 1) (mI i) (mjS (mrounds n (mhr K i))) τ1 (by omega) hS1 hg
            refine ⟨τ2, ?_, zScr_tr g3 k2⟩
            rw [b_X2_bestHour_21]
            simp (disch := omega) only [nrm_id, zix, ↓reduceIte, if_true, if_false, true_and, and_true, false_and, and_false, not_true_eq_false, not_false_eq_true, Int.reduceAdd, Int.reduceSub, Int.reduceMul, ↓if_pos, ↓if_neg, Option.bind_some, Option.toList_some, Option.toList_none, List.append_nil, List.cons_append, List.nil_append, znat, znat1, zpm1, zcm1, zof0, zof1, zof2, zof3, zofa0, zofa1, g1, b_X2_bestHour_35, b_X2_bestHour_49]
            exact k1
      obtain ⟨σ1, g1, g3⟩ := s_joyAtHour (d + 15) h0 (i := 0) (n := n) (by omega) (by omega)
      obtain ⟨σ2, k1, k2⟩ := lp 23 1 0 _ σ1 (by omega) (zSys_scr h0 g3) (hgr 0 (by omega))
      refine ⟨σ2, ?_, zScr_tr g3 k2⟩
      rw [e_X2_bestHour, s_isMind _ _ x1 x2]
      have g1' : zc (d + 19) mX2_joyAtHour [zR (some 0), zI 0, zI n] σ = _ := g1
      simp (disch := omega) only [nrm_id, zix, ↓reduceIte, if_true, if_false, true_and, and_true, false_and, and_false, not_true_eq_false, not_false_eq_true, Int.reduceAdd, Int.reduceSub, Int.reduceMul, ↓if_pos, ↓if_neg, Option.bind_some, Option.toList_some, Option.toList_none, List.append_nil, List.cons_append, List.nil_append, znat, znat1, zpm1, zcm1, zof0, zof1, zof2, zof3, zofa0, zofa1, b_X2_bestHour_4, g1', b_X2_bestHour_17]
      exact k1
    · have lp : ∀ (m i : Nat) (f b : Int) (τ : zS), i + m = 24 → zSysK K T τ → (-1000000000 ≤ b ∧ b ≤ 400) → ∃ τ', zq (d + 20) mX3_bestHour 20 [some (zR (some 36)), some (zI n), some (zI f), some (zI b), some (zI i)] [] τ = some (some (zI (mbst (fun i => mjS (mrounds n (mhr K i))) mI m i f b).1), τ') ∧ zScr zSc τ τ' := by
        intro m
        induction m with
        | zero =>
          intro i f b τ hi hS hb
          refine ⟨τ, ?_, zScr_rf _ _⟩
          rw [b_X3_bestHour_20, show i = 24 from by omega]
          simp (disch := omega) only [nrm_id, zix, ↓reduceIte, if_true, if_false, true_and, and_true, false_and, and_false, not_true_eq_false, not_false_eq_true, Int.reduceAdd, Int.reduceSub, Int.reduceMul, ↓if_pos, ↓if_neg, Option.bind_some, Option.toList_some, Option.toList_none, List.append_nil, List.cons_append, List.nil_append, znat, znat1, zpm1, zcm1, zof0, zof1, zof2, zof3, zofa0, zofa1, mbst]
        | succ m ih =>
          intro i f b τ hi hS hb
          have hg := hgr i (by omega)
          obtain ⟨τ1, a1, a2, a3⟩ := r_copies (d + 19) zAr37 zAr38 τ
          have hO' := mhr_ok hO (h := (i : Int)) (by omega)
          obtain ⟨τ3, c1, c2, -, c3⟩ := r_roundsOn (d + 16) zAr38 (AbsM_clock (AbsM_copy hS.2.1 a2) i) hO' (n := n) (by omega)
          have g3 : zScr zSc τ τ3 := zScr_tr (zScr_tr (zScr_of a3 (by simp [zSc]) (by simp)) (zScr_of (ps := [38]) (zFr_up (by simp)) (by simp [zSc]) (by simp))) (zScr_of c3 (by simp [zSc]) (by simp))
          have g4 := mrounds_ok hO' n
          have hS1 := zSys_scr hS g3
          unfold mbst
          by_cases hc : mjS (mrounds n (mhr K i)) ≤ b
          · obtain ⟨τ4, k1, k2⟩ := ih (i + 1) f b τ3 (by omega) hS1 hb
            refine ⟨τ4, ?_, zScr_tr g3 k2⟩
            rw [b_X3_bestHour_20]
            simp (disch := omega) only [nrm_id, zix, ↓reduceIte, if_true, if_false, true_and, and_true, false_and, and_false, not_true_eq_false, not_false_eq_true, Int.reduceAdd, Int.reduceSub, Int.reduceMul, ↓if_pos, ↓if_neg, Option.bind_some, Option.toList_some, Option.toList_none, List.append_nil, List.cons_append, List.nil_append, znat, znat1, zpm1, zcm1, zof0, zof1, zof2, zof3, zofa0, zofa1, a1, b_X3_bestHour_38, c1, b_X3_bestHour_55, zM_joy _ c2 g4, b_X3_bestHour_62, b_X3_bestHour_80]
            exact k1
          · obtain ⟨τ4, k1, k2⟩ := ih (i + 1) (mI i) (mjS (mrounds n (mhr K i))) τ3 (by omega) hS1 (by omega)
            refine ⟨τ4, ?_, zScr_tr g3 k2⟩
            rw [b_X3_bestHour_20]
            simp (disch := omega) only [nrm_id, zix, ↓reduceIte, if_true, if_false, true_and, and_true, false_and, and_false, not_true_eq_false, not_false_eq_true, Int.reduceAdd, Int.reduceSub, Int.reduceMul, ↓if_pos, ↓if_neg, Option.bind_some, Option.toList_some, Option.toList_none, List.append_nil, List.cons_append, List.nil_append, znat, znat1, zpm1, zcm1, zof0, zof1, zof2, zof3, zofa0, zofa1, a1, b_X3_bestHour_38, c1, b_X3_bestHour_55, zM_joy _ c2 g4, b_X3_bestHour_62, b_X3_bestHour_79, b_X3_bestHour_80]
            exact k1
      obtain ⟨σ2, k1, k2⟩ := lp 24 0 0 (-1000000000) τ (by omega) hτ (by omega)
      refine ⟨σ2, ?_, k2⟩
      rw [e_X3_bestHour]
      simp (disch := omega) only [nrm_id, zix, ↓reduceIte, if_true, if_false, true_and, and_true, false_and, and_false, not_true_eq_false, not_false_eq_true, Int.reduceAdd, Int.reduceSub, Int.reduceMul, ↓if_pos, ↓if_neg, Option.bind_some, Option.toList_some, Option.toList_none, List.append_nil, List.cons_append, List.nil_append, znat, znat1, zpm1, zcm1, zof0, zof1, zof2, zof3, zofa0, zofa1, r_isIn, b_X3_bestHour_7]
      refine Eq.trans k1 ?_
      have hg := hgr 0 (by omega)
      have e : mbst (fun i => mjS (mrounds n (mhr K i))) mI 24 0 0 (-1000000000) = mbst (fun i => mjS (mrounds n (mhr K i))) mI 23 1 (mI 0) (mjS (mrounds n (mhr K ((0 : Nat) : Int)))) := by
        show (if mjS (mrounds n (mhr K ((0 : Nat) : Int))) ≤ -1000000000 then _ else _) = _
        rw [if_neg (by omega)]
      rw [e]
      rfl
  · refine zP_same h0 (zI (-1)) (fun d => ?_) (fun d => ?_)
    · rw [e_X2_bestHour, s_isMind _ _ x1 x2]
      simp (disch := omega) only [nrm_id, zix, ↓reduceIte, if_true, if_false, true_and, and_true, false_and, and_false, not_true_eq_false, not_false_eq_true, Int.reduceAdd, Int.reduceSub, Int.reduceMul, ↓if_pos, ↓if_neg, Option.bind_some, Option.toList_some, Option.toList_none, List.append_nil, List.cons_append, List.nil_append, znat, znat1, zpm1, zcm1, zof0, zof1, zof2, zof3, zofa0, zofa1, b_X2_bestHour_4]
    · rw [e_X3_bestHour]
      simp (disch := omega) only [nrm_id, zix, ↓reduceIte, if_true, if_false, true_and, and_true, false_and, and_false, not_true_eq_false, not_false_eq_true, Int.reduceAdd, Int.reduceSub, Int.reduceMul, ↓if_pos, ↓if_neg, Option.bind_some, Option.toList_some, Option.toList_none, List.append_nil, List.cons_append, List.nil_append, znat, znat1, zpm1, zcm1, zof0, zof1, zof2, zof3, zofa0, zofa1, r_isIn, b_X3_bestHour_7]
end SYS5
