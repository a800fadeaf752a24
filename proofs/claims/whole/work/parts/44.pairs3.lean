def mtS (K : zK) : Int := msum K.2.2.2.2.1 K.1
def mjS (K : zK) : Int := msum (mjoy K) K.1
theorem mtS_rng {K : zK} (h : mOk K) : 0 ≤ mtS K ∧ mtS K ≤ 80 := by
  have hp := h.1
  have e := msum_rng (f := K.2.2.2.2.1) (a := 0) (b := 10) K.1 (fun r hr => h.2.2.2.2.1 r (by omega))
  unfold mtS
  omega
theorem mjS_rng {K : zK} (h : mOk K) : -400 ≤ mjS K ∧ mjS K ≤ 400 := by
  have hp := h.1
  have e := msum_rng (f := mjoy K) (a := -50) (b := 50) K.1 (fun r hr => mjoy_rng h (by omega))
  unfold mjS
  omega
/-- the first greatest, looked for from i on -/
def mbst (g h : Nat → Int) : Nat → Nat → Int → Int → Int × Int
  | 0, _, f, b => (f, b)
  | n + 1, i, f, b => if g i ≤ b then mbst g h n (i + 1) f b else mbst g h n (i + 1) (h i) (g i)
def mlst (g h : Nat → Int) : Nat → Nat → Int → Int → Int × Int
  | 0, _, f, b => (f, b)
  | n + 1, i, f, b => if b ≤ g i then mlst g h n (i + 1) f b else mlst g h n (i + 1) (h i) (g i)
def mI (i : Nat) : Int := i
theorem zand00 : zand 0 0 = 0 := by decide
theorem zand01 : zand 0 1 = 0 := by decide
theorem zand10 : zand 1 0 = 0 := by decide
theorem zand11 : zand 1 1 = 1 := by decide
section SYS4
variable {σ : zS} {K : zK} {T : Int}
theorem zC_tips (d : Nat) (h : AbsC σ 6 K) (hO : mOk K) : zc d mX0_allTips [zR (some 6)] σ = some (some (zI (mtS K)), σ) := s_allTips d zCo6 h hO
theorem zC_joy (d : Nat) (h : AbsC σ 6 K) (hO : mOk K) : zc (d + 3) mX0_allJoy [zR (some 6)] σ = some (some (zI (mjS K)), σ) := s_allJoy d zCo6 h hO
theorem zM_tips (d : Nat) (h : AbsM σ 38 K) (hO : mOk K) : zc (d + 1) mX3_tipsAll [zR (some 38)] σ = some (some (zI (mtS K)), σ) := r_tipsAll d zAr38 h hO
theorem zM_joy (d : Nat) (h : AbsM σ 38 K) (hO : mOk K) : zc (d + 4) mX3_joyAll [zR (some 38)] σ = some (some (zI (mjS K)), σ) := r_joyAll d zAr38 h hO
/-- one row blocked, then so many rounds, in mind -/
theorem s_tob1 (d : Nat) (h : zSysK K T σ) {r n : Nat} (hr : r < K.1) (hn : n < 1000) : ∃ σ1, zc (d + 4) mX2_thinkOnBlocked [zR (some 0), zI (zshl 1 r), zI n] σ = some (none, σ1) ∧ AbsC σ1 6 (mrounds n (mblk K ((2 ^ r : Nat) : Int))) ∧ zScr zSc σ σ1 ∧ mOk (mrounds n (mblk K ((2 ^ r : Nat) : Int))) := by
  have hp := h.2.2.1.1
  have h2 : (2 : Nat) ^ r < 256 := by
    have := Nat.pow_lt_pow_right (a := 2) (by decide) (show r < 8 from by omega)
    omega
  have hm : ∀ j, j < 8 → mbit ((2 ^ r : Nat) : Int) j = 1 → j < K.1 := fun j hj e => by
    rw [mbit_pow] at e
    by_cases q : r = j
    · omega
    · rw [if_neg q] at e; exact absurd e (by decide)
  have h3 : 0 ≤ ((2 ^ r : Nat) : Int) ∧ ((2 ^ r : Nat) : Int) < 256 := by
    generalize (2 : Nat) ^ r = z at h2 ⊢
    omega
  obtain ⟨σ1, g1, g2, g3⟩ := s_thinkOnBlocked d h.1 h.2.2.1 hn (R := ((2 ^ r : Nat) : Int)) h3 hm
  rw [zshl1 r (by omega)]
  exact ⟨σ1, g1, g2, zScr_of g3 (by simp [zSc]) (by simp), mrounds_ok (mblk_ok h.2.2.1 hm) n⟩
theorem r_tob1 (d : Nat) (h : zSysK K T σ) {r n : Nat} (hr : r < K.1) (hn : n < 1000) : ∃ σ1 σ2 σ3, zc (d + 3) mX3_copies [zR (some 37), zR (some 38)] σ = some (none, σ1) ∧ zc (d + 3) mX3_blocksIn [zR (some 38), zI r] σ1 = some (none, σ2) ∧ zc (d + 3) mX3_roundsOn [zR (some 36), zR (some 38), zI n] σ2 = some (none, σ3) ∧ AbsM σ3 38 (mrounds n (mblk K ((2 ^ r : Nat) : Int))) ∧ zScr zSc σ σ3 := by
  have hp := h.2.2.1.1
  have hm : ∀ j, j < 8 → mbit ((2 ^ r : Nat) : Int) j = 1 → j < K.1 := fun j hj e => by
    rw [mbit_pow] at e
    by_cases q : r = j
    · omega
    · rw [if_neg q] at e; exact absurd e (by decide)
  obtain ⟨σ1, a1, a2, a3⟩ := r_copies (d + 3) zAr37 zAr38 σ
  obtain ⟨σ2, b1, b2, -, b3⟩ := r_blocksIn (d + 2) zAr38 (AbsM_copy h.2.1 a2) (r := r) (by omega)
  obtain ⟨σ3, c1, c2, -, c3⟩ := r_roundsOn d zAr38 b2 (mblk_ok h.2.2.1 hm) hn
  exact ⟨σ1, σ2, σ3, a1, b1, c1, c2, zScr_tr (zScr_tr (zScr_of a3 (by simp [zSc]) (by simp)) (zScr_of b3 (by simp [zSc]) (by simp))) (zScr_of c3 (by simp [zSc]) (by simp))⟩
theorem p_began (h : zSysK K T σ) {x : Int} (hx : R32 x) : zP mX2_began mX3_began [zI x] σ := by
  have h0 := h
  obtain ⟨hC, hM, hO, hT1, hT2, hT, -, -⟩ := h
  have hp := hO.1
  obtain ⟨x1, x2⟩ := hx
  by_cases q : 0 ≤ x ∧ x ≤ 60
  · obtain ⟨n, rfl⟩ := Int.eq_ofNat_of_zero_le q.1
    refine zP_read h0 (zI (mlst (fun r => mtS (mrounds n (mblk K ((2 ^ r : Nat) : Int)))) mI K.1 0 (-4) (mtS (mrounds n K))).1) (fun d => ?_) (fun d τ hτ => ?_)
    · have lp : ∀ (m i : Nat) (f b : Int) (τ : zS), i + m = K.1 → zSysK K T τ → (0 ≤ b ∧ b ≤ 80) → ∃ τ', zq (d + 20) mX2_began 28 [some (zR (some 0)), some (zI n), some (zI b), some (zI f), some (zI i), none] [] τ = some (some (zI (mlst (fun r => mtS (mrounds n (mblk K ((2 ^ r : Nat) : Int)))) mI m i f b).1), τ') ∧ zScr zSc τ τ' := by
        intro m
        induction m with
        | zero =>
          intro i f b τ hi hS hb
          refine ⟨τ, ?_, zScr_rf _ _⟩
          rw [b_X2_began_28, hS.1.1, show i = K.1 from by omega]
          simp (disch := omega) only [nrm_id, zix, ↓reduceIte, if_true, if_false, true_and, and_true, false_and, and_false, not_true_eq_false, not_false_eq_true, Int.reduceAdd, Int.reduceSub, Int.reduceMul, ↓if_pos, ↓if_neg, Option.bind_some, Option.toList_some, Option.toList_none, List.append_nil, List.cons_append, List.nil_append, znat, znat1, zpm1, zcm1, zof0, zof1, zof2, zof3, zofa0, zofa1, mlst]
        | succ m ih =>
          intro i f b τ hi hS hb
          obtain ⟨τ1, g1, g2, g3, g4⟩ := s_tob1 (d + 15) hS (r := i) (n := n) (by omega) (by omega)
          have hg := mtS_rng g4
          have hS1 := zSys_scr hS g3
          unfold mlst
          by_cases hc : b ≤ mtS (mrounds n (mblk K ((2 ^ i : Nat) : Int)))
          · obtain ⟨τ2, k1, k2⟩ := ih (i + 1) f b τ1 (by omega) hS1 hb
            refine ⟨τ2, ?_, zScr_tr g3 k2⟩
            rw [b_X2_began_28, hS.1.1]
            simp (disch := omega) only [nrm_id, zix, ↓reduceIte, if_true, if_false, true_and, and_true, false_and, and_false, not_true_eq_false, not_false_eq_true, Int.reduceAdd, Int.reduceSub, Int.reduceMul, ↓if_pos, ↓if_neg, Option.bind_some, Option.toList_some, Option.toList_none, List.append_nil, List.cons_append, List.nil_append, znat, znat1, zpm1, zcm1, zof0, zof1, zof2, zof3, zofa0, zofa1, g1, b_X2_began_49, zC_tips _ g2 g4, b_X2_began_56, b_X2_began_70]
            exact k1
          · obtain ⟨τ2, k1, k2⟩ := ih (i + 1) (mI i) (mtS (mrounds n (mblk K ((2 ^ i : Nat) : Int)))) τ1 (by omega) hS1 hg
            refine ⟨τ2, ?_, zScr_tr g3 k2⟩
            rw [b_X2_began_28, hS.1.1]
            simp (disch := omega) only [nrm_id, zix, ↓reduceIte, if_true, if_false, true_and, and_true, false_and, and_false, not_true_eq_false, not_false_eq_true, Int.reduceAdd, Int.reduceSub, Int.reduceMul, ↓if_pos, ↓if_neg, Option.bind_some, Option.toList_some, Option.toList_none, List.append_nil, List.cons_append, List.nil_append, znat, znat1, zpm1, zcm1, zof0, zof1, zof2, zof3, zofa0, zofa1, g1, b_X2_began_49, zC_tips _ g2 g4, b_X2_began_56, b_X2_began_70]
            exact k1
      obtain ⟨σ1, g1, g2, g3, g4⟩ := s_thinkN (d + 15) h0 (n := n) (by omega)
      obtain ⟨σ2, k1, k2⟩ := lp K.1 0 (-4) (mtS (mrounds n K)) σ1 (by omega) (zSys_scr h0 g3) (mtS_rng g4)
      refine ⟨σ2, ?_, zScr_tr g3 k2⟩
      rw [e_X2_began, s_isMind _ _ x1 x2]
      simp (disch := omega) only [nrm_id, zix, ↓reduceIte, if_true, if_false, true_and, and_true, false_and, and_false, not_true_eq_false, not_false_eq_true, Int.reduceAdd, Int.reduceSub, Int.reduceMul, ↓if_pos, ↓if_neg, Option.bind_some, Option.toList_some, Option.toList_none, List.append_nil, List.cons_append, List.nil_append, znat, znat1, zpm1, zcm1, zof0, zof1, zof2, zof3, zofa0, zofa1, b_X2_began_4, g1, b_X2_began_14, zC_tips _ g2 g4, b_X2_began_21]
      exact k1
    · have lp : ∀ (m i : Nat) (f b : Int) (τ : zS), i + m = K.1 → zSysK K T τ → (0 ≤ b ∧ b ≤ 80) → ∃ τ', zq (d + 20) mX3_began 31 [some (zR (some 36)), some (zI n), some (zI f), some (zI b), some (zI i)] [] τ = some (some (zI (mlst (fun r => mtS (mrounds n (mblk K ((2 ^ r : Nat) : Int)))) mI m i f b).1), τ') ∧ zScr zSc τ τ' := by
        intro m
        induction m with
        | zero =>
          intro i f b τ hi hS hb
          refine ⟨τ, ?_, zScr_rf _ _⟩
          rw [b_X3_began_31, hS.2.1.1, show i = K.1 from by omega]
          simp (disch := omega) only [nrm_id, zix, ↓reduceIte, if_true, if_false, true_and, and_true, false_and, and_false, not_true_eq_false, not_false_eq_true, Int.reduceAdd, Int.reduceSub, Int.reduceMul, ↓if_pos, ↓if_neg, Option.bind_some, Option.toList_some, Option.toList_none, List.append_nil, List.cons_append, List.nil_append, znat, znat1, zpm1, zcm1, zof0, zof1, zof2, zof3, zofa0, zofa1, mlst]
        | succ m ih =>
          intro i f b τ hi hS hb
          obtain ⟨-, -, -, g4⟩ := (s_tob1 0 hS (r := i) (n := n) (by omega) (by omega)).choose_spec
          obtain ⟨τ1, τ2, τ3, a1, a2, a3, g2, g3⟩ := r_tob1 (d + 16) hS (r := i) (n := n) (by omega) (by omega)
          have hg := mtS_rng g4
          have hS1 := zSys_scr hS g3
          unfold mlst
          by_cases hc : b ≤ mtS (mrounds n (mblk K ((2 ^ i : Nat) : Int)))
          · obtain ⟨τ4, k1, k2⟩ := ih (i + 1) f b τ3 (by omega) hS1 hb
            refine ⟨τ4, ?_, zScr_tr g3 k2⟩
            rw [b_X3_began_31, hS.2.1.1]
            simp (disch := omega) only [nrm_id, zix, ↓reduceIte, if_true, if_false, true_and, and_true, false_and, and_false, not_true_eq_false, not_false_eq_true, Int.reduceAdd, Int.reduceSub, Int.reduceMul, ↓if_pos, ↓if_neg, Option.bind_some, Option.toList_some, Option.toList_none, List.append_nil, List.cons_append, List.nil_append, znat, znat1, zpm1, zcm1, zof0, zof1, zof2, zof3, zofa0, zofa1, a1, b_X3_began_53, a2, b_X3_began_62, a3, b_X3_began_71, zM_tips _ g2 g4, b_X3_began_78, b_X3_began_96]
            exact k1
          · obtain ⟨τ4, k1, k2⟩ := ih (i + 1) (mI i) (mtS (mrounds n (mblk K ((2 ^ i : Nat) : Int)))) τ3 (by omega) hS1 hg
            refine ⟨τ4, ?_, zScr_tr g3 k2⟩
            rw [b_X3_began_31, hS.2.1.1]
            simp (disch := omega) only [nrm_id, zix, ↓reduceIte, if_true, if_false, true_and, and_true, false_and, and_false, not_true_eq_false, not_false_eq_true, Int.reduceAdd, Int.reduceSub, Int.reduceMul, ↓if_pos, ↓if_neg, Option.bind_some, Option.toList_some, Option.toList_none, List.append_nil, List.cons_append, List.nil_append, znat, znat1, zpm1, zcm1, zof0, zof1, zof2, zof3, zofa0, zofa1, a1, b_X3_began_53, a2, b_X3_began_62, a3, b_X3_began_71, zM_tips _ g2 g4, b_X3_began_78, b_X3_began_95, b_X3_began_96]
            exact k1
      obtain ⟨σ1, g1, g2, g3⟩ := r_takesN (d + 15) hτ (n := n) (by omega)
      have g4 := mrounds_ok hO n
      obtain ⟨σ2, k1, k2⟩ := lp K.1 0 (-4) (mtS (mrounds n K)) σ1 (by omega) (zSys_scr hτ g3) (mtS_rng g4)
      refine ⟨σ2, ?_, zScr_tr g3 k2⟩
      rw [e_X3_began]
      simp (disch := omega) only [nrm_id, zix, ↓reduceIte, if_true, if_false, true_and, and_true, false_and, and_false, not_true_eq_false, not_false_eq_true, Int.reduceAdd, Int.reduceSub, Int.reduceMul, ↓if_pos, ↓if_neg, Option.bind_some, Option.toList_some, Option.toList_none, List.append_nil, List.cons_append, List.nil_append, znat, znat1, zpm1, zcm1, zof0, zof1, zof2, zof3, zofa0, zofa1, r_isIn, b_X3_began_7, g1, b_X3_began_17, zM_tips _ g2 g4, b_X3_began_27]
      exact k1
  · refine zP_same h0 (zI (-1)) (fun d => ?_) (fun d => ?_)
    · rw [e_X2_began, s_isMind _ _ x1 x2]
      simp (disch := omega) only [nrm_id, zix, ↓reduceIte, if_true, if_false, true_and, and_true, false_and, and_false, not_true_eq_false, not_false_eq_true, Int.reduceAdd, Int.reduceSub, Int.reduceMul, ↓if_pos, ↓if_neg, Option.bind_some, Option.toList_some, Option.toList_none, List.append_nil, List.cons_append, List.nil_append, znat, znat1, zpm1, zcm1, zof0, zof1, zof2, zof3, zofa0, zofa1, b_X2_began_4]
    · rw [e_X3_began]
      simp (disch := omega) only [nrm_id, zix, ↓reduceIte, if_true, if_false, true_and, and_true, false_and, and_false, not_true_eq_false, not_false_eq_true, Int.reduceAdd, Int.reduceSub, Int.reduceMul, ↓if_pos, ↓if_neg, Option.bind_some, Option.toList_some, Option.toList_none, List.append_nil, List.cons_append, List.nil_append, znat, znat1, zpm1, zcm1, zof0, zof1, zof2, zof3, zofa0, zofa1, r_isIn, b_X3_began_7]
theorem p_ask (h : zSysK K T σ) {x : Int} (hx : R32 x) : zP mX2_ask mX3_ask [zI x] σ := by
  have h0 := h
  obtain ⟨hC, hM, hO, hT1, hT2, hT, -, -⟩ := h
  have hp := hO.1
  obtain ⟨x1, x2⟩ := hx
  by_cases q : 0 ≤ x ∧ x ≤ 60
  · obtain ⟨n, rfl⟩ := Int.eq_ofNat_of_zero_le q.1
    refine zP_read h0 (zI (mbst (fun r => mjS (mrounds n (mblk K ((2 ^ r : Nat) : Int)))) mI K.1 0 (-4) (-1000000000)).1) (fun d => ?_) (fun d τ hτ => ?_)
    · have lp : ∀ (m i : Nat) (f b b0 : Int) (τ : zS), i + m = K.1 → zSysK K T τ → (f = -4 ∧ b = -1000000000 ∨ (0 ≤ f ∧ f < 8) ∧ b = b0 ∧ -400 ≤ b ∧ b ≤ 400) → ∃ τ', zq (d + 20) mX2_ask 17 [some (zR (some 0)), some (zI n), some (zI f), some (zI b0), some (zI i), none] [] τ = some (some (zI (mbst (fun r => mjS (mrounds n (mblk K ((2 ^ r : Nat) : Int)))) mI m i f b).1), τ') ∧ zScr zSc τ τ' := by
        intro m
        induction m with
        | zero =>
          intro i f b b0 τ hi hS hb
          refine ⟨τ, ?_, zScr_rf _ _⟩
          rw [b_X2_ask_17, hS.1.1, show i = K.1 from by omega]
          simp (disch := omega) only [nrm_id, zix, ↓reduceIte, if_true, if_false, true_and, and_true, false_and, and_false, not_true_eq_false, not_false_eq_true, Int.reduceAdd, Int.reduceSub, Int.reduceMul, ↓if_pos, ↓if_neg, Option.bind_some, Option.toList_some, Option.toList_none, List.append_nil, List.cons_append, List.nil_append, znat, znat1, zpm1, zcm1, zof0, zof1, zof2, zof3, zofa0, zofa1, mbst]
        | succ m ih =>
          intro i f b b0 τ hi hS hb
          obtain ⟨τ1, g1, g2, g3, g4⟩ := s_tob1 (d + 15) hS (r := i) (n := n) (by omega) (by omega)
          have hg := mjS_rng g4
          have hS1 := zSys_scr hS g3
          unfold mbst
          by_cases hc : mjS (mrounds n (mblk K ((2 ^ i : Nat) : Int))) ≤ b
          · obtain ⟨τ2, k1, k2⟩ := ih (i + 1) f b b0 τ1 (by omega) hS1 hb
            refine ⟨τ2, ?_, zScr_tr g3 k2⟩
            rw [b_X2_ask_17, hS.1.1]
            simp (disch := omega) only [nrm_id, zix, ↓reduceIte, if_true, if_false, true_and, and_true, false_and, and_false, not_true_eq_false, not_false_eq_true, Int.reduceAdd, Int.reduceSub, Int.reduceMul, ↓if_pos, ↓if_neg, Option.bind_some, Option.toList_some, Option.toList_none, List.append_nil, List.cons_append, List.nil_append, znat, znat1, zpm1, zcm1, zof0, zof1, zof2, zof3, zofa0, zofa1, g1, b_X2_ask_38, zC_joy _ g2 g4, b_X2_ask_45, b_X2_ask_65]
            exact k1
          · have hmi : mI i = (i : Int) := rfl
            obtain ⟨τ2, k1, k2⟩ := ih (i + 1) (mI i) (mjS (mrounds n (mblk K ((2 ^ i : Nat) : Int)))) _ τ1 (by omega) hS1 (Or.inr ⟨by omega, rfl, hg⟩)
            refine ⟨τ2, ?_, zScr_tr g3 k2⟩
            rw [b_X2_ask_17, hS.1.1]
            by_cases hf : f = -4
            · simp (disch := omega) only [nrm_id, zix, ↓reduceIte, if_true, if_false, true_and, and_true, false_and, and_false, not_true_eq_false, not_false_eq_true, Int.reduceAdd, Int.reduceSub, Int.reduceMul, ↓if_pos, ↓if_neg, Option.bind_some, Option.toList_some, Option.toList_none, List.append_nil, List.cons_append, List.nil_append, znat, znat1, zpm1, zcm1, zof0, zof1, zof2, zof3, zofa0, zofa1, g1, b_X2_ask_38, zC_joy _ g2 g4, b_X2_ask_45, b_X2_ask_59, b_X2_ask_65]
              exact k1
            · simp (disch := omega) only [nrm_id, zix, ↓reduceIte, if_true, if_false, true_and, and_true, false_and, and_false, not_true_eq_false, not_false_eq_true, Int.reduceAdd, Int.reduceSub, Int.reduceMul, ↓if_pos, ↓if_neg, Option.bind_some, Option.toList_some, Option.toList_none, List.append_nil, List.cons_append, List.nil_append, znat, znat1, zpm1, zcm1, zof0, zof1, zof2, zof3, zofa0, zofa1, g1, b_X2_ask_38, zC_joy _ g2 g4, b_X2_ask_45, b_X2_ask_59, b_X2_ask_65]
              exact k1
      obtain ⟨σ2, k1, k2⟩ := lp K.1 0 (-4) (-1000000000) 0 σ (by omega) h0 (Or.inl ⟨rfl, rfl⟩)
      refine ⟨σ2, ?_, k2⟩
      rw [e_X2_ask, s_isMind _ _ x1 x2]
      simp (disch := omega) only [nrm_id, zix, ↓reduceIte, if_true, if_false, true_and, and_true, false_and, and_false, not_true_eq_false, not_false_eq_true, Int.reduceAdd, Int.reduceSub, Int.reduceMul, ↓if_pos, ↓if_neg, Option.bind_some, Option.toList_some, Option.toList_none, List.append_nil, List.cons_append, List.nil_append, znat, znat1, zpm1, zcm1, zof0, zof1, zof2, zof3, zofa0, zofa1, b_X2_ask_4]
      exact k1
    · have lp : ∀ (m i : Nat) (f b : Int) (τ : zS), i + m = K.1 → zSysK K T τ → (-1000000000 ≤ b ∧ b ≤ 400) → ∃ τ', zq (d + 20) mX3_ask 21 [some (zR (some 36)), some (zI n), some (zI f), some (zI b), some (zI i)] [] τ = some (some (zI (mbst (fun r => mjS (mrounds n (mblk K ((2 ^ r : Nat) : Int)))) mI m i f b).1), τ') ∧ zScr zSc τ τ' := by
        intro m
        induction m with
        | zero =>
          intro i f b τ hi hS hb
          refine ⟨τ, ?_, zScr_rf _ _⟩
          rw [b_X3_ask_21, hS.2.1.1, show i = K.1 from by omega]
          simp (disch := omega) only [nrm_id, zix, ↓reduceIte, if_true, if_false, true_and, and_true, false_and, and_false, not_true_eq_false, not_false_eq_true, Int.reduceAdd, Int.reduceSub, Int.reduceMul, ↓if_pos, ↓if_neg, Option.bind_some, Option.toList_some, Option.toList_none, List.append_nil, List.cons_append, List.nil_append, znat, znat1, zpm1, zcm1, zof0, zof1, zof2, zof3, zofa0, zofa1, mbst]
        | succ m ih =>
          intro i f b τ hi hS hb
          obtain ⟨-, -, -, g4⟩ := (s_tob1 0 hS (r := i) (n := n) (by omega) (by omega)).choose_spec
          obtain ⟨τ1, τ2, τ3, a1, a2, a3, g2, g3⟩ := r_tob1 (d + 16) hS (r := i) (n := n) (by omega) (by omega)
          have hg := mjS_rng g4
          have hS1 := zSys_scr hS g3
          unfold mbst
          by_cases hc : mjS (mrounds n (mblk K ((2 ^ i : Nat) : Int))) ≤ b
          · obtain ⟨τ4, k1, k2⟩ := ih (i + 1) f b τ3 (by omega) hS1 hb
            refine ⟨τ4, ?_, zScr_tr g3 k2⟩
            rw [b_X3_ask_21, hS.2.1.1]
            simp (disch := omega) only [nrm_id, zix, ↓reduceIte, if_true, if_false, true_and, and_true, false_and, and_false, not_true_eq_false, not_false_eq_true, Int.reduceAdd, Int.reduceSub, Int.reduceMul, ↓if_pos, ↓if_neg, Option.bind_some, Option.toList_some, Option.toList_none, List.append_nil, List.cons_append, List.nil_append, znat, znat1, zpm1, zcm1, zof0, zof1, zof2, zof3, zofa0, zofa1, a1, b_X3_ask_43, a2, b_X3_ask_52, a3, b_X3_ask_61, zM_joy _ g2 g4, b_X3_ask_68, b_X3_ask_86]
            exact k1
          · obtain ⟨τ4, k1, k2⟩ := ih (i + 1) (mI i) (mjS (mrounds n (mblk K ((2 ^ i : Nat) : Int)))) τ3 (by omega) hS1 (by omega)
            refine ⟨τ4, ?_, zScr_tr g3 k2⟩
            rw [b_X3_ask_21, hS.2.1.1]
            simp (disch := omega) only [nrm_id, zix, ↓reduceIte, if_true, if_false, true_and, and_true, false_and, and_false, not_true_eq_false, not_false_eq_true, Int.reduceAdd, Int.reduceSub, Int.reduceMul, ↓if_pos, ↓if_neg, Option.bind_some, Option.toList_some, Option.toList_none, List.append_nil, List.cons_append, List.nil_append, znat, znat1, zpm1, zcm1, zof0, zof1, zof2, zof3, zofa0, zofa1, a1, b_X3_ask_43, a2, b_X3_ask_52, a3, b_X3_ask_61, zM_joy _ g2 g4, b_X3_ask_68, b_X3_ask_85, b_X3_ask_86]
            exact k1
      obtain ⟨σ2, k1, k2⟩ := lp K.1 0 (-4) (-1000000000) τ (by omega) hτ (by omega)
      refine ⟨σ2, ?_, k2⟩
      rw [e_X3_ask]
      simp (disch := omega) only [nrm_id, zix, ↓reduceIte, if_true, if_false, true_and, and_true, false_and, and_false, not_true_eq_false, not_false_eq_true, Int.reduceAdd, Int.reduceSub, Int.reduceMul, ↓if_pos, ↓if_neg, Option.bind_some, Option.toList_some, Option.toList_none, List.append_nil, List.cons_append, List.nil_append, znat, znat1, zpm1, zcm1, zof0, zof1, zof2, zof3, zofa0, zofa1, r_isIn, b_X3_ask_7]
      exact k1
  · refine zP_same h0 (zI (-1)) (fun d => ?_) (fun d => ?_)
    · rw [e_X2_ask, s_isMind _ _ x1 x2]
      simp (disch := omega) only [nrm_id, zix, ↓reduceIte, if_true, if_false, true_and, and_true, false_and, and_false, not_true_eq_false, not_false_eq_true, Int.reduceAdd, Int.reduceSub, Int.reduceMul, ↓if_pos, ↓if_neg, Option.bind_some, Option.toList_some, Option.toList_none, List.append_nil, List.cons_append, List.nil_append, znat, znat1, zpm1, zcm1, zof0, zof1, zof2, zof3, zofa0, zofa1, b_X2_ask_4]
    · rw [e_X3_ask]
      simp (disch := omega) only [nrm_id, zix, ↓reduceIte, if_true, if_false, true_and, and_true, false_and, and_false, not_true_eq_false, not_false_eq_true, Int.reduceAdd, Int.reduceSub, Int.reduceMul, ↓if_pos, ↓if_neg, Option.bind_some, Option.toList_some, Option.toList_none, List.append_nil, List.cons_append, List.nil_append, znat, znat1, zpm1, zcm1, zof0, zof1, zof2, zof3, zofa0, zofa1, r_isIn, b_X3_ask_7]
theorem mrun_le (t : Nat → Int) (r n : Nat) : mrun t r n ≤ n := by
  induction n generalizing r with
  | zero => exact Nat.le_refl _
  | succ n ih =>
    unfold mrun
    have := ih (r + 1)
    split <;> omega
theorem p_longest (h : zSysK K T σ) {x w : Int} (hx : R32 x) (hw : R32 w) : zP mX2_longest mX3_longest [zI x, zI w] σ := by
  have h0 := h
  obtain ⟨hC, hM, hO, hT1, hT2, hT, -, -⟩ := h
  have hp := hO.1
  obtain ⟨x1, x2⟩ := hx
  obtain ⟨w1, w2⟩ := hw
  by_cases q : 0 ≤ x ∧ x ≤ 60
  · obtain ⟨n, rfl⟩ := Int.eq_ofNat_of_zero_le q.1
    have hpn := mrounds_p n K
    by_cases q3 : 0 ≤ w ∧ w ≤ 1
    · generalize hg : (fun r => ((mrun (mrounds n K).2.2.2.2.1 r (K.1 - r) : Nat) : Int)) = g
      have hgr : ∀ r, r ≤ K.1 → 0 ≤ g r ∧ g r ≤ 8 := fun r hr => by
        have e : g r = ((mrun (mrounds n K).2.2.2.2.1 r (K.1 - r) : Nat) : Int) := by rw [← hg]
        have := mrun_le (mrounds n K).2.2.2.2.1 r (K.1 - r)
        omega
      refine zP_read h0 (zI (if w = 0 then (mbst g mI K.1 0 (-4) 0).1 else (mbst g mI K.1 0 (-4) 0).2)) (fun d => ?_) (fun d τ hτ => ?_)
      · obtain ⟨σ1, g1, g2, g3, g4⟩ := s_thinkN (d + 15) h0 (n := n) (by omega)
        have hv : ∀ i, i ≤ K.1 → zc (d + 19) mX0_tippingFrom [zR (some 6), zI i] σ1 = some (some (zI (g i)), σ1) := fun i hi => by
          rw [s_tippingFrom _ zCo6 g2 g4 (show i ≤ (mrounds n K).1 from by omega), hpn, ← hg]
        have lp : ∀ (m i : Nat) (f b : Int), i + m = K.1 → (0 ≤ b ∧ b ≤ 8) → zq (d + 20) mX2_longest 32 [some (zR (some 0)), none, some (zI w), some (zI b), some (zI f), some (zI i), none] [] σ1 = some (some (zI (if w = 0 then (mbst g mI m i f b).1 else (mbst g mI m i f b).2)), σ1) := by
          intro m
          induction m with
          | zero =>
            intro i f b hi hb
            rw [b_X2_longest_32, g2.1, hpn, show i = K.1 from by omega]
            by_cases hw0 : w = 0 <;> simp (disch := omega) only [nrm_id, zix, ↓reduceIte, if_true, if_false, true_and, and_true, false_and, and_false, not_true_eq_false, not_false_eq_true, Int.reduceAdd, Int.reduceSub, Int.reduceMul, ↓if_pos, ↓if_neg, Option.bind_some, Option.toList_some, Option.toList_none, List.append_nil, List.cons_append, List.nil_append, znat, znat1, zpm1, zcm1, zof0, zof1, zof2, zof3, zofa0, zofa1, mbst]
          | succ m ih =>
            intro i f b hi hb
            have hgi := hgr i (by omega)
            rw [b_X2_longest_32, g2.1, hpn]
            unfold mbst
            by_cases hc : g i ≤ b
            · simp (disch := omega) only [nrm_id, zix, ↓reduceIte, if_true, if_false, true_and, and_true, false_and, and_false, not_true_eq_false, not_false_eq_true, Int.reduceAdd, Int.reduceSub, Int.reduceMul, ↓if_pos, ↓if_neg, Option.bind_some, Option.toList_some, Option.toList_none, List.append_nil, List.cons_append, List.nil_append, znat, znat1, zpm1, zcm1, zof0, zof1, zof2, zof3, zofa0, zofa1, hv, b_X2_longest_53, b_X2_longest_68]
              exact ih (i + 1) f b (by omega) hb
            · simp (disch := omega) only [nrm_id, zix, ↓reduceIte, if_true, if_false, true_and, and_true, false_and, and_false, not_true_eq_false, not_false_eq_true, Int.reduceAdd, Int.reduceSub, Int.reduceMul, ↓if_pos, ↓if_neg, Option.bind_some, Option.toList_some, Option.toList_none, List.append_nil, List.cons_append, List.nil_append, znat, znat1, zpm1, zcm1, zof0, zof1, zof2, zof3, zofa0, zofa1, hv, b_X2_longest_53, b_X2_longest_68]
              exact ih (i + 1) (mI i) (g i) (by omega) hgi
        refine ⟨σ1, ?_, g3⟩
        rw [e_X2_longest, s_isMind _ _ x1 x2]
        simp (disch := omega) only [nrm_id, zix, ↓reduceIte, if_true, if_false, true_and, and_true, false_and, and_false, not_true_eq_false, not_false_eq_true, Int.reduceAdd, Int.reduceSub, Int.reduceMul, ↓if_pos, ↓if_neg, Option.bind_some, Option.toList_some, Option.toList_none, List.append_nil, List.cons_append, List.nil_append, znat, znat1, zpm1, zcm1, zof0, zof1, zof2, zof3, zofa0, zofa1, b_X2_longest_4, g1, b_X2_longest_23]
        exact lp K.1 0 (-4) 0 (by omega) (by omega)
      · obtain ⟨σ1, g1, g2, g3⟩ := r_takesN (d + 15) hτ (n := n) (by omega)
        have g4 := mrounds_ok hO n
        have hv : ∀ i, i ≤ K.1 → zc (d + 19) mX3_runIn [zR (some 36), zI i] σ1 = some (some (zI (g i)), σ1) := fun i hi => by
          rw [r_runIn _ g2 g4 (show i ≤ (mrounds n K).1 from by omega), hpn, ← hg]
        have lp : ∀ (m i : Nat) (f b : Int), i + m = K.1 → (0 ≤ b ∧ b ≤ 8) → zq (d + 20) mX3_longest 35 [some (zR (some 36)), none, some (zI w), some (zI f), some (zI b), some (zI i)] [] σ1 = some (some (zI (if w = 0 then (mbst g mI m i f b).1 else (mbst g mI m i f b).2)), σ1) := by
          intro m
          induction m with
          | zero =>
            intro i f b hi hb
            rw [b_X3_longest_35, g2.1, hpn, show i = K.1 from by omega]
            by_cases hw0 : w = 0 <;> simp (disch := omega) only [nrm_id, zix, ↓reduceIte, if_true, if_false, true_and, and_true, false_and, and_false, not_true_eq_false, not_false_eq_true, Int.reduceAdd, Int.reduceSub, Int.reduceMul, ↓if_pos, ↓if_neg, Option.bind_some, Option.toList_some, Option.toList_none, List.append_nil, List.cons_append, List.nil_append, znat, znat1, zpm1, zcm1, zof0, zof1, zof2, zof3, zofa0, zofa1, mbst]
          | succ m ih =>
            intro i f b hi hb
            have hgi := hgr i (by omega)
            rw [b_X3_longest_35, g2.1, hpn]
            unfold mbst
            by_cases hc : g i ≤ b
            · simp (disch := omega) only [nrm_id, zix, ↓reduceIte, if_true, if_false, true_and, and_true, false_and, and_false, not_true_eq_false, not_false_eq_true, Int.reduceAdd, Int.reduceSub, Int.reduceMul, ↓if_pos, ↓if_neg, Option.bind_some, Option.toList_some, Option.toList_none, List.append_nil, List.cons_append, List.nil_append, znat, znat1, zpm1, zcm1, zof0, zof1, zof2, zof3, zofa0, zofa1, hv, b_X3_longest_52, b_X3_longest_71]
              exact ih (i + 1) f b (by omega) hb
            · simp (disch := omega) only [nrm_id, zix, ↓reduceIte, if_true, if_false, true_and, and_true, false_and, and_false, not_true_eq_false, not_false_eq_true, Int.reduceAdd, Int.reduceSub, Int.reduceMul, ↓if_pos, ↓if_neg, Option.bind_some, Option.toList_some, Option.toList_none, List.append_nil, List.cons_append, List.nil_append, znat, znat1, zpm1, zcm1, zof0, zof1, zof2, zof3, zofa0, zofa1, hv, b_X3_longest_52, b_X3_longest_69, b_X3_longest_71]
              exact ih (i + 1) (mI i) (g i) (by omega) hgi
        refine ⟨σ1, ?_, g3⟩
        rw [e_X3_longest]
        simp (disch := omega) only [nrm_id, zix, ↓reduceIte, if_true, if_false, true_and, and_true, false_and, and_false, not_true_eq_false, not_false_eq_true, Int.reduceAdd, Int.reduceSub, Int.reduceMul, ↓if_pos, ↓if_neg, Option.bind_some, Option.toList_some, Option.toList_none, List.append_nil, List.cons_append, List.nil_append, znat, znat1, zpm1, zcm1, zof0, zof1, zof2, zof3, zofa0, zofa1, r_isIn, b_X3_longest_7, b_X3_longest_16, g1, b_X3_longest_26]
        exact lp K.1 0 (-4) 0 (by omega) (by omega)
    · refine zP_same h0 (zI (-1)) (fun d => ?_) (fun d => ?_)
      · rw [e_X2_longest, s_isMind _ _ x1 x2]
        by_cases q5 : w < 0 <;> simp (disch := omega) only [nrm_id, zix, ↓reduceIte, if_true, if_false, true_and, and_true, false_and, and_false, not_true_eq_false, not_false_eq_true, Int.reduceAdd, Int.reduceSub, Int.reduceMul, ↓if_pos, ↓if_neg, Option.bind_some, Option.toList_some, Option.toList_none, List.append_nil, List.cons_append, List.nil_append, znat, znat1, zpm1, zcm1, zof0, zof1, zof2, zof3, zofa0, zofa1, b_X2_longest_4]
      · rw [e_X3_longest]
        simp (disch := omega) only [nrm_id, zix, ↓reduceIte, if_true, if_false, true_and, and_true, false_and, and_false, not_true_eq_false, not_false_eq_true, Int.reduceAdd, Int.reduceSub, Int.reduceMul, ↓if_pos, ↓if_neg, Option.bind_some, Option.toList_some, Option.toList_none, List.append_nil, List.cons_append, List.nil_append, znat, znat1, zpm1, zcm1, zof0, zof1, zof2, zof3, zofa0, zofa1, r_isIn, b_X3_longest_7, b_X3_longest_16]
  · refine zP_same h0 (zI (-1)) (fun d => ?_) (fun d => ?_)
    · rw [e_X2_longest, s_isMind _ _ x1 x2]
      simp (disch := omega) only [nrm_id, zix, ↓reduceIte, if_true, if_false, true_and, and_true, false_and, and_false, not_true_eq_false, not_false_eq_true, Int.reduceAdd, Int.reduceSub, Int.reduceMul, ↓if_pos, ↓if_neg, Option.bind_some, Option.toList_some, Option.toList_none, List.append_nil, List.cons_append, List.nil_append, znat, znat1, zpm1, zcm1, zof0, zof1, zof2, zof3, zofa0, zofa1, b_X2_longest_4]
    · rw [e_X3_longest]
      simp (disch := omega) only [nrm_id, zix, ↓reduceIte, if_true, if_false, true_and, and_true, false_and, and_false, not_true_eq_false, not_false_eq_true, Int.reduceAdd, Int.reduceSub, Int.reduceMul, ↓if_pos, ↓if_neg, Option.bind_some, Option.toList_some, Option.toList_none, List.append_nil, List.cons_append, List.nil_append, znat, znat1, zpm1, zcm1, zof0, zof1, zof2, zof3, zofa0, zofa1, r_isIn, b_X3_longest_7]
end SYS4
