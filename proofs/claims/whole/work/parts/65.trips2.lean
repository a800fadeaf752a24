/-! trips: one drawn trip on both sides -/
def mtv (K : zK) (w x : Int) : Int := if w = 0 then mtS (mrounds 5 (mtripK K x K.1)) else mpop (mtip (mrounds 5 (mtripK K x K.1)).2.2.2.2.1 (mrounds 5 (mtripK K x K.1)).1)
/-- the seed ahead of a trip -/
def msd (K : zK) (z : Int) : Nat → Int
  | 0 => z
  | i + 1 => msq (mseed (msd K z i)) K.1
theorem mtv_rng {K : zK} (hO : mOk K) (w x : Int) : 0 ≤ mtv K w x ∧ mtv K w x ≤ 80 := by
  unfold mtv
  split
  · exact mtS_rng (mrounds_ok (mtripK_ok hO x (Nat.le_refl _)) 5)
  · have := mpop_rng (mtip (mrounds 5 (mtripK K x K.1)).2.2.2.2.1 (mrounds 5 (mtripK K x K.1)).1)
    omega
/-- the reference's trip with the blocks of the first i rows drawn -/
def mtrM (K : zK) (x : Int) (i : Nat) : zK := (K.1, (mdr (mseed x)).tmod 24, K.2.2.1, K.2.2.2.1, fun _ => 0, fun r => if r < i then (if (mdr (msq (mseed x) (r + 1))).tmod 5 = 0 then 1 else 0) else K.2.2.2.2.2 r)
section SYS23
variable {σ : zS} {K : zK} {T : Int}
theorem s_drawTrip (d : Nat) (hO : mOk K) {K' : zK} (hA : AbsC σ 6 K') (q1 : K'.1 = K.1) (q2 : K'.2.2.1 = K.2.2.1) (q3 : K'.2.2.2.1 = K.2.2.2.1) (x : Int) : ∃ σ', zc (d + 2) mX2_drawTrip [zR (some 0), zI x] σ = some (some (zI (msq (mseed x) K.1)), σ') ∧ AbsC σ' 6 (mtripK K x K.1) ∧ zScr zSc σ σ' := by
  obtain ⟨σ1, a1, a2, a3⟩ := s_sitUp d zCo6 hA
  have hd := mdr_rng (mseed x)
  have h24 := tmod_rng hd.1 (show (0 : Int) < 24 by decide)
  have hA2 : AbsC (zup (zup σ1 6 1 ((mdr (mseed x)).tmod 24)) 6 3 0) 6 (mtripK K x 0) := by
    obtain ⟨h0, h1, e1, e2, e3, e4, e5⟩ := a2
    dsimp only at h0 h1 e1 e2 e3 e4 e5
    rw [q1] at h0
    rw [q2] at e1
    rw [q3] at e2
    refine ⟨?_, ?_, fun r hr => ?_, fun r hr => ?_, fun r hr => ?_, ?_, fun r hr => ?_⟩
    · rw [zup_ix (by omega), zup_ix (by omega)]; exact h0
    · rw [zup_ix (by omega), zup_at]; rfl
    · rw [zup_ne (by omega), zup_ne (by omega)]; exact e1 r hr
    · rw [zup_ne (by omega), zup_ne (by omega)]; exact e2 r hr
    · rw [zup_ne (by omega), zup_ne (by omega)]; exact e3 r hr
    · rw [zup_at]; decide
    · rw [zup_at]
      show mbit 0 r = if r < 0 ∧ (mdr (msq (mseed x) (r + 1))).tmod 5 = 0 then (1 : Int) else 0
      rw [if_neg (fun z => by have := z.1; omega)]
      simp [mbit]
  obtain ⟨σ2, k1, k2, k3⟩ := s_drawLoop d hO x K.1 0 _ (by omega) hA2
  have k1' : zq (d + 2) mX2_drawTrip 36 [some (zR (some 0)), none, some (zI (mseed x)), some (zI 0)] [] (zup (zup σ1 6 1 ((mdr (mseed x)).tmod 24)) 6 3 0) = some (some (zI (msq (mseed x) K.1)), σ2) := k1
  refine ⟨σ2, ?_, k2, zScr_tr (zScr_of (ps := [6, 9]) (zFr_tr (zFr_mono a3 (by simp)) (zFr_tr (zFr_up (by simp)) (zFr_up (by simp)))) (by simp [zSc]) (by simp)) k3⟩
  rw [e_X2_drawTrip]
  simp (disch := omega) only [nrm_id, zix, ↓reduceIte, if_true, if_false, true_and, and_true, false_and, and_false, not_true_eq_false, not_false_eq_true, Int.reduceAdd, Int.reduceSub, Int.reduceMul, ↓if_pos, ↓if_neg, Option.bind_some, Option.toList_some, Option.toList_none, List.append_nil, List.cons_append, List.nil_append, znat, znat1, zpm1, zcm1, zof0, zof1, zof2, zof3, zofa0, zofa1, a1, b_X2_drawTrip_7, s_nextSeed, b_X2_drawTrip_11, s_drawn, b_X2_drawTrip_20]
  exact k1'
theorem r_drawn (d : Nat) {y : Int} (hy : σ 36 13 = y) {n : Int} (hn : 1 ≤ n ∧ n ≤ 100) : zc d mX3_drawn [zR (some 36), zI n] σ = some (some (zI ((mdr (mseed y)).tmod n)), zup σ 36 13 (mseed y)) := by
  have hd := mdr_rng (mseed y)
  rw [e_X3_drawn, hy, nrm_id (z := n) (by omega) (by omega), if_neg (by omega), zup_at]
  rw [show (nrm (zand (y * 1103515245 + 12345) 2147483647)).tdiv 65536 = mdr (mseed y) from rfl, nrm_id (by omega) (by omega)]
  rfl
theorem r_drawLoop (d : Nat) (hO : mOk K) (x a1 a3 a4 a5 : Int) : ∀ (m i : Nat) (τ : zS), i + m = K.1 → τ 36 13 = msq (mseed x) i → AbsM τ 38 (mtrM K x i) → ∃ τ', zq (d + 4) mX3_trips 83 [some (zR (some 36)), some (zI a1), none, some (zI a3), some (zI a4), some (zI a5), some (zI i)] [] τ = zq (d + 4) mX3_trips 133 [some (zR (some 36)), some (zI a1), none, some (zI a3), some (zI a4), some (zI a5), some (zI K.1)] [] τ' ∧ AbsM τ' 38 (mrounds 5 (mtripK K x K.1)) ∧ zScr zSc τ τ' ∧ τ' 36 13 = msq (mseed x) K.1 := by
  have hp := hO.1
  intro m
  induction m with
  | zero =>
    intro i τ hi hs hA
    have hi' : i = K.1 := by omega
    subst hi'
    have hA2 : AbsM τ 38 (mtripK K x K.1) := by
      refine AbsM_eq hA ⟨rfl, rfl, fun _ _ => rfl, fun _ _ => rfl, fun _ _ => rfl, fun j hj => ?_⟩
      show (if j < K.1 then (if (mdr (msq (mseed x) (j + 1))).tmod 5 = 0 then (1 : Int) else 0) else K.2.2.2.2.2 j) = if j < K.1 ∧ (mdr (msq (mseed x) (j + 1))).tmod 5 = 0 then 1 else 0
      by_cases e : j < K.1
      · rw [if_pos e]
        by_cases e2 : (mdr (msq (mseed x) (j + 1))).tmod 5 = 0
        · rw [if_pos e2, if_pos ⟨e, e2⟩]
        · rw [if_neg e2, if_neg (fun z => e2 z.2)]
      · rw [if_neg e, if_neg (fun z => e z.1)]
        exact (hO.2.2.2.2.2 j hj).2.1 (by omega)
    obtain ⟨τ1, c1, c2, -, c3⟩ := r_roundsOn d zAr38 hA2 (mtripK_ok hO x (Nat.le_refl _)) (n := 5) (by decide)
    have c1' : zc (d + 3) mX3_roundsOn [zR (some 36), zR (some 38), zI 5] τ = some (none, τ1) := c1
    refine ⟨τ1, ?_, c2, zScr_of c3 (by simp [zSc]) (by simp), by rw [c3 36 (by simp)]; exact hs⟩
    have h0 : τ 38 0 = (K.1 : Int) := hA.1
    rw [b_X3_trips_83, h0]
    simp (disch := omega) only [nrm_id, zix, ↓reduceIte, if_true, if_false, true_and, and_true, false_and, and_false, not_true_eq_false, not_false_eq_true, Int.reduceAdd, Int.reduceSub, Int.reduceMul, ↓if_pos, ↓if_neg, Option.bind_some, Option.toList_some, Option.toList_none, List.append_nil, List.cons_append, List.nil_append, znat, znat1, zpm1, zcm1, zof0, zof1, zof2, zof3, zofa0, zofa1, c1']
  | succ m ih =>
    intro i τ hi hs hA
    have h0 : τ 38 0 = (K.1 : Int) := hA.1
    have hd := mdr_rng (msq (mseed x) (i + 1))
    have ht := tmod_rng hd.1 (show (0 : Int) < 5 by decide)
    have dr := r_drawn (σ := τ) (d + 3) hs (n := 5) (by decide)
    have em : mseed (msq (mseed x) i) = msq (mseed x) (i + 1) := rfl
    rw [em] at dr
    have key : ∀ v : Int, v = (if (mdr (msq (mseed x) (i + 1))).tmod 5 = 0 then (1 : Int) else 0) → AbsM (zup (zup τ 36 13 (msq (mseed x) (i + 1))) 38 (6 + 4 * i) v) 38 (mtrM K x (i + 1)) := by
      intro v hv
      have hA1 : AbsM (zup τ 36 13 (msq (mseed x) (i + 1))) 38 (mtrM K x i) := AbsM_fr hA (zup_ne (by decide))
      refine AbsM_eq (AbsM_blk hA1 (r := i) (v := v)) ⟨rfl, rfl, fun _ _ => rfl, fun _ _ => rfl, fun _ _ => rfl, fun j hj => ?_⟩
      show (if j = i then v else if j < i then (if (mdr (msq (mseed x) (j + 1))).tmod 5 = 0 then (1 : Int) else 0) else K.2.2.2.2.2 j) = if j < i + 1 then (if (mdr (msq (mseed x) (j + 1))).tmod 5 = 0 then (1 : Int) else 0) else K.2.2.2.2.2 j
      by_cases e : j = i
      · subst e; rw [if_pos rfl, if_pos (show j < j + 1 by omega), hv]
      · rw [if_neg e]
        by_cases e2 : j < i
        · rw [if_pos e2, if_pos (show j < i + 1 by omega)]
        · rw [if_neg e2, if_neg (show ¬ j < i + 1 by omega)]
    have hsc : ∀ v, zScr zSc τ (zup (zup τ 36 13 (msq (mseed x) (i + 1))) 38 (6 + 4 * i) v) := fun v => ⟨fun q hq h36 => by rw [zup_ne (fun e => hq (by rw [e]; decide)), zup_ne h36], by rw [zup_ne (by decide), zup_ix (by decide)]⟩
    have hs2 : ∀ v, (zup (zup τ 36 13 (msq (mseed x) (i + 1))) 38 (6 + 4 * i) v) 36 13 = msq (mseed x) (i + 1) := fun v => by rw [zup_ne (by decide), zup_at]
    by_cases q : (mdr (msq (mseed x) (i + 1))).tmod 5 = 0
    · obtain ⟨τ2, k1, k2, k3, k4⟩ := ih (i + 1) (zup (zup τ 36 13 (msq (mseed x) (i + 1))) 38 (6 + 4 * i) 1) (by omega) (hs2 1) (key 1 (by rw [if_pos q]))
      refine ⟨τ2, ?_, k2, zScr_tr (hsc 1) k3, k4⟩
      rw [b_X3_trips_83, h0]
      simp (disch := omega) only [nrm_id, zix, ↓reduceIte, if_true, if_false, true_and, and_true, false_and, and_false, not_true_eq_false, not_false_eq_true, Int.reduceAdd, Int.reduceSub, Int.reduceMul, ↓if_pos, ↓if_neg, Option.bind_some, Option.toList_some, Option.toList_none, List.append_nil, List.cons_append, List.nil_append, znat, znat1, zpm1, zcm1, zof0, zof1, zof2, zof3, zofa0, zofa1, r_of, b_X3_trips_104, dr, q, b_X3_trips_109, b_X3_trips_117]
      exact k1
    · obtain ⟨τ2, k1, k2, k3, k4⟩ := ih (i + 1) (zup (zup τ 36 13 (msq (mseed x) (i + 1))) 38 (6 + 4 * i) 0) (by omega) (hs2 0) (key 0 (by rw [if_neg q]))
      refine ⟨τ2, ?_, k2, zScr_tr (hsc 0) k3, k4⟩
      rw [b_X3_trips_83, h0]
      simp (disch := omega) only [nrm_id, zix, ↓reduceIte, if_true, if_false, true_and, and_true, false_and, and_false, not_true_eq_false, not_false_eq_true, Int.reduceAdd, Int.reduceSub, Int.reduceMul, ↓if_pos, ↓if_neg, Option.bind_some, Option.toList_some, Option.toList_none, List.append_nil, List.cons_append, List.nil_append, znat, znat1, zpm1, zcm1, zof0, zof1, zof2, zof3, zofa0, zofa1, r_of, b_X3_trips_104, dr, b_X3_trips_109, b_X3_trips_117]
      exact k1
theorem p_trips (h : zSysK K T σ) {x z w : Int} (hx : R32 x) (hz : R32 z) (hw : R32 w) : zP mX2_trips mX3_trips [zI x, zI z, zI w] σ := by
  have h0 := h
  obtain ⟨hC, hM, hO, hT1, hT2, hT, -, -⟩ := h
  have hp := hO.1
  obtain ⟨x1, x2⟩ := hx
  obtain ⟨w1, w2⟩ := hw
  by_cases q : (1 ≤ x ∧ x ≤ 20) ∧ (0 ≤ w ∧ w ≤ 1)
  · by_cases q0 : K.1 = 0
    · refine zP_same h0 (zI (-3)) (fun d => ?_) (fun d => ?_)
      · rw [e_X2_trips, hC.1, q0]
        simp (disch := omega) only [nrm_id, zix, ↓reduceIte, if_true, if_false, true_and, and_true, false_and, and_false, not_true_eq_false, not_false_eq_true, Int.reduceAdd, Int.reduceSub, Int.reduceMul, ↓if_pos, ↓if_neg, Option.bind_some, Option.toList_some, Option.toList_none, List.append_nil, List.cons_append, List.nil_append, znat, znat1, zpm1, zcm1, zof0, zof1, zof2, zof3, zofa0, zofa1]
      · rw [e_X3_trips, r_isIn _ _ ⟨x1, x2⟩ (by omega) (by omega)]
        simp (disch := omega) only [nrm_id, zix, ↓reduceIte, if_true, if_false, true_and, and_true, false_and, and_false, not_true_eq_false, not_false_eq_true, Int.reduceAdd, Int.reduceSub, Int.reduceMul, ↓if_pos, ↓if_neg, Option.bind_some, Option.toList_some, Option.toList_none, List.append_nil, List.cons_append, List.nil_append, znat, znat1, zpm1, zcm1, zof0, zof1, zof2, zof3, zofa0, zofa1, b_X3_trips_7, r_isIn, b_X3_trips_16, hM.1, q0]
    · obtain ⟨n, rfl⟩ := Int.eq_ofNat_of_zero_le (show 0 ≤ x by omega)
      have hrg : ∀ i : Nat, i ≤ 20 → 0 ≤ msum (fun i => mtv K w (msd K z i)) i ∧ msum (fun i => mtv K w (msd K z i)) i ≤ 1600 := fun i hi => by
        have := msum_rng (f := fun i => mtv K w (msd K z i)) (a := 0) (b := 80) i (fun r _ => mtv_rng hO w _)
        omega
      have hw01 : w = 0 ∨ w = 1 := by omega
      have hmv : ∀ y, mOk (mrounds 5 (mtripK K y K.1)) := fun y => mrounds_ok (mtripK_ok hO y (Nat.le_refl _)) 5
      refine zP_read h0 (zI (msum (fun i => mtv K w (msd K z i)) n)) (fun d => ?_) (fun d τ hτ => ?_)
      · have lp : ∀ (m i : Nat) (τ : zS) (K' : zK), i + m = n → AbsC τ 6 K' → K'.1 = K.1 → K'.2.2.1 = K.2.2.1 → K'.2.2.2.1 = K.2.2.2.1 → ∃ τ', zq (d + 20) mX2_trips 55 [some (zR (some 0)), some (zI n), none, some (zI w), some (zI (msd K z i)), some (zI (msum (fun i => mtv K w (msd K z i)) i)), some (zI i)] [] τ = some (some (zI (msum (fun i => mtv K w (msd K z i)) n)), τ') ∧ zScr zSc τ τ' := by
          intro m
          induction m with
          | zero =>
            intro i τ K' hi hA u1 u2 u3
            have hi' : i = n := by omega
            subst hi'
            refine ⟨τ, ?_, zScr_rf _ _⟩
            rw [b_X2_trips_55]
            simp (disch := omega) only [nrm_id, zix, ↓reduceIte, if_true, if_false, true_and, and_true, false_and, and_false, not_true_eq_false, not_false_eq_true, Int.reduceAdd, Int.reduceSub, Int.reduceMul, ↓if_pos, ↓if_neg, Option.bind_some, Option.toList_some, Option.toList_none, List.append_nil, List.cons_append, List.nil_append, znat, znat1, zpm1, zcm1, zof0, zof1, zof2, zof3, zofa0, zofa1]
          | succ m ih =>
            intro i τ K' hi hA u1 u2 u3
            obtain ⟨τ1, b1, b2, b3⟩ := s_drawTrip (d + 17) hO hA u1 u2 u3 (msd K z i)
            obtain ⟨τ2, c1, c2, c3⟩ := s_goOn (d + 16) zCo6 b2 (mtripK_ok hO (msd K z i) (Nat.le_refl _)) (n := 5) (by decide)
            have c1' : ∃ v : Int, zc (d + 19) mX0_goOn [zR (some 6), zI 5] τ1 = some (some (zI v), τ2) := ⟨_, c1⟩
            obtain ⟨v, c1'⟩ := c1'
            obtain ⟨τ3, k1, k2⟩ := ih (i + 1) τ2 _ (by omega) c2 rfl rfl rfl
            refine ⟨τ3, ?_, zScr_tr b3 (zScr_tr (zScr_of c3 (by simp [zSc]) (by simp)) k2)⟩
            have ht := s_tippingRows (d + 19) zCo6 c2 (hmv (msd K z i))
            have hr := mtip_rng (mrounds 5 (mtripK K (msd K z i) K.1)).2.2.2.2.1 (mrounds 5 (mtripK K (msd K z i) K.1)).1 (hmv (msd K z i)).1
            have em : msum (fun i => mtv K w (msd K z i)) (i + 1) = msum (fun i => mtv K w (msd K z i)) i + mtv K w (msd K z i) := rfl
            have es : msd K z (i + 1) = msq (mseed (msd K z i)) K.1 := rfl
            rw [em, es] at k1
            rw [b_X2_trips_55]
            rcases hw01 with rfl | rfl
            · have ev : mtv K 0 (msd K z i) = mtS (mrounds 5 (mtripK K (msd K z i) K.1)) := if_pos rfl
              rw [ev] at k1
              simp (disch := omega) only [nrm_id, zix, ↓reduceIte, if_true, if_false, true_and, and_true, false_and, and_false, not_true_eq_false, not_false_eq_true, Int.reduceAdd, Int.reduceSub, Int.reduceMul, ↓if_pos, ↓if_neg, Option.bind_some, Option.toList_some, Option.toList_none, List.append_nil, List.cons_append, List.nil_append, znat, znat1, zpm1, zcm1, zof0, zof1, zof2, zof3, zofa0, zofa1, b1, b_X2_trips_67, c1', b_X2_trips_77, zC_tips _ c2 (hmv (msd K z i)), b_X2_trips_91, b_X2_trips_104]
              exact k1
            · have ev : mtv K 1 (msd K z i) = mpop (mtip (mrounds 5 (mtripK K (msd K z i) K.1)).2.2.2.2.1 (mrounds 5 (mtripK K (msd K z i) K.1)).1) := if_neg (by decide)
              rw [ev] at k1
              simp (disch := omega) only [nrm_id, zix, ↓reduceIte, if_true, if_false, true_and, and_true, false_and, and_false, not_true_eq_false, not_false_eq_true, Int.reduceAdd, Int.reduceSub, Int.reduceMul, ↓if_pos, ↓if_neg, Option.bind_some, Option.toList_some, Option.toList_none, List.append_nil, List.cons_append, List.nil_append, znat, znat1, zpm1, zcm1, zof0, zof1, zof2, zof3, zofa0, zofa1, b1, b_X2_trips_67, c1', b_X2_trips_77, ht, b_X2_trips_101, s_bitCount, b_X2_trips_104]
              exact k1
        obtain ⟨σ1, a1, a2, -, a3⟩ := s_copyFrom (d + 18) zCo6 zCo1 (by decide) hC
        obtain ⟨σ2, k1, k2⟩ := lp n 0 σ1 K (by omega) a2 rfl rfl rfl
        refine ⟨σ2, ?_, zScr_tr (zScr_of a3 (by simp [zSc]) (by simp)) k2⟩
        rw [e_X2_trips, hC.1]
        simp (disch := omega) only [nrm_id, zix, ↓reduceIte, if_true, if_false, true_and, and_true, false_and, and_false, not_true_eq_false, not_false_eq_true, Int.reduceAdd, Int.reduceSub, Int.reduceMul, ↓if_pos, ↓if_neg, Option.bind_some, Option.toList_some, Option.toList_none, List.append_nil, List.cons_append, List.nil_append, znat, znat1, zpm1, zcm1, zof0, zof1, zof2, zof3, zofa0, zofa1, a1, b_X2_trips_46]
        exact k1
      · have lp : ∀ (m i : Nat) (τ : zS), i + m = n → zSysK K T τ → τ 36 13 = msd K z i → ∃ τ', zq (d + 20) mX3_trips 44 [some (zR (some 36)), some (zI n), none, some (zI w), some (zI (msum (fun i => mtv K w (msd K z i)) i)), some (zI i), none] [] τ = some (some (zI (msum (fun i => mtv K w (msd K z i)) n)), τ') ∧ zScr zSc τ τ' := by
          intro m
          induction m with
          | zero =>
            intro i τ hi hS hs
            have hi' : i = n := by omega
            subst hi'
            refine ⟨τ, ?_, zScr_rf _ _⟩
            rw [b_X3_trips_44]
            simp (disch := omega) only [nrm_id, zix, ↓reduceIte, if_true, if_false, true_and, and_true, false_and, and_false, not_true_eq_false, not_false_eq_true, Int.reduceAdd, Int.reduceSub, Int.reduceMul, ↓if_pos, ↓if_neg, Option.bind_some, Option.toList_some, Option.toList_none, List.append_nil, List.cons_append, List.nil_append, znat, znat1, zpm1, zcm1, zof0, zof1, zof2, zof3, zofa0, zofa1]
          | succ m ih =>
            intro i τ hi hS hs
            obtain ⟨τ1, a1, a2, a3⟩ := r_copies (d + 19) zAr37 zAr38 τ
            obtain ⟨τ2, b1, b2, -, b3⟩ := r_upright (d + 18) zAr38 (AbsM_copy hS.2.1 a2)
            have hs2 : τ2 36 13 = msd K z i := by rw [b3 36 (by simp), a3 36 (by simp)]; exact hs
            have dr := r_drawn (σ := τ2) (d + 19) hs2 (n := 24) (by decide)
            have hA3 : AbsM (zup (zup τ2 36 13 (mseed (msd K z i))) 38 1 ((mdr (mseed (msd K z i))).tmod 24)) 38 (mtrM K (msd K z i) 0) := by
              have hA2 : AbsM (zup τ2 36 13 (mseed (msd K z i))) 38 (Kst K (fun _ => 0)) := AbsM_fr b2 (zup_ne (by decide))
              refine AbsM_eq (AbsM_clock hA2 ((mdr (mseed (msd K z i))).tmod 24)) ⟨rfl, rfl, fun _ _ => rfl, fun _ _ => rfl, fun _ _ => rfl, fun j hj => ?_⟩
              show K.2.2.2.2.2 j = if j < 0 then (if (mdr (msq (mseed (msd K z i)) (j + 1))).tmod 5 = 0 then (1 : Int) else 0) else K.2.2.2.2.2 j
              rw [if_neg (by omega)]
            obtain ⟨τ4, e1, e2, e3, e4⟩ := r_drawLoop (d + 16) hO (msd K z i) n w (msum (fun i => mtv K w (msd K z i)) i) i K.1 0 _ (by omega) (by rw [zup_ne (by decide), zup_at]; rfl) hA3
            have hsc : zScr zSc τ τ4 := zScr_tr (zScr_of a3 (by simp [zSc]) (by simp)) (zScr_tr (zScr_of b3 (by simp [zSc]) (by simp)) (zScr_tr ⟨fun q hq h36 => by rw [zup_ne (fun e => hq (by rw [e]; decide)), zup_ne h36], by rw [zup_ne (by decide), zup_ix (by decide)]⟩ e3))
            obtain ⟨τ5, k1, k2⟩ := ih (i + 1) τ4 (by omega) (zSys_scr hS hsc) e4
            refine ⟨τ5, ?_, zScr_tr hsc k2⟩
            have e1' : zq (d + 20) mX3_trips 83 [some (zR (some 36)), some (zI n), none, some (zI w), some (zI (msum (fun i => mtv K w (msd K z i)) i)), some (zI i), some (zI 0)] [] _ = _ := e1
            have ht := r_tipping (d + 18) zAr38 e2 (hmv (msd K z i))
            have hr := mtip_rng (mrounds 5 (mtripK K (msd K z i) K.1)).2.2.2.2.1 (mrounds 5 (mtripK K (msd K z i) K.1)).1 (hmv (msd K z i)).1
            have em : msum (fun i => mtv K w (msd K z i)) (i + 1) = msum (fun i => mtv K w (msd K z i)) i + mtv K w (msd K z i) := rfl
            rw [em] at k1
            rw [b_X3_trips_44]
            simp (disch := omega) only [nrm_id, zix, ↓reduceIte, if_true, if_false, true_and, and_true, false_and, and_false, not_true_eq_false, not_false_eq_true, Int.reduceAdd, Int.reduceSub, Int.reduceMul, ↓if_pos, ↓if_neg, Option.bind_some, Option.toList_some, Option.toList_none, List.append_nil, List.cons_append, List.nil_append, znat, znat1, zpm1, zcm1, zof0, zof1, zof2, zof3, zofa0, zofa1, a1, b_X3_trips_61, b1, b_X3_trips_68, dr, b_X3_trips_79]
            refine Eq.trans e1' ?_
            rw [b_X3_trips_133]
            rcases hw01 with rfl | rfl
            · have ev : mtv K 0 (msd K z i) = mtS (mrounds 5 (mtripK K (msd K z i) K.1)) := if_pos rfl
              rw [ev] at k1
              simp (disch := omega) only [nrm_id, zix, ↓reduceIte, if_true, if_false, true_and, and_true, false_and, and_false, not_true_eq_false, not_false_eq_true, Int.reduceAdd, Int.reduceSub, Int.reduceMul, ↓if_pos, ↓if_neg, Option.bind_some, Option.toList_some, Option.toList_none, List.append_nil, List.cons_append, List.nil_append, znat, znat1, zpm1, zcm1, zof0, zof1, zof2, zof3, zofa0, zofa1, zM_tips _ e2 (hmv (msd K z i)), b_X3_trips_146, b_X3_trips_159]
              exact k1
            · have ev : mtv K 1 (msd K z i) = mpop (mtip (mrounds 5 (mtripK K (msd K z i) K.1)).2.2.2.2.1 (mrounds 5 (mtripK K (msd K z i) K.1)).1) := if_neg (by decide)
              rw [ev] at k1
              simp (disch := omega) only [nrm_id, zix, ↓reduceIte, if_true, if_false, true_and, and_true, false_and, and_false, not_true_eq_false, not_false_eq_true, Int.reduceAdd, Int.reduceSub, Int.reduceMul, ↓if_pos, ↓if_neg, Option.bind_some, Option.toList_some, Option.toList_none, List.append_nil, List.cons_append, List.nil_append, znat, znat1, zpm1, zcm1, zof0, zof1, zof2, zof3, zofa0, zofa1, ht, b_X3_trips_156, r_bits, b_X3_trips_159]
              exact k1
        have hS0 : zSysK K T (zup τ 36 13 z) := zSys_scr hτ ⟨fun q _ h36 => zup_ne h36, zup_ix (by decide)⟩
        obtain ⟨σ2, k1, k2⟩ := lp n 0 _ (by omega) hS0 (by rw [zup_at]; rfl)
        refine ⟨σ2, ?_, zScr_tr ⟨fun q _ h36 => zup_ne h36, zup_ix (by decide)⟩ k2⟩
        rw [e_X3_trips, r_isIn _ _ ⟨x1, x2⟩ (by omega) (by omega)]
        simp (disch := omega) only [nrm_id, zix, ↓reduceIte, if_true, if_false, true_and, and_true, false_and, and_false, not_true_eq_false, not_false_eq_true, Int.reduceAdd, Int.reduceSub, Int.reduceMul, ↓if_pos, ↓if_neg, Option.bind_some, Option.toList_some, Option.toList_none, List.append_nil, List.cons_append, List.nil_append, znat, znat1, zpm1, zcm1, zof0, zof1, zof2, zof3, zofa0, zofa1, b_X3_trips_7, r_isIn, b_X3_trips_16, hτ.2.1.1]
        exact k1
  · refine zP_same h0 (zI (-1)) (fun d => ?_) (fun d => ?_)
    · rw [e_X2_trips]
      by_cases q1 : x < 1
      · simp (disch := omega) only [nrm_id, zix, ↓reduceIte, if_true, if_false, true_and, and_true, false_and, and_false, not_true_eq_false, not_false_eq_true, Int.reduceAdd, Int.reduceSub, Int.reduceMul, ↓if_pos, ↓if_neg, Option.bind_some, Option.toList_some, Option.toList_none, List.append_nil, List.cons_append, List.nil_append, znat, znat1, zpm1, zcm1, zof0, zof1, zof2, zof3, zofa0, zofa1]
      · by_cases q2 : 20 < x
        · simp (disch := omega) only [nrm_id, zix, ↓reduceIte, if_true, if_false, true_and, and_true, false_and, and_false, not_true_eq_false, not_false_eq_true, Int.reduceAdd, Int.reduceSub, Int.reduceMul, ↓if_pos, ↓if_neg, Option.bind_some, Option.toList_some, Option.toList_none, List.append_nil, List.cons_append, List.nil_append, znat, znat1, zpm1, zcm1, zof0, zof1, zof2, zof3, zofa0, zofa1]
        · by_cases q3 : w < 0 <;> simp (disch := omega) only [nrm_id, zix, ↓reduceIte, if_true, if_false, true_and, and_true, false_and, and_false, not_true_eq_false, not_false_eq_true, Int.reduceAdd, Int.reduceSub, Int.reduceMul, ↓if_pos, ↓if_neg, Option.bind_some, Option.toList_some, Option.toList_none, List.append_nil, List.cons_append, List.nil_append, znat, znat1, zpm1, zcm1, zof0, zof1, zof2, zof3, zofa0, zofa1]
    · rw [e_X3_trips, r_isIn _ _ ⟨x1, x2⟩ (by omega) (by omega)]
      by_cases q1 : 1 ≤ x ∧ x ≤ 20
      · simp (disch := omega) only [nrm_id, zix, ↓reduceIte, if_true, if_false, true_and, and_true, false_and, and_false, not_true_eq_false, not_false_eq_true, Int.reduceAdd, Int.reduceSub, Int.reduceMul, ↓if_pos, ↓if_neg, Option.bind_some, Option.toList_some, Option.toList_none, List.append_nil, List.cons_append, List.nil_append, znat, znat1, zpm1, zcm1, zof0, zof1, zof2, zof3, zofa0, zofa1, b_X3_trips_7, r_isIn, b_X3_trips_16]
      · simp (disch := omega) only [nrm_id, zix, ↓reduceIte, if_true, if_false, true_and, and_true, false_and, and_false, not_true_eq_false, not_false_eq_true, Int.reduceAdd, Int.reduceSub, Int.reduceMul, ↓if_pos, ↓if_neg, Option.bind_some, Option.toList_some, Option.toList_none, List.append_nil, List.cons_append, List.nil_append, znat, znat1, zpm1, zcm1, zof0, zof1, zof2, zof3, zofa0, zofa1, b_X3_trips_7]
end SYS23
