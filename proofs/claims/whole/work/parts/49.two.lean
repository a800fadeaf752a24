section SYS9
variable {σ : zS} {K : zK} {T : Int}
theorem mtw_ok (hO : mOk K) {r : Nat} {a b : Int} (ha : 0 ≤ a ∧ a ≤ 10) (hb : 0 ≤ b ∧ b ≤ 10) (ha2 : K.2.2.2.2.2 r = 1 → a = 0) (hb2 : K.2.2.2.2.2 (r + 1) = 1 → b = 0) : mOk (mtw K r a b) := mset_ok hO (fun j hj => by
  show 0 ≤ (if j = r + 1 then b else if j = r then a else K.2.2.2.2.1 j) ∧ (if j = r + 1 then b else if j = r then a else K.2.2.2.2.1 j) ≤ 10
  split
  · exact hb
  · split
    · exact ha
    · exact hO.2.2.2.2.1 j hj) (fun j hj e => by
  show (if j = r + 1 then b else if j = r then a else K.2.2.2.2.1 j) = 0
  split
  · rename_i e1; subst e1; exact hb2 e
  · split
    · rename_i e1; subst e1; exact ha2 e
    · exact (hO.2.2.2.2.2 j hj).2.2 e)
theorem mtw_a {c r : Nat} {a b v : Int} (h : AbsC σ c (mtw K r a b)) : AbsC (zup σ (c + 3) r v) c (mtw K r v b) := AbsC_cong2 (AbsC_tip h) (fun j _ => by
  show (if j = r then v else if j = r + 1 then b else if j = r then a else K.2.2.2.2.1 j) = if j = r + 1 then b else if j = r then v else K.2.2.2.2.1 j
  by_cases e : j = r
  · subst e; rw [if_pos rfl, if_neg (by omega), if_pos rfl]
  · rw [if_neg e, if_neg e, if_neg e])
theorem mtw_b {c r : Nat} {a b v : Int} (h : AbsC σ c (mtw K r a b)) : AbsC (zup σ (c + 3) (r + 1) v) c (mtw K r a v) := AbsC_cong2 (AbsC_tip h) (fun j _ => by
  show (if j = r + 1 then v else if j = r + 1 then b else if j = r then a else K.2.2.2.2.1 j) = if j = r + 1 then v else if j = r then a else K.2.2.2.2.1 j
  by_cases e : j = r + 1
  · rw [if_pos e, if_pos e]
  · rw [if_neg e, if_neg e, if_neg e])
theorem mtw_aM {c r : Nat} {a b v : Int} (h : AbsM σ c (mtw K r a b)) : AbsM (zup σ c (5 + 4 * r) v) c (mtw K r v b) := AbsM_cong2 (AbsM_tip h) (fun j _ => by
  show (if j = r then v else if j = r + 1 then b else if j = r then a else K.2.2.2.2.1 j) = if j = r + 1 then b else if j = r then v else K.2.2.2.2.1 j
  by_cases e : j = r
  · subst e; rw [if_pos rfl, if_neg (by omega), if_pos rfl]
  · rw [if_neg e, if_neg e, if_neg e])
theorem mtw_bM {c r : Nat} {a b v : Int} (h : AbsM σ c (mtw K r a b)) : AbsM (zup σ c (5 + 4 * (r + 1)) v) c (mtw K r a v) := AbsM_cong2 (AbsM_tip h) (fun j _ => by
  show (if j = r + 1 then v else if j = r + 1 then b else if j = r then a else K.2.2.2.2.1 j) = if j = r + 1 then v else if j = r then a else K.2.2.2.2.1 j
  by_cases e : j = r + 1
  · rw [if_pos e, if_pos e]
  · rw [if_neg e, if_neg e, if_neg e])
theorem mtw_e (r : Nat) (j : Nat) : K.2.2.2.2.1 j = if j = r + 1 then K.2.2.2.2.1 (r + 1) else if j = r then K.2.2.2.2.1 r else K.2.2.2.2.1 j := by
  by_cases e : j = r + 1
  · subst e; rw [if_pos rfl]
  · rw [if_neg e]
    by_cases e2 : j = r
    · subst e2; rw [if_pos rfl]
    · rw [if_neg e2]
theorem mtw_can {r : Nat} (a b : Int) (j : Nat) : mcan (mtw K r a b) j = mcan K j := rfl
theorem mxc_rng (hO : mOk K) {r : Nat} (hr : r < 8) {x : Int} (hx : x = 0 ∨ x = 1) : 0 ≤ x * mcan K r ∧ x * mcan K r ≤ 10 := by
  have := mcan_rng hO hr
  rcases hx with rfl | rfl <;> omega
theorem mxc_blk {r : Nat} (x : Int) (e : K.2.2.2.2.2 r = 1) : x * mcan K r = 0 := by rw [mcan_blk e, Int.mul_zero]
theorem mJ_rng (hO : mOk K) {r : Nat} (hr : r + 1 < K.1) {x y : Int} (hx : x = 0 ∨ x = 1) (hy : y = 0 ∨ y = 1) {w : Nat} (hw : w < 8) : -50 ≤ mJ K r x y w ∧ mJ K r x y w ≤ 50 := by
  have hp := hO.1
  exact mjoy_rng (mtw_ok hO (mxc_rng hO (by omega) hx) (mxc_rng hO (by omega) hy) (mxc_blk x) (mxc_blk y)) hw
theorem s_joyOfChoice (d : Nat) (hO : mOk K) {r : Nat} (hr : r + 1 < K.1) {a b : Int} (hA : AbsC σ 6 (mtw K r a b)) (hAo : mOk (mtw K r a b)) {x y : Int} (hx : x = 0 ∨ x = 1) (hy : y = 0 ∨ y = 1) {w : Nat} (hw : w < 8) : ∃ σ1, zc (d + 3) mX2_joyOfChoice [zR (some 0), zI r, zI x, zI y, zI w] σ = some (some (zI (mJ K r x y w)), σ1) ∧ zScr zSc σ σ1 ∧ ∃ a' b', AbsC σ1 6 (mtw K r a' b') ∧ mOk (mtw K r a' b') := by
  have hp := hO.1
  have c1 := s_canAt (d + 1) zCo6 hA hAo (r := r) (show r < K.1 by omega)
  rw [mtw_can] at c1
  have cr1 := mcan_rng hO (r := r) (by omega)
  have cr2 := mcan_rng hO (r := r + 1) (by omega)
  have n1 : mxc_rng hO (r := r) (by omega) hx = mxc_rng hO (by omega) hx := rfl
  have xr := mxc_rng hO (r := r) (by omega) hx
  have yr := mxc_rng hO (r := r + 1) (by omega) hy
  have hA1 := mtw_a (v := x * mcan K r) hA
  have hb := hAo.2.2.2.2.1 (r + 1) (by omega)
  have hb2 := (hAo.2.2.2.2.2 (r + 1) (by omega)).2.2
  have eb : (mtw K r a b).2.2.2.2.1 (r + 1) = b := if_pos rfl
  rw [eb] at hb hb2
  have hO1 : mOk (mtw K r (x * mcan K r) b) := mtw_ok hO xr hb (mxc_blk x) hb2
  have c2 := s_canAt (d + 1) zCo6 hA1 hO1 (r := r + 1) hr
  rw [mtw_can] at c2
  have hA2 := mtw_b (v := y * mcan K (r + 1)) hA1
  have hO2 : mOk (mtw K r (x * mcan K r) (y * mcan K (r + 1))) := mtw_ok hO xr yr (mxc_blk x) (mxc_blk y)
  have j := s_joyAt d zCo6 hA2 hO2 hw
  push_cast at c2
  refine ⟨zup (zup σ 9 r (x * mcan K r)) 9 (r + 1) (y * mcan K (r + 1)), ?_, zScr_tr (zScr_of (ps := [9]) (zFr_up (by simp)) (by simp [zSc]) (by simp)) (zScr_of (ps := [9]) (zFr_up (by simp)) (by simp [zSc]) (by simp)), _, _, hA2, hO2⟩
  rw [e_X2_joyOfChoice]
  simp (disch := omega) only [nrm_id, zix, ↓reduceIte, if_true, if_false, true_and, and_true, false_and, and_false, not_true_eq_false, not_false_eq_true, Int.reduceAdd, Int.reduceSub, Int.reduceMul, ↓if_pos, ↓if_neg, Option.bind_some, Option.toList_some, Option.toList_none, List.append_nil, List.cons_append, List.nil_append, znat, znat1, zpm1, zcm1, zof0, zof1, zof2, zof3, zofa0, zofa1, c1, b_X2_joyOfChoice_17, c2, b_X2_joyOfChoice_40, j, b_X2_joyOfChoice_51]
  rfl
theorem s_nwr (d : Nat) (hO : mOk K) {r : Nat} (hr : r + 1 < K.1) {a b : Int} (hA : AbsC σ 6 (mtw K r a b)) (hAo : mOk (mtw K r a b)) {x y : Int} (hx : x = 0 ∨ x = 1) (hy : y = 0 ∨ y = 1) : ∃ σ1, zc (d + 4) mX2_neitherWouldRather [zR (some 0), zI r, zI x, zI y] σ = some (some (zI (mnwr K r x y)), σ1) ∧ zScr zSc σ σ1 ∧ ∃ a' b', AbsC σ1 6 (mtw K r a' b') ∧ mOk (mtw K r a' b') := by
  have hp := hO.1
  have hx' : 1 - x = 0 ∨ 1 - x = 1 := by omega
  have hy' : 1 - y = 0 ∨ 1 - y = 1 := by omega
  have r1 := mJ_rng hO hr hx hy (w := r) (by omega)
  have r2 := mJ_rng hO hr hx' hy (w := r) (by omega)
  have r3 := mJ_rng hO hr hx hy (w := r + 1) (by omega)
  have r4 := mJ_rng hO hr hx hy' (w := r + 1) (by omega)
  obtain ⟨σ1, a1, a2, _, _, a3, a4⟩ := s_joyOfChoice d hO hr hA hAo hx hy (w := r) (by omega)
  obtain ⟨σ2, b1, b2, _, _, b3, b4⟩ := s_joyOfChoice d hO hr a3 a4 hx' hy (w := r) (by omega)
  have nx : nrm (1 - x) = 1 - x := nrm_id (by omega) (by omega)
  have ny : nrm (1 - y) = 1 - y := nrm_id (by omega) (by omega)
  by_cases q : mJ K r x y r < mJ K r (1 - x) y r
  · refine ⟨σ2, ?_, zScr_tr a2 b2, _, _, b3, b4⟩
    rw [e_X2_neitherWouldRather]
    unfold mnwr
    simp (disch := omega) only [nrm_id, zix, ↓reduceIte, if_true, if_false, true_and, and_true, false_and, and_false, not_true_eq_false, not_false_eq_true, Int.reduceAdd, Int.reduceSub, Int.reduceMul, ↓if_pos, ↓if_neg, Option.bind_some, Option.toList_some, Option.toList_none, List.append_nil, List.cons_append, List.nil_append, znat, znat1, zpm1, zcm1, zof0, zof1, zof2, zof3, zofa0, zofa1, a1, b_X2_neitherWouldRather_8, b1, b_X2_neitherWouldRather_18]
  · obtain ⟨σ3, c1, c2, _, _, c3, c4⟩ := s_joyOfChoice d hO hr b3 b4 hx hy (w := r + 1) (by omega)
    obtain ⟨σ4, e1, e2, _, _, e3, e4⟩ := s_joyOfChoice d hO hr c3 c4 hx hy' (w := r + 1) (by omega)
    push_cast at c1 e1
    refine ⟨σ4, ?_, zScr_tr (zScr_tr (zScr_tr a2 b2) c2) e2, _, _, e3, e4⟩
    rw [e_X2_neitherWouldRather]
    unfold mnwr
    by_cases q2 : mJ K r x y (r + 1) < mJ K r x (1 - y) (r + 1)
    · simp (disch := omega) only [nrm_id, zix, ↓reduceIte, if_true, if_false, true_and, and_true, false_and, and_false, not_true_eq_false, not_false_eq_true, Int.reduceAdd, Int.reduceSub, Int.reduceMul, ↓if_pos, ↓if_neg, Option.bind_some, Option.toList_some, Option.toList_none, List.append_nil, List.cons_append, List.nil_append, znat, znat1, zpm1, zcm1, zof0, zof1, zof2, zof3, zofa0, zofa1, a1, b_X2_neitherWouldRather_8, b1, b_X2_neitherWouldRather_18, c1, b_X2_neitherWouldRather_31, e1, b_X2_neitherWouldRather_43]
    · simp (disch := omega) only [nrm_id, zix, ↓reduceIte, if_true, if_false, true_and, and_true, false_and, and_false, not_true_eq_false, not_false_eq_true, Int.reduceAdd, Int.reduceSub, Int.reduceMul, ↓if_pos, ↓if_neg, Option.bind_some, Option.toList_some, Option.toList_none, List.append_nil, List.cons_append, List.nil_append, znat, znat1, zpm1, zcm1, zof0, zof1, zof2, zof3, zofa0, zofa1, a1, b_X2_neitherWouldRather_8, b1, b_X2_neitherWouldRather_18, c1, b_X2_neitherWouldRather_31, e1, b_X2_neitherWouldRather_43]
theorem r_joyTipped (d : Nat) (h : zSysK K T σ) {r : Nat} (hr : r + 1 < K.1) {x y : Int} (hx : x = 0 ∨ x = 1) (hy : y = 0 ∨ y = 1) {w : Nat} (hw : w < 8) : ∃ σ1, zc (d + 4) mX3_joyTipped [zR (some 36), zI w, zI r, zI x, zI y] σ = some (some (zI (mJ K r x y w)), σ1) ∧ zScr zSc σ σ1 := by
  have hO := h.2.2.1
  have hp := hO.1
  obtain ⟨σ1, a1, a2, a3⟩ := r_copies (d + 3) zAr37 zAr38 σ
  have hs := zScr_of (qs := zSc) a3 (by simp [zSc]) (by simp)
  have hA0 := AbsM_copy h.2.1 a2
  have hA : AbsM σ1 38 (mtw K r (K.2.2.2.2.1 r) (K.2.2.2.2.1 (r + 1))) := AbsM_cong hA0 (fun j _ => mtw_e r j)
  have c1 := r_can (d + 2) zAr38 hA0 hO (r := r) (by omega)
  have cr1 := mcan_rng hO (r := r) (by omega)
  have cr2 := mcan_rng hO (r := r + 1) (by omega)
  have xr := mxc_rng hO (r := r) (by omega) hx
  have yr := mxc_rng hO (r := r + 1) (by omega) hy
  have hA1 := mtw_aM (v := x * mcan K r) hA
  have hb := hO.2.2.2.2.1 (r + 1) (by omega)
  have hb2 := (hO.2.2.2.2.2 (r + 1) (by omega)).2.2
  have hO1 : mOk (mtw K r (x * mcan K r) (K.2.2.2.2.1 (r + 1))) := mtw_ok hO xr hb (mxc_blk x) hb2
  have c2 := r_can (d + 2) zAr38 hA1 hO1 (r := r + 1) hr
  rw [mtw_can] at c2
  have hA2 := mtw_bM (v := y * mcan K (r + 1)) hA1
  have hO2 : mOk (mtw K r (x * mcan K r) (y * mcan K (r + 1))) := mtw_ok hO xr yr (mxc_blk x) (mxc_blk y)
  have j := r_joy d zAr38 hA2 hO2 hw
  push_cast at c2
  have ez : ((3 + 4 * ((r : Int) + 1)) + 2).toNat = 5 + 4 * (r + 1) := by omega
  refine ⟨zup (zup σ1 38 (5 + 4 * r) (x * mcan K r)) 38 (5 + 4 * (r + 1)) (y * mcan K (r + 1)), ?_, zScr_tr hs (zScr_tr (zScr_of (ps := [38]) (zFr_up (by simp)) (by simp [zSc]) (by simp)) (zScr_of (ps := [38]) (zFr_up (by simp)) (by simp [zSc]) (by simp)))⟩
  rw [e_X3_joyTipped]
  simp (disch := omega) only [nrm_id, zix, ↓reduceIte, if_true, if_false, true_and, and_true, false_and, and_false, not_true_eq_false, not_false_eq_true, Int.reduceAdd, Int.reduceSub, Int.reduceMul, ↓if_pos, ↓if_neg, Option.bind_some, Option.toList_some, Option.toList_none, List.append_nil, List.cons_append, List.nil_append, znat, znat1, zpm1, zcm1, zof0, zof1, zof2, zof3, zofa0, zofa1, a1, b_X3_joyTipped_11, r_of, b_X3_joyTipped_20, c1, b_X3_joyTipped_29, b_X3_joyTipped_42, c2, b_X3_joyTipped_54, ez, j, b_X3_joyTipped_64]
  rfl
/-- one pair of choices of the reference's loop -/
theorem r_two1 (d : Nat) (h : zSysK K T σ) {r : Nat} (hr : r + 1 < K.1) {k : Int} (hk : 0 ≤ k ∧ k < 4) {x y : Int} (ex : k.tdiv 2 = x) (ey : k.tmod 2 = y) (hx : x = 0 ∨ x = 1) (hy : y = 0 ∨ y = 1) : ∃ σ1, zScr zSc σ σ1 ∧ (mnwr K r x y = 0 → zq (d + 5) mX3_two 20 [some (zR (some 36)), some (zI r), some (zI k), none, none] [] σ = zq (d + 5) mX3_two 20 [some (zR (some 36)), some (zI r), some (zI (k + 1)), none, none] [] σ1) ∧ (mnwr K r x y = 1 → zq (d + 5) mX3_two 20 [some (zR (some 36)), some (zI r), some (zI k), none, none] [] σ = some (some (zI (10 * x + y)), σ1)) := by
  have hO := h.2.2.1
  have hp := hO.1
  have hx' : 1 - x = 0 ∨ 1 - x = 1 := by omega
  have hy' : 1 - y = 0 ∨ 1 - y = 1 := by omega
  have r1 := mJ_rng hO hr hx hy (w := r) (by omega)
  have r2 := mJ_rng hO hr hx' hy (w := r) (by omega)
  have r3 := mJ_rng hO hr hx hy (w := r + 1) (by omega)
  have r4 := mJ_rng hO hr hx hy' (w := r + 1) (by omega)
  obtain ⟨σ1, a1, a2⟩ := r_joyTipped d h hr hx' hy (w := r) (by omega)
  obtain ⟨σ2, b1, b2⟩ := r_joyTipped d (zSys_scr h a2) hr hx hy (w := r) (by omega)
  have hS2 := zSys_scr (zSys_scr h a2) b2
  by_cases q : mJ K r x y r < mJ K r (1 - x) y r
  · have e : mnwr K r x y = 0 := by unfold mnwr; rw [if_pos q]
    refine ⟨σ2, zScr_tr a2 b2, fun _ => ?_, fun w => by rw [e] at w; exact absurd w (by decide)⟩
    rw [b_X3_two_20]
    simp (disch := omega) only [nrm_id, zix, ↓reduceIte, if_true, if_false, true_and, and_true, false_and, and_false, not_true_eq_false, not_false_eq_true, Int.reduceAdd, Int.reduceSub, Int.reduceMul, ↓if_pos, ↓if_neg, Option.bind_some, Option.toList_some, Option.toList_none, List.append_nil, List.cons_append, List.nil_append, znat, znat1, zpm1, zcm1, zof0, zof1, zof2, zof3, zofa0, zofa1, ex, ey, a1, b_X3_two_45, b1, b_X3_two_54, b_X3_two_92]
  · obtain ⟨σ3, c1, c2⟩ := r_joyTipped d hS2 hr hx hy' (w := r + 1) (by omega)
    obtain ⟨σ4, e1, e2⟩ := r_joyTipped d (zSys_scr hS2 c2) hr hx hy (w := r + 1) (by omega)
    push_cast at c1 e1
    refine ⟨σ4, zScr_tr (zScr_tr (zScr_tr a2 b2) c2) e2, fun w => ?_, fun w => ?_⟩
    · have q2 : mJ K r x y (r + 1) < mJ K r x (1 - y) (r + 1) := by
        by_cases q2 : mJ K r x y (r + 1) < mJ K r x (1 - y) (r + 1)
        · exact q2
        · unfold mnwr at w; rw [if_neg q, if_neg q2] at w; exact absurd w (by decide)
      rw [b_X3_two_20]
      simp (disch := omega) only [nrm_id, zix, ↓reduceIte, if_true, if_false, true_and, and_true, false_and, and_false, not_true_eq_false, not_false_eq_true, Int.reduceAdd, Int.reduceSub, Int.reduceMul, ↓if_pos, ↓if_neg, Option.bind_some, Option.toList_some, Option.toList_none, List.append_nil, List.cons_append, List.nil_append, znat, znat1, zpm1, zcm1, zof0, zof1, zof2, zof3, zofa0, zofa1, ex, ey, a1, b_X3_two_45, b1, b_X3_two_54, c1, b_X3_two_70, e1, b_X3_two_81, b_X3_two_92]
    · have q2 : ¬ mJ K r x y (r + 1) < mJ K r x (1 - y) (r + 1) := by
        intro q2
        unfold mnwr at w; rw [if_neg q, if_pos q2] at w; exact absurd w (by decide)
      rw [b_X3_two_20]
      simp (disch := omega) only [nrm_id, zix, ↓reduceIte, if_true, if_false, true_and, and_true, false_and, and_false, not_true_eq_false, not_false_eq_true, Int.reduceAdd, Int.reduceSub, Int.reduceMul, ↓if_pos, ↓if_neg, Option.bind_some, Option.toList_some, Option.toList_none, List.append_nil, List.cons_append, List.nil_append, znat, znat1, zpm1, zcm1, zof0, zof1, zof2, zof3, zofa0, zofa1, ex, ey, a1, b_X3_two_45, b1, b_X3_two_54, c1, b_X3_two_70, e1, b_X3_two_81]
theorem mnwr_01 (K : zK) (r : Nat) (x y : Int) : mnwr K r x y = 0 ∨ mnwr K r x y = 1 := by
  unfold mnwr
  split
  · exact Or.inl rfl
  · split
    · exact Or.inl rfl
    · exact Or.inr rfl
theorem p_two (h : zSysK K T σ) {x : Int} (hx : R32 x) : zP mX2_two mX3_two [zI x] σ := by
  have h0 := h
  obtain ⟨hC, hM, hO, hT1, hT2, hT, -, -⟩ := h
  have hp := hO.1
  obtain ⟨x1, x2⟩ := hx
  have hm := hM.1
  by_cases q : 0 ≤ x ∧ x + 1 < K.1
  · obtain ⟨r, rfl⟩ := Int.eq_ofNat_of_zero_le q.1
    have hr : r + 1 < K.1 := by omega
    refine zP_read h0 (zI (mtwo (mnwr K r 0 0) (mnwr K r 0 1) (mnwr K r 1 0) (mnwr K r 1 1))) (fun d => ?_) (fun d τ hτ => ?_)
    · obtain ⟨σ1, a1, a2, -, a3⟩ := s_copyFrom (d + 18) zCo6 zCo1 (by decide) hC
      have hs := zScr_of (qs := zSc) a3 (by simp [zSc]) (by simp)
      have hA : AbsC σ1 6 (mtw K r (K.2.2.2.2.1 r) (K.2.2.2.2.1 (r + 1))) := AbsC_cong a2 (fun j _ => mtw_e r j)
      have hAo : mOk (mtw K r (K.2.2.2.2.1 r) (K.2.2.2.2.1 (r + 1))) := mtw_ok hO (hO.2.2.2.2.1 r (by omega)) (hO.2.2.2.2.1 (r + 1) (by omega)) (hO.2.2.2.2.2 r (by omega)).2.2 (hO.2.2.2.2.2 (r + 1) (by omega)).2.2
      have st : zc (d + 20) mX2_two [zR (some 0), zI r] σ = zq (d + 20) mX2_two 23 [some (zR (some 0)), some (zI r), some (zI 0), none] [] σ1 := by
        rw [e_X2_two, s_hasOne _ hC hO x1 x2]
        simp (disch := omega) only [nrm_id, zix, ↓reduceIte, if_true, if_false, true_and, and_true, false_and, and_false, not_true_eq_false, not_false_eq_true, Int.reduceAdd, Int.reduceSub, Int.reduceMul, ↓if_pos, ↓if_neg, Option.bind_some, Option.toList_some, Option.toList_none, List.append_nil, List.cons_append, List.nil_append, znat, znat1, zpm1, zcm1, zof0, zof1, zof2, zof3, zofa0, zofa1, b_X2_two_5, a1, b_X2_two_21]
      rw [st]
      obtain ⟨σ2, b1, b2, _, _, b3, b4⟩ := s_nwr (d + 15) hO hr hA hAo (x := 0) (y := 0) (Or.inl rfl) (Or.inl rfl)
      obtain ⟨σ3, c1, c2, _, _, c3, c4⟩ := s_nwr (d + 15) hO hr b3 b4 (x := 0) (y := 1) (Or.inl rfl) (Or.inr rfl)
      obtain ⟨σ4, e1, e2, _, _, e3, e4⟩ := s_nwr (d + 15) hO hr c3 c4 (x := 1) (y := 0) (Or.inr rfl) (Or.inl rfl)
      obtain ⟨σ5, f1, f2, _, _, f3, f4⟩ := s_nwr (d + 15) hO hr e3 e4 (x := 1) (y := 1) (Or.inr rfl) (Or.inr rfl)
      unfold mtwo
      rcases mnwr_01 K r 0 0 with z1 | z1 <;> rw [z1] at b1 ⊢
      · rcases mnwr_01 K r 0 1 with z2 | z2 <;> rw [z2] at c1 ⊢
        · rcases mnwr_01 K r 1 0 with z3 | z3 <;> rw [z3] at e1 ⊢
          · rcases mnwr_01 K r 1 1 with z4 | z4 <;> rw [z4] at f1 ⊢
            · refine ⟨σ5, ?_, zScr_tr hs (zScr_tr (zScr_tr (zScr_tr b2 c2) e2) f2)⟩
              simp (disch := omega) only [nrm_id, zix, ↓reduceIte, if_true, if_false, true_and, and_true, false_and, and_false, not_true_eq_false, not_false_eq_true, Int.reduceAdd, Int.reduceSub, Int.reduceMul, ↓if_pos, ↓if_neg, Option.bind_some, Option.toList_some, Option.toList_none, List.append_nil, List.cons_append, List.nil_append, znat, znat1, zpm1, zcm1, zof0, zof1, zof2, zof3, zofa0, zofa1, b_X2_two_23, b_X2_two_30, b1, b_X2_two_42, c1, e1, f1]
            · refine ⟨σ5, ?_, zScr_tr hs (zScr_tr (zScr_tr (zScr_tr b2 c2) e2) f2)⟩
              simp (disch := omega) only [nrm_id, zix, ↓reduceIte, if_true, if_false, true_and, and_true, false_and, and_false, not_true_eq_false, not_false_eq_true, Int.reduceAdd, Int.reduceSub, Int.reduceMul, ↓if_pos, ↓if_neg, Option.bind_some, Option.toList_some, Option.toList_none, List.append_nil, List.cons_append, List.nil_append, znat, znat1, zpm1, zcm1, zof0, zof1, zof2, zof3, zofa0, zofa1, b_X2_two_23, b_X2_two_30, b1, b_X2_two_42, c1, e1, f1]
          · refine ⟨σ4, ?_, zScr_tr hs (zScr_tr (zScr_tr b2 c2) e2)⟩
            simp (disch := omega) only [nrm_id, zix, ↓reduceIte, if_true, if_false, true_and, and_true, false_and, and_false, not_true_eq_false, not_false_eq_true, Int.reduceAdd, Int.reduceSub, Int.reduceMul, ↓if_pos, ↓if_neg, Option.bind_some, Option.toList_some, Option.toList_none, List.append_nil, List.cons_append, List.nil_append, znat, znat1, zpm1, zcm1, zof0, zof1, zof2, zof3, zofa0, zofa1, b_X2_two_23, b_X2_two_30, b1, b_X2_two_42, c1, e1]
        · refine ⟨σ3, ?_, zScr_tr hs (zScr_tr b2 c2)⟩
          simp (disch := omega) only [nrm_id, zix, ↓reduceIte, if_true, if_false, true_and, and_true, false_and, and_false, not_true_eq_false, not_false_eq_true, Int.reduceAdd, Int.reduceSub, Int.reduceMul, ↓if_pos, ↓if_neg, Option.bind_some, Option.toList_some, Option.toList_none, List.append_nil, List.cons_append, List.nil_append, znat, znat1, zpm1, zcm1, zof0, zof1, zof2, zof3, zofa0, zofa1, b_X2_two_23, b_X2_two_30, b1, b_X2_two_42, c1]
      · refine ⟨σ2, ?_, zScr_tr hs b2⟩
        simp (disch := omega) only [nrm_id, zix, ↓reduceIte, if_true, if_false, true_and, and_true, false_and, and_false, not_true_eq_false, not_false_eq_true, Int.reduceAdd, Int.reduceSub, Int.reduceMul, ↓if_pos, ↓if_neg, Option.bind_some, Option.toList_some, Option.toList_none, List.append_nil, List.cons_append, List.nil_append, znat, znat1, zpm1, zcm1, zof0, zof1, zof2, zof3, zofa0, zofa1, b_X2_two_23, b_X2_two_30, b1, b_X2_two_42]
    · have st : zc (d + 20) mX3_two [zR (some 36), zI r] τ = zq (d + 20) mX3_two 20 [some (zR (some 36)), some (zI r), some (zI 0), none, none] [] τ := by
        rw [e_X3_two, hτ.2.1.1, r_isIn _ _ ⟨x1, x2⟩ (by omega) (by omega)]
        simp (disch := omega) only [nrm_id, zix, ↓reduceIte, if_true, if_false, true_and, and_true, false_and, and_false, not_true_eq_false, not_false_eq_true, Int.reduceAdd, Int.reduceSub, Int.reduceMul, ↓if_pos, ↓if_neg, Option.bind_some, Option.toList_some, Option.toList_none, List.append_nil, List.cons_append, List.nil_append, znat, znat1, zpm1, zcm1, zof0, zof1, zof2, zof3, zofa0, zofa1, b_X3_two_13]
      rw [st]
      obtain ⟨σ2, b2, b0, b1⟩ := r_two1 (d + 15) hτ hr (k := 0) (x := 0) (y := 0) (by decide) rfl rfl (Or.inl rfl) (Or.inl rfl)
      have hS2 := zSys_scr hτ b2
      obtain ⟨σ3, c2, c0, c1⟩ := r_two1 (d + 15) hS2 hr (k := 1) (x := 0) (y := 1) (by decide) rfl rfl (Or.inl rfl) (Or.inr rfl)
      have hS3 := zSys_scr hS2 c2
      obtain ⟨σ4, e2, e0, e1⟩ := r_two1 (d + 15) hS3 hr (k := 2) (x := 1) (y := 0) (by decide) rfl rfl (Or.inr rfl) (Or.inl rfl)
      have hS4 := zSys_scr hS3 e2
      obtain ⟨σ5, f2, f0, f1⟩ := r_two1 (d + 15) hS4 hr (k := 3) (x := 1) (y := 1) (by decide) rfl rfl (Or.inr rfl) (Or.inr rfl)
      unfold mtwo
      rcases mnwr_01 K r 0 0 with z1 | z1
      · rcases mnwr_01 K r 0 1 with z2 | z2
        · rcases mnwr_01 K r 1 0 with z3 | z3
          · rcases mnwr_01 K r 1 1 with z4 | z4
            · refine ⟨σ5, ?_, zScr_tr (zScr_tr (zScr_tr b2 c2) e2) f2⟩
              rw [z1, z2, z3, z4]
              refine (b0 z1).trans ((c0 z2).trans ((e0 z3).trans ((f0 z4).trans ?_)))
              rw [b_X3_two_20]
              simp (disch := omega) only [nrm_id, zix, ↓reduceIte, if_true, if_false, true_and, and_true, false_and, and_false, not_true_eq_false, not_false_eq_true, Int.reduceAdd, Int.reduceSub, Int.reduceMul, ↓if_pos, ↓if_neg, Option.bind_some, Option.toList_some, Option.toList_none, List.append_nil, List.cons_append, List.nil_append, znat, znat1, zpm1, zcm1, zof0, zof1, zof2, zof3, zofa0, zofa1]
            · refine ⟨σ5, ?_, zScr_tr (zScr_tr (zScr_tr b2 c2) e2) f2⟩
              rw [z1, z2, z3, z4]
              exact (b0 z1).trans ((c0 z2).trans ((e0 z3).trans (f1 z4)))
          · refine ⟨σ4, ?_, zScr_tr (zScr_tr b2 c2) e2⟩
            rw [z1, z2, z3]
            exact (b0 z1).trans ((c0 z2).trans (e1 z3))
        · refine ⟨σ3, ?_, zScr_tr b2 c2⟩
          rw [z1, z2]
          exact (b0 z1).trans (c1 z2)
      · refine ⟨σ2, ?_, b2⟩
        rw [z1]
        exact b1 z1
  · refine zP_same h0 (zI (-1)) (fun d => ?_) (fun d => ?_)
    · rw [e_X2_two, s_hasOne _ hC hO x1 x2]
      simp (disch := omega) only [nrm_id, zix, ↓reduceIte, if_true, if_false, true_and, and_true, false_and, and_false, not_true_eq_false, not_false_eq_true, Int.reduceAdd, Int.reduceSub, Int.reduceMul, ↓if_pos, ↓if_neg, Option.bind_some, Option.toList_some, Option.toList_none, List.append_nil, List.cons_append, List.nil_append, znat, znat1, zpm1, zcm1, zof0, zof1, zof2, zof3, zofa0, zofa1, b_X2_two_5]
    · rw [e_X3_two, hm, r_isIn _ _ ⟨x1, x2⟩ (by omega) (by omega)]
      simp (disch := omega) only [nrm_id, zix, ↓reduceIte, if_true, if_false, true_and, and_true, false_and, and_false, not_true_eq_false, not_false_eq_true, Int.reduceAdd, Int.reduceSub, Int.reduceMul, ↓if_pos, ↓if_neg, Option.bind_some, Option.toList_some, Option.toList_none, List.append_nil, List.cons_append, List.nil_append, znat, znat1, zpm1, zcm1, zof0, zof1, zof2, zof3, zofa0, zofa1, b_X3_two_13]
end SYS9
