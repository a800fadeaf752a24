abbrev mup (K : zK) (v : Nat → Int) (i : Nat) : zK := Kst K (fun r => if r < i then v r else K.2.2.2.2.1 r)
def mbt (K : zK) (r : Nat) : Int := if r + 1 < K.1 ∧ mwo K (r + 1) < mwo K r then mcan K r else 0
abbrev mtw (K : zK) (r : Nat) (a b : Int) : zK := Kst K (fun j => if j = r + 1 then b else if j = r then a else K.2.2.2.2.1 j)
def mJ (K : zK) (r : Nat) (x y : Int) (w : Nat) : Int := mjoy (mtw K r (x * mcan K r) (y * mcan K (r + 1))) w
def mnwr (K : zK) (r : Nat) (x y : Int) : Int := if mJ K r x y r < mJ K r (1 - x) y r then 0 else if mJ K r x y (r + 1) < mJ K r x (1 - y) (r + 1) then 0 else 1
def mtwo (a b c e : Int) : Int := if a = 0 then (if b = 0 then (if c = 0 then (if e = 0 then -4 else 11) else 10) else 1) else 0
def mlaw (a b c : Int) : Int := if b ≤ a then (if c ≤ a then 0 else 2) else (if c ≤ b then 1 else 2)
section SYS8
variable {σ : zS} {K : zK} {T : Int}
theorem mup_0 {c : Nat} {v : Nat → Int} (h : AbsC σ c K) : AbsC σ c (mup K v 0) := AbsC_cong h (fun r _ => (if_neg (by omega)).symm)
theorem mup_0M {c : Nat} {v : Nat → Int} (h : AbsM σ c K) : AbsM σ c (mup K v 0) := AbsM_cong h (fun r _ => (if_neg (by omega)).symm)
theorem mup_e (v : Nat → Int) (i r : Nat) : (if r = i then v i else if r < i then v r else K.2.2.2.2.1 r) = if r < i + 1 then v r else K.2.2.2.2.1 r := by
  by_cases e : r = i
  · subst e; rw [if_pos rfl, if_pos (by omega)]
  · rw [if_neg e]
    by_cases e' : r < i
    · rw [if_pos e', if_pos (by omega)]
    · rw [if_neg e', if_neg (by omega)]
theorem mup_s {c i : Nat} {v : Nat → Int} (h : AbsC σ c (mup K v i)) : AbsC (zup σ (c + 3) i (v i)) c (mup K v (i + 1)) := AbsC_cong2 (AbsC_tip h) (fun r _ => mup_e v i r)
theorem mup_sM {c i : Nat} {v : Nat → Int} (h : AbsM σ c (mup K v i)) : AbsM (zup σ c (5 + 4 * i) (v i)) c (mup K v (i + 1)) := AbsM_cong2 (AbsM_tip h) (fun r _ => mup_e v i r)
theorem mset_ok (hO : mOk K) {t : Nat → Int} (h1 : ∀ r, r < 8 → 0 ≤ t r ∧ t r ≤ 10) (h2 : ∀ r, r < 8 → K.2.2.2.2.2 r = 1 → t r = 0) : mOk (Kst K t) := ⟨hO.1, hO.2.1, hO.2.2.1, hO.2.2.2.1, h1, fun r hr => ⟨(hO.2.2.2.2.2 r hr).1, (hO.2.2.2.2.2 r hr).2.1, h2 r hr⟩⟩
theorem mcan_blk {r : Nat} (e : K.2.2.2.2.2 r = 1) : mcan K r = 0 := by unfold mcan; rw [if_neg (fun q => by omega)]
theorem mup_ok2 (hO : mOk K) {v : Nat → Int} {i : Nat} (h1 : ∀ r, r < 8 → 0 ≤ v r ∧ v r ≤ 10) (h2 : ∀ r, r < 8 → K.2.2.2.2.2 r = 1 → v r = 0) : mOk (mup K v i) := mset_ok hO (fun r hr => by
  show 0 ≤ (if r < i then v r else K.2.2.2.2.1 r) ∧ (if r < i then v r else K.2.2.2.2.1 r) ≤ 10
  split
  · exact h1 r hr
  · exact hO.2.2.2.2.1 r hr) (fun r hr e => by
  show (if r < i then v r else K.2.2.2.2.1 r) = 0
  split
  · exact h2 r hr e
  · exact (hO.2.2.2.2.2 r hr).2.2 e)
theorem mbt_rng (hO : mOk K) (r : Nat) (hr : r < 8) : 0 ≤ mbt K r ∧ mbt K r ≤ 10 := by
  have := mcan_rng hO hr
  unfold mbt
  split <;> omega
theorem mbt_blk (r : Nat) (e : K.2.2.2.2.2 r = 1) : mbt K r = 0 := by
  unfold mbt
  rw [mcan_blk e]
  split <;> rfl
theorem s_bestTip (d : Nat) (h : AbsC σ 1 K) (hO : mOk K) {r : Nat} (hr : r < K.1) : zc (d + 2) mX2_bestTip [zR (some 0), zI r] σ = some (some (zI (mbt K r)), σ) := by
  have hp := hO.1
  have i1 := s_isRow (d + 1) zCo1 h hO (x := (r : Int) + 1) (by omega) (by omega)
  have w1 := mwo_rng hO (r := r) (by omega)
  rw [e_X2_bestTip, i1]
  unfold mbt
  by_cases q : r + 1 < K.1
  · have w2 := s_worthAt d zCo1 h hO (r := r + 1) (by omega)
    have w3 := mwo_rng hO (r := r + 1) (by omega)
    push_cast at w2
    by_cases q2 : mwo K (r + 1) < mwo K r
    · simp (disch := omega) only [nrm_id, zix, ↓reduceIte, if_true, if_false, true_and, and_true, false_and, and_false, not_true_eq_false, not_false_eq_true, Int.reduceAdd, Int.reduceSub, Int.reduceMul, ↓if_pos, ↓if_neg, Option.bind_some, Option.toList_some, Option.toList_none, List.append_nil, List.cons_append, List.nil_append, znat, znat1, zpm1, zcm1, zof0, zof1, zof2, zof3, zofa0, zofa1, b_X2_bestTip_10, s_worthAt _ zCo1 h hO (show r < 8 from by omega), b_X2_bestTip_21, w2, b_X2_bestTip_31, b_X2_bestTip_39, s_canAt _ zCo1 h hO hr, b_X2_bestTip_52]
    · simp (disch := omega) only [nrm_id, zix, ↓reduceIte, if_true, if_false, true_and, and_true, false_and, and_false, not_true_eq_false, not_false_eq_true, Int.reduceAdd, Int.reduceSub, Int.reduceMul, ↓if_pos, ↓if_neg, Option.bind_some, Option.toList_some, Option.toList_none, List.append_nil, List.cons_append, List.nil_append, znat, znat1, zpm1, zcm1, zof0, zof1, zof2, zof3, zofa0, zofa1, b_X2_bestTip_10, s_worthAt _ zCo1 h hO (show r < 8 from by omega), b_X2_bestTip_21, w2, b_X2_bestTip_31, b_X2_bestTip_38, b_X2_bestTip_39]
  · simp (disch := omega) only [nrm_id, zix, ↓reduceIte, if_true, if_false, true_and, and_true, false_and, and_false, not_true_eq_false, not_false_eq_true, Int.reduceAdd, Int.reduceSub, Int.reduceMul, ↓if_pos, ↓if_neg, Option.bind_some, Option.toList_some, Option.toList_none, List.append_nil, List.cons_append, List.nil_append, znat, znat1, zpm1, zcm1, zof0, zof1, zof2, zof3, zofa0, zofa1, b_X2_bestTip_10, b_X2_bestTip_38, b_X2_bestTip_39]
theorem p_best (h : zSysK K T σ) {x : Int} (hx : R32 x) : zP mX2_best mX3_best [zI x] σ := by
  have h0 := h
  obtain ⟨hC, hM, hO, hT1, hT2, hT, -, -⟩ := h
  have hp := hO.1
  obtain ⟨x1, x2⟩ := hx
  by_cases q : -1 ≤ x ∧ x < K.1
  · have hO2 : mOk (mup K (mbt K) K.1) := mup_ok2 hO (mbt_rng hO) (fun r _ => mbt_blk r)
    refine zP_read h0 (zI (if x < 0 then mjS (mup K (mbt K) K.1) else mbt K x.toNat)) (fun d => ?_) (fun d τ hτ => ?_)
    · have lp : ∀ (m i : Nat) (τ : zS), i + m = K.1 → zSysK K T τ → AbsC τ 6 (mup K (mbt K) i) → ∃ τ', zq (d + 20) mX2_best 32 [some (zR (some 0)), some (zI x), some (zI i)] [] τ = some (some (zI (if x < 0 then mjS (mup K (mbt K) K.1) else mbt K x.toNat)), τ') ∧ zScr zSc τ τ' := by
        intro m
        induction m with
        | zero =>
          intro i τ hi hS hA
          refine ⟨τ, ?_, zScr_rf _ _⟩
          have hi' : i = K.1 := by omega
          subst hi'
          rw [b_X2_best_32, hA.1]
          by_cases hx0 : x < 0
          · simp (disch := omega) only [nrm_id, zix, ↓reduceIte, if_true, if_false, true_and, and_true, false_and, and_false, not_true_eq_false, not_false_eq_true, Int.reduceAdd, Int.reduceSub, Int.reduceMul, ↓if_pos, ↓if_neg, Option.bind_some, Option.toList_some, Option.toList_none, List.append_nil, List.cons_append, List.nil_append, znat, znat1, zpm1, zcm1, zof0, zof1, zof2, zof3, zofa0, zofa1, zC_joy _ hA hO2, b_X2_best_74]
          · obtain ⟨r, rfl, hr⟩ := zix_of (show 0 ≤ x by omega) q.2
            have e : τ 9 r = mbt K r := (hA.2.2.2.2.1 r (by omega)).trans (if_pos hr)
            simp (disch := omega) only [nrm_id, zix, ↓reduceIte, if_true, if_false, true_and, and_true, false_and, and_false, not_true_eq_false, not_false_eq_true, Int.reduceAdd, Int.reduceSub, Int.reduceMul, ↓if_pos, ↓if_neg, Option.bind_some, Option.toList_some, Option.toList_none, List.append_nil, List.cons_append, List.nil_append, znat, znat1, zpm1, zcm1, zof0, zof1, zof2, zof3, zofa0, zofa1, e]
        | succ m ih =>
          intro i τ hi hS hA
          obtain ⟨τ2, k1, k2⟩ := ih (i + 1) (zup τ 9 i (mbt K i)) (by omega) (zSys_scr hS (zScr_of (ps := [9]) (zFr_up (by simp)) (by simp [zSc]) (by simp))) (mup_s hA)
          refine ⟨τ2, ?_, zScr_tr (zScr_of (ps := [9]) (zFr_up (by simp)) (by simp [zSc]) (by simp)) k2⟩
          rw [b_X2_best_32, hA.1]
          simp (disch := omega) only [nrm_id, zix, ↓reduceIte, if_true, if_false, true_and, and_true, false_and, and_false, not_true_eq_false, not_false_eq_true, Int.reduceAdd, Int.reduceSub, Int.reduceMul, ↓if_pos, ↓if_neg, Option.bind_some, Option.toList_some, Option.toList_none, List.append_nil, List.cons_append, List.nil_append, znat, znat1, zpm1, zcm1, zof0, zof1, zof2, zof3, zofa0, zofa1, s_bestTip _ hS.1 hO (show i < K.1 from by omega), b_X2_best_56]
          exact k1
      obtain ⟨σ1, a1, a2, -, a3⟩ := s_copyFrom (d + 18) zCo6 zCo1 (by decide) hC
      have hs := zScr_of (qs := zSc) a3 (by simp [zSc]) (by simp)
      obtain ⟨σ2, k1, k2⟩ := lp K.1 0 σ1 (by omega) (zSys_scr h0 hs) (mup_0 a2)
      refine ⟨σ2, ?_, zScr_tr hs k2⟩
      rw [e_X2_best, hC.1]
      simp (disch := omega) only [nrm_id, zix, ↓reduceIte, if_true, if_false, true_and, and_true, false_and, and_false, not_true_eq_false, not_false_eq_true, Int.reduceAdd, Int.reduceSub, Int.reduceMul, ↓if_pos, ↓if_neg, Option.bind_some, Option.toList_some, Option.toList_none, List.append_nil, List.cons_append, List.nil_append, znat, znat1, zpm1, zcm1, zof0, zof1, zof2, zof3, zofa0, zofa1, a1, b_X2_best_30]
      exact k1
    · have lp : ∀ (m i : Nat) (τ : zS), i + m = K.1 → AbsM τ 38 (mup K (mbt K) i) → ∃ τ', zq (d + 20) mX3_best 29 [some (zR (some 36)), some (zI x), some (zI i)] [] τ = some (some (zI (if x < 0 then mjS (mup K (mbt K) K.1) else mbt K x.toNat)), τ') ∧ zScr zSc τ τ' := by
        intro m
        induction m with
        | zero =>
          intro i τ hi hA
          refine ⟨τ, ?_, zScr_rf _ _⟩
          have hi' : i = K.1 := by omega
          subst hi'
          rw [b_X3_best_29, hA.1]
          by_cases hx0 : x < 0
          · simp (disch := omega) only [nrm_id, zix, ↓reduceIte, if_true, if_false, true_and, and_true, false_and, and_false, not_true_eq_false, not_false_eq_true, Int.reduceAdd, Int.reduceSub, Int.reduceMul, ↓if_pos, ↓if_neg, Option.bind_some, Option.toList_some, Option.toList_none, List.append_nil, List.cons_append, List.nil_append, znat, znat1, zpm1, zcm1, zof0, zof1, zof2, zof3, zofa0, zofa1, zM_joy _ hA hO2, b_X3_best_110]
          · obtain ⟨r, rfl, hr⟩ := zix_of (show 0 ≤ x by omega) q.2
            have e : τ 38 (5 + 4 * r) = mbt K r := (hA.2.2.2.2.1 r (by omega)).trans (if_pos hr)
            simp (disch := omega) only [nrm_id, zix, ↓reduceIte, if_true, if_false, true_and, and_true, false_and, and_false, not_true_eq_false, not_false_eq_true, Int.reduceAdd, Int.reduceSub, Int.reduceMul, ↓if_pos, ↓if_neg, Option.bind_some, Option.toList_some, Option.toList_none, List.append_nil, List.cons_append, List.nil_append, znat, znat1, zpm1, zcm1, zof0, zof1, zof2, zof3, zofa0, zofa1, r_of, b_X3_best_122, e]
        | succ m ih =>
          intro i τ hi hA
          have hO3 : mOk (mup K (mbt K) i) := mup_ok2 hO (mbt_rng hO) (fun r _ => mbt_blk r)
          have c1 := r_can (d + 18) zAr38 hA hO3 (r := i) (show i < K.1 by omega)
          have c2 : mcan (mup K (mbt K) i) i = mcan K i := rfl
          rw [c2] at c1
          have cr := mcan_rng hO (r := i) (by omega)
          have st : zq (d + 20) mX3_best 29 [some (zR (some 36)), some (zI x), some (zI i)] [] τ = zq (d + 20) mX3_best 29 [some (zR (some 36)), some (zI x), some (zI ((i : Int) + 1))] [] (zup τ 38 (5 + 4 * i) (mbt K i)) := by
            rw [b_X3_best_29, hA.1]
            by_cases q1 : mcan K i ≤ 0
            · have e : mbt K i = 0 := by unfold mbt; split <;> omega
              simp (disch := omega) only [nrm_id, zix, ↓reduceIte, if_true, if_false, true_and, and_true, false_and, and_false, not_true_eq_false, not_false_eq_true, Int.reduceAdd, Int.reduceSub, Int.reduceMul, ↓if_pos, ↓if_neg, Option.bind_some, Option.toList_some, Option.toList_none, List.append_nil, List.cons_append, List.nil_append, znat, znat1, zpm1, zcm1, zof0, zof1, zof2, zof3, zofa0, zofa1, r_of, b_X3_best_48, c1, b_X3_best_56, b_X3_best_91, b_X3_best_92, e]
            · have hi1 : i + 1 < K.1 := by
                by_cases q2 : i + 1 < K.1
                · exact q2
                · exfalso; apply q1; unfold mcan; rw [if_neg (fun w => q2 w.1)]; exact Int.le_refl _
              have w2 := r_worthOf (d + 17) zAr38 hA hO3 (r := i + 1) (by omega)
              have w1 := r_worthOf (d + 17) zAr38 hA hO3 (r := i) (by omega)
              have e1 : mwo (mup K (mbt K) i) i = mwo K i := rfl
              have e2 : mwo (mup K (mbt K) i) (i + 1) = mwo K (i + 1) := rfl
              rw [e1] at w1
              rw [e2] at w2
              have v1 := mwo_rng hO (r := i) (by omega)
              have v2 := mwo_rng hO (r := i + 1) (by omega)
              push_cast at w2
              by_cases q3 : mwo K i ≤ mwo K (i + 1)
              · have e : mbt K i = 0 := by unfold mbt; rw [if_neg (by omega)]
                simp (disch := omega) only [nrm_id, zix, ↓reduceIte, if_true, if_false, true_and, and_true, false_and, and_false, not_true_eq_false, not_false_eq_true, Int.reduceAdd, Int.reduceSub, Int.reduceMul, ↓if_pos, ↓if_neg, Option.bind_some, Option.toList_some, Option.toList_none, List.append_nil, List.cons_append, List.nil_append, znat, znat1, zpm1, zcm1, zof0, zof1, zof2, zof3, zofa0, zofa1, r_of, b_X3_best_48, c1, b_X3_best_56, w1, b_X3_best_67, w2, b_X3_best_77, b_X3_best_91, b_X3_best_92, e]
              · have e : mbt K i = mcan K i := by unfold mbt; rw [if_pos ⟨hi1, by omega⟩]
                simp (disch := omega) only [nrm_id, zix, ↓reduceIte, if_true, if_false, true_and, and_true, false_and, and_false, not_true_eq_false, not_false_eq_true, Int.reduceAdd, Int.reduceSub, Int.reduceMul, ↓if_pos, ↓if_neg, Option.bind_some, Option.toList_some, Option.toList_none, List.append_nil, List.cons_append, List.nil_append, znat, znat1, zpm1, zcm1, zof0, zof1, zof2, zof3, zofa0, zofa1, r_of, b_X3_best_48, c1, b_X3_best_56, w1, b_X3_best_67, w2, b_X3_best_77, b_X3_best_88, b_X3_best_92, e]
          obtain ⟨τ2, k1, k2⟩ := ih (i + 1) (zup τ 38 (5 + 4 * i) (mbt K i)) (by omega) (mup_sM hA)
          exact ⟨τ2, st.trans k1, zScr_tr (zScr_of (ps := [38]) (zFr_up (by simp)) (by simp [zSc]) (by simp)) k2⟩
      obtain ⟨σ1, a1, a2, a3⟩ := r_copies (d + 19) zAr37 zAr38 τ
      have hs := zScr_of (qs := zSc) a3 (by simp [zSc]) (by simp)
      obtain ⟨σ2, k1, k2⟩ := lp K.1 0 σ1 (by omega) (mup_0M (AbsM_copy hτ.2.1 a2))
      refine ⟨σ2, ?_, zScr_tr hs k2⟩
      rw [e_X3_best]
      by_cases hx1 : x = -1
      · subst hx1
        simp (disch := omega) only [nrm_id, zix, ↓reduceIte, if_true, if_false, true_and, and_true, false_and, and_false, not_true_eq_false, not_false_eq_true, Int.reduceAdd, Int.reduceSub, Int.reduceMul, ↓if_pos, ↓if_neg, Option.bind_some, Option.toList_some, Option.toList_none, List.append_nil, List.cons_append, List.nil_append, znat, znat1, zpm1, zcm1, zof0, zof1, zof2, zof3, zofa0, zofa1, b_X3_best_16, a1, b_X3_best_27, Int.reduceNeg]
        exact k1
      · simp (disch := omega) only [nrm_id, zix, ↓reduceIte, if_true, if_false, true_and, and_true, false_and, and_false, not_true_eq_false, not_false_eq_true, Int.reduceAdd, Int.reduceSub, Int.reduceMul, ↓if_pos, ↓if_neg, Option.bind_some, Option.toList_some, Option.toList_none, List.append_nil, List.cons_append, List.nil_append, znat, znat1, zpm1, zcm1, zof0, zof1, zof2, zof3, zofa0, zofa1, r_isRow _ hτ.2.1 hO, b_X3_best_10, b_X3_best_16, a1, b_X3_best_27]
        rw [if_neg (show ¬ x < 0 from by omega)] at k1
        exact k1
  · refine zP_same h0 (zI 1000000001) (fun d => ?_) (fun d => ?_)
    · rw [e_X2_best, hC.1]
      by_cases q5 : x < -1 <;> simp (disch := omega) only [nrm_id, zix, ↓reduceIte, if_true, if_false, true_and, and_true, false_and, and_false, not_true_eq_false, not_false_eq_true, Int.reduceAdd, Int.reduceSub, Int.reduceMul, ↓if_pos, ↓if_neg, Option.bind_some, Option.toList_some, Option.toList_none, List.append_nil, List.cons_append, List.nil_append, znat, znat1, zpm1, zcm1, zof0, zof1, zof2, zof3, zofa0, zofa1]
    · rw [e_X3_best]
      simp (disch := omega) only [nrm_id, zix, ↓reduceIte, if_true, if_false, true_and, and_true, false_and, and_false, not_true_eq_false, not_false_eq_true, Int.reduceAdd, Int.reduceSub, Int.reduceMul, ↓if_pos, ↓if_neg, Option.bind_some, Option.toList_some, Option.toList_none, List.append_nil, List.cons_append, List.nil_append, znat, znat1, zpm1, zcm1, zof0, zof1, zof2, zof3, zofa0, zofa1, r_isRow _ hM hO, b_X3_best_10]
theorem mJ_0 (hO : mOk K) : mjS (mup K (fun _ => 0) K.1) = 0 := by
  have hp := hO.1
  have e : msum (mjoy (mup K (fun _ => 0) K.1)) K.1 = msum (fun _ => 0) K.1 := msum_congr (fun r hr => by
    show mwo K r * ((if r < K.1 then 0 else K.2.2.2.2.1 r) - mah (fun r => if r < K.1 then 0 else K.2.2.2.2.1 r) r) = 0
    have e2 : mah (fun r => if r < K.1 then 0 else K.2.2.2.2.1 r) r = 0 := by
      unfold mah
      split
      · rfl
      · exact if_pos (by omega)
    rw [e2, if_pos hr]
    simp)
  have e3 : ∀ n, msum (fun _ => 0) n = 0 := by
    intro n
    induction n with
    | zero => rfl
    | succ n ih => unfold msum; rw [ih]; rfl
  exact e.trans (e3 _)
def mjl (K : zK) (k : Nat) : Int := if k = 0 then mjS (mrounds 60 K) else if k = 1 then 0 else mjS (mup K (mcan K) K.1)
theorem mjl_rng (hO : mOk K) (k : Nat) : -400 ≤ mjl K k ∧ mjl K k ≤ 400 := by
  have h1 := mjS_rng (mrounds_ok hO 60)
  have h2 := mjS_rng (mup_ok2 (i := K.1) hO (fun r hr => mcan_rng hO hr) (fun r _ e => mcan_blk e))
  unfold mjl
  split
  · exact h1
  · split
    · omega
    · exact h2
theorem s_joyByLaw (d : Nat) (h : zSysK K T σ) {k : Nat} (hk : k ≤ 2) : ∃ σ1, zc (d + 4) mX2_joyByLaw [zR (some 0), zI k] σ = some (some (zI (mjl K k)), σ1) ∧ zScr zSc σ σ1 := by
  have hO := h.2.2.1
  have hp := hO.1
  obtain ⟨σ1, a1, a2, -, a3⟩ := s_copyFrom (d + 2) zCo6 zCo1 (by decide) h.1
  have hs := zScr_of (qs := zSc) a3 (by simp [zSc]) (by simp)
  by_cases k0 : k = 0
  · subst k0
    obtain ⟨σ2, b1, b2, b3⟩ := s_goOn d zCo6 a2 hO (n := 60) (by omega)
    have b1' : zc (d + 3) mX0_goOn [zR (some 6), zI 60] σ1 = _ := b1
    refine ⟨σ2, ?_, zScr_tr hs (zScr_of b3 (by simp [zSc]) (by simp))⟩
    rw [e_X2_joyByLaw]
    simp (disch := omega) only [nrm_id, zix, ↓reduceIte, if_true, if_false, true_and, and_true, false_and, and_false, not_true_eq_false, not_false_eq_true, Int.reduceAdd, Int.reduceSub, Int.reduceMul, ↓if_pos, ↓if_neg, Option.bind_some, Option.toList_some, Option.toList_none, List.append_nil, List.cons_append, List.nil_append, znat, znat1, zpm1, zcm1, zof0, zof1, zof2, zof3, zofa0, zofa1, a1, b_X2_joyByLaw_11, b1', b_X2_joyByLaw_24, b_X2_joyByLaw_73, zC_joy _ b2 (mrounds_ok hO 60), b_X2_joyByLaw_80]
    rfl
  · generalize hv : (fun r => if k = 1 then 0 else mcan K r) = v
    have v1 : ∀ r, r < 8 → 0 ≤ v r ∧ v r ≤ 10 := fun r hr => by
      have := mcan_rng hO hr
      rw [← hv]
      show 0 ≤ (if k = 1 then 0 else mcan K r) ∧ (if k = 1 then 0 else mcan K r) ≤ 10
      split <;> omega
    have v2 : ∀ r, r < 8 → K.2.2.2.2.2 r = 1 → v r = 0 := fun r _ e => by
      rw [← hv]
      show (if k = 1 then 0 else mcan K r) = 0
      rw [mcan_blk e]
      split <;> rfl
    have ev : mjS (mup K v K.1) = mjl K k := by
      unfold mjl
      rw [if_neg k0, ← hv]
      by_cases k1 : k = 1
      · rw [if_pos k1]
        simp only [if_pos k1]
        exact mJ_0 hO
      · rw [if_neg k1]
        simp only [if_neg k1]
    have lp : ∀ (m i : Nat) (τ : zS), i + m = K.1 → AbsC τ 6 (mup K v i) → ∃ τ', zq (d + 4) mX2_joyByLaw 30 [some (zR (some 0)), some (zI k), some (zI i)] [] τ = some (some (zI (mjl K k)), τ') ∧ zScr zSc τ τ' := by
      intro m
      induction m with
      | zero =>
        intro i τ hi hA
        refine ⟨τ, ?_, zScr_rf _ _⟩
        have hi' : i = K.1 := by omega
        subst hi'
        rw [b_X2_joyByLaw_30, hA.1]
        simp (disch := omega) only [nrm_id, zix, ↓reduceIte, if_true, if_false, true_and, and_true, false_and, and_false, not_true_eq_false, not_false_eq_true, Int.reduceAdd, Int.reduceSub, Int.reduceMul, ↓if_pos, ↓if_neg, Option.bind_some, Option.toList_some, Option.toList_none, List.append_nil, List.cons_append, List.nil_append, znat, znat1, zpm1, zcm1, zof0, zof1, zof2, zof3, zofa0, zofa1, b_X2_joyByLaw_73, zC_joy _ hA (mup_ok2 hO v1 v2), b_X2_joyByLaw_80, ev]
      | succ m ih =>
        intro i τ hi hA
        obtain ⟨τ2, k1, k2⟩ := ih (i + 1) (zup τ 9 i (v i)) (by omega) (mup_s hA)
        refine ⟨τ2, ?_, zScr_tr (zScr_of (ps := [9]) (zFr_up (by simp)) (by simp [zSc]) (by simp)) k2⟩
        have c1 := s_canAt (d + 2) zCo6 hA (mup_ok2 hO v1 v2) (r := i) (show i < K.1 by omega)
        have c2 : mcan (mup K v i) i = mcan K i := rfl
        rw [c2] at c1
        rw [b_X2_joyByLaw_30, hA.1]
        by_cases kk : k = 1
        · have e : v i = 0 := by rw [← hv]; exact if_pos kk
          rw [e] at k1
          simp (disch := omega) only [nrm_id, zix, ↓reduceIte, if_true, if_false, true_and, and_true, false_and, and_false, not_true_eq_false, not_false_eq_true, Int.reduceAdd, Int.reduceSub, Int.reduceMul, ↓if_pos, ↓if_neg, Option.bind_some, Option.toList_some, Option.toList_none, List.append_nil, List.cons_append, List.nil_append, znat, znat1, zpm1, zcm1, zof0, zof1, zof2, zof3, zofa0, zofa1, b_X2_joyByLaw_66]
          exact k1
        · have e : v i = mcan K i := by rw [← hv]; exact if_neg kk
          rw [e] at k1
          simp (disch := omega) only [nrm_id, zix, ↓reduceIte, if_true, if_false, true_and, and_true, false_and, and_false, not_true_eq_false, not_false_eq_true, Int.reduceAdd, Int.reduceSub, Int.reduceMul, ↓if_pos, ↓if_neg, Option.bind_some, Option.toList_some, Option.toList_none, List.append_nil, List.cons_append, List.nil_append, znat, znat1, zpm1, zcm1, zof0, zof1, zof2, zof3, zofa0, zofa1, c1, b_X2_joyByLaw_66]
          exact k1
    obtain ⟨σ2, k1, k2⟩ := lp K.1 0 σ1 (by omega) (mup_0 a2)
    refine ⟨σ2, ?_, zScr_tr hs k2⟩
    rw [e_X2_joyByLaw]
    simp (disch := omega) only [nrm_id, zix, ↓reduceIte, if_true, if_false, true_and, and_true, false_and, and_false, not_true_eq_false, not_false_eq_true, Int.reduceAdd, Int.reduceSub, Int.reduceMul, ↓if_pos, ↓if_neg, Option.bind_some, Option.toList_some, Option.toList_none, List.append_nil, List.cons_append, List.nil_append, znat, znat1, zpm1, zcm1, zof0, zof1, zof2, zof3, zofa0, zofa1, a1, b_X2_joyByLaw_11]
    exact k1
theorem r_joyBy (d : Nat) (h : zSysK K T σ) {k : Nat} (hk : k ≤ 2) : ∃ σ1, zc (d + 5) mX3_joyBy [zR (some 36), zI k] σ = some (some (zI (mjl K k)), σ1) ∧ zScr zSc σ σ1 := by
  have hO := h.2.2.1
  have hp := hO.1
  by_cases k0 : k = 0
  · subst k0
    obtain ⟨σ2, b1, b2, b3⟩ := r_takesN d h (n := 60) (by omega)
    have b1' : zc (d + 4) mX3_takes [zR (some 36), zI 60] σ = _ := b1
    refine ⟨σ2, ?_, b3⟩
    rw [e_X3_joyBy]
    simp (disch := omega) only [nrm_id, zix, ↓reduceIte, if_true, if_false, true_and, and_true, false_and, and_false, not_true_eq_false, not_false_eq_true, Int.reduceAdd, Int.reduceSub, Int.reduceMul, ↓if_pos, ↓if_neg, Option.bind_some, Option.toList_some, Option.toList_none, List.append_nil, List.cons_append, List.nil_append, znat, znat1, zpm1, zcm1, zof0, zof1, zof2, zof3, zofa0, zofa1, b1', b_X3_joyBy_17, zM_joy _ b2 (mrounds_ok hO 60), b_X3_joyBy_24]
    rfl
  · by_cases k1 : k = 1
    · subst k1
      refine ⟨σ, ?_, zScr_rf _ _⟩
      rw [e_X3_joyBy]
      simp (disch := omega) only [nrm_id, zix, ↓reduceIte, if_true, if_false, true_and, and_true, false_and, and_false, not_true_eq_false, not_false_eq_true, Int.reduceAdd, Int.reduceSub, Int.reduceMul, ↓if_pos, ↓if_neg, Option.bind_some, Option.toList_some, Option.toList_none, List.append_nil, List.cons_append, List.nil_append, znat, znat1, zpm1, zcm1, zof0, zof1, zof2, zof3, zofa0, zofa1]
      rfl
    · obtain ⟨σ1, a1, a2, a3⟩ := r_copies (d + 4) zAr37 zAr38 σ
      have hs := zScr_of (qs := zSc) a3 (by simp [zSc]) (by simp)
      have ev : mjS (mup K (mcan K) K.1) = mjl K k := by unfold mjl; rw [if_neg k0, if_neg k1]
      have hok : ∀ i, mOk (mup K (mcan K) i) := fun i => mup_ok2 hO (fun r hr => mcan_rng hO hr) (fun r _ e => mcan_blk e)
      have lp : ∀ (m i : Nat) (τ : zS), i + m = K.1 → AbsM τ 38 (mup K (mcan K) i) → ∃ τ', zq (d + 5) mX3_joyBy 38 [some (zR (some 36)), none, some (zI i)] [] τ = some (some (zI (mjl K k)), τ') ∧ zScr zSc τ τ' := by
        intro m
        induction m with
        | zero =>
          intro i τ hi hA
          refine ⟨τ, ?_, zScr_rf _ _⟩
          have hi' : i = K.1 := by omega
          subst hi'
          rw [b_X3_joyBy_38, hA.1]
          simp (disch := omega) only [nrm_id, zix, ↓reduceIte, if_true, if_false, true_and, and_true, false_and, and_false, not_true_eq_false, not_false_eq_true, Int.reduceAdd, Int.reduceSub, Int.reduceMul, ↓if_pos, ↓if_neg, Option.bind_some, Option.toList_some, Option.toList_none, List.append_nil, List.cons_append, List.nil_append, znat, znat1, zpm1, zcm1, zof0, zof1, zof2, zof3, zofa0, zofa1, zM_joy _ hA (hok _), b_X3_joyBy_79, ev]
        | succ m ih =>
          intro i τ hi hA
          obtain ⟨τ2, k1, k2⟩ := ih (i + 1) (zup τ 38 (5 + 4 * i) (mcan K i)) (by omega) (mup_sM hA)
          refine ⟨τ2, ?_, zScr_tr (zScr_of (ps := [38]) (zFr_up (by simp)) (by simp [zSc]) (by simp)) k2⟩
          have c1 := r_can (d + 3) zAr38 hA (hok i) (r := i) (show i < K.1 by omega)
          have c2 : mcan (mup K (mcan K) i) i = mcan K i := rfl
          rw [c2] at c1
          rw [b_X3_joyBy_38, hA.1]
          simp (disch := omega) only [nrm_id, zix, ↓reduceIte, if_true, if_false, true_and, and_true, false_and, and_false, not_true_eq_false, not_false_eq_true, Int.reduceAdd, Int.reduceSub, Int.reduceMul, ↓if_pos, ↓if_neg, Option.bind_some, Option.toList_some, Option.toList_none, List.append_nil, List.cons_append, List.nil_append, znat, znat1, zpm1, zcm1, zof0, zof1, zof2, zof3, zofa0, zofa1, r_of, b_X3_joyBy_57, c1, b_X3_joyBy_65]
          exact k1
      obtain ⟨σ2, g1, g2⟩ := lp K.1 0 σ1 (by omega) (mup_0M (AbsM_copy h.2.1 a2))
      refine ⟨σ2, ?_, zScr_tr hs g2⟩
      rw [e_X3_joyBy]
      simp (disch := omega) only [nrm_id, zix, ↓reduceIte, if_true, if_false, true_and, and_true, false_and, and_false, not_true_eq_false, not_false_eq_true, Int.reduceAdd, Int.reduceSub, Int.reduceMul, ↓if_pos, ↓if_neg, Option.bind_some, Option.toList_some, Option.toList_none, List.append_nil, List.cons_append, List.nil_append, znat, znat1, zpm1, zcm1, zof0, zof1, zof2, zof3, zofa0, zofa1, a1, b_X3_joyBy_36]
      exact g1
theorem p_laws (h : zSysK K T σ) {x : Int} (hx : R32 x) : zP mX2_laws mX3_laws [zI x] σ := by
  have h0 := h
  obtain ⟨hC, hM, hO, hT1, hT2, hT, -, -⟩ := h
  have hp := hO.1
  obtain ⟨x1, x2⟩ := hx
  by_cases q : 0 ≤ x ∧ x ≤ 2
  · obtain ⟨k, rfl⟩ := Int.eq_ofNat_of_zero_le q.1
    refine zP_read h0 (zI (mjl K k)) (fun d => ?_) (fun d τ hτ => ?_)
    · obtain ⟨σ1, g1, g2⟩ := s_joyByLaw (d + 15) h0 (k := k) (by omega)
      refine ⟨σ1, ?_, g2⟩
      rw [e_X2_laws]
      simp (disch := omega) only [nrm_id, zix, ↓reduceIte, if_true, if_false, true_and, and_true, false_and, and_false, not_true_eq_false, not_false_eq_true, Int.reduceAdd, Int.reduceSub, Int.reduceMul, ↓if_pos, ↓if_neg, Option.bind_some, Option.toList_some, Option.toList_none, List.append_nil, List.cons_append, List.nil_append, znat, znat1, zpm1, zcm1, zof0, zof1, zof2, zof3, zofa0, zofa1, g1, b_X2_laws_29]
    · obtain ⟨σ1, g1, g2⟩ := r_joyBy (d + 14) hτ (k := k) (by omega)
      refine ⟨σ1, ?_, g2⟩
      rw [e_X3_laws]
      simp (disch := omega) only [nrm_id, zix, ↓reduceIte, if_true, if_false, true_and, and_true, false_and, and_false, not_true_eq_false, not_false_eq_true, Int.reduceAdd, Int.reduceSub, Int.reduceMul, ↓if_pos, ↓if_neg, Option.bind_some, Option.toList_some, Option.toList_none, List.append_nil, List.cons_append, List.nil_append, znat, znat1, zpm1, zcm1, zof0, zof1, zof2, zof3, zofa0, zofa1, r_isIn, b_X3_laws_6, g1, b_X3_laws_21]
  · by_cases q1 : x = -1
    · subst q1
      have j0 := mjl_rng hO 0
      have j1 := mjl_rng hO 1
      have j2 := mjl_rng hO 2
      refine zP_read h0 (zI (mlaw (mjl K 0) (mjl K 1) (mjl K 2))) (fun d => ?_) (fun d τ hτ => ?_)
      · obtain ⟨σ1, a1, a2⟩ := s_joyByLaw (d + 14) h0 (k := 0) (by omega)
        obtain ⟨σ2, b1, b2⟩ := s_joyByLaw (d + 14) (zSys_scr h0 a2) (k := 1) (by omega)
        obtain ⟨σ3, c1, c2⟩ := s_joyByLaw (d + 14) (zSys_scr (zSys_scr h0 a2) b2) (k := 2) (by omega)
        refine ⟨σ3, ?_, zScr_tr (zScr_tr a2 b2) c2⟩
        have a1' : zc (d + 18) mX2_joyByLaw [zR (some 0), zI 0] σ = _ := a1
        have b1' : zc (d + 18) mX2_joyByLaw [zR (some 0), zI 1] σ1 = _ := b1
        have c1' : zc (d + 18) mX2_joyByLaw [zR (some 0), zI 2] σ2 = _ := c1
        rw [e_X2_laws]
        unfold mlaw
        by_cases q2 : mjl K 1 ≤ mjl K 0
        · by_cases q3 : mjl K 2 ≤ mjl K 0
          · simp (disch := omega) only [nrm_id, zix, ↓reduceIte, if_true, if_false, true_and, and_true, false_and, and_false, not_true_eq_false, not_false_eq_true, Int.reduceAdd, Int.reduceSub, Int.reduceMul, ↓if_pos, ↓if_neg, Option.bind_some, Option.toList_some, Option.toList_none, List.append_nil, List.cons_append, List.nil_append, znat, znat1, zpm1, zcm1, zof0, zof1, zof2, zof3, zofa0, zofa1, Int.reduceNeg, Int.reduceLT, Int.reduceLE, e_X2_lawWithMostJoy, a1', b_X2_lawWithMostJoy_7, b_X2_lawWithMostJoy_10, b1', b_X2_lawWithMostJoy_20, b_X2_lawWithMostJoy_33, c1', b_X2_laws_21]
          · simp (disch := omega) only [nrm_id, zix, ↓reduceIte, if_true, if_false, true_and, and_true, false_and, and_false, not_true_eq_false, not_false_eq_true, Int.reduceAdd, Int.reduceSub, Int.reduceMul, ↓if_pos, ↓if_neg, Option.bind_some, Option.toList_some, Option.toList_none, List.append_nil, List.cons_append, List.nil_append, znat, znat1, zpm1, zcm1, zof0, zof1, zof2, zof3, zofa0, zofa1, Int.reduceNeg, Int.reduceLT, Int.reduceLE, e_X2_lawWithMostJoy, a1', b_X2_lawWithMostJoy_7, b_X2_lawWithMostJoy_10, b1', b_X2_lawWithMostJoy_20, b_X2_lawWithMostJoy_33, c1', b_X2_laws_21]
        · by_cases q3 : mjl K 2 ≤ mjl K 1
          · simp (disch := omega) only [nrm_id, zix, ↓reduceIte, if_true, if_false, true_and, and_true, false_and, and_false, not_true_eq_false, not_false_eq_true, Int.reduceAdd, Int.reduceSub, Int.reduceMul, ↓if_pos, ↓if_neg, Option.bind_some, Option.toList_some, Option.toList_none, List.append_nil, List.cons_append, List.nil_append, znat, znat1, zpm1, zcm1, zof0, zof1, zof2, zof3, zofa0, zofa1, Int.reduceNeg, Int.reduceLT, Int.reduceLE, e_X2_lawWithMostJoy, a1', b_X2_lawWithMostJoy_7, b_X2_lawWithMostJoy_10, b1', b_X2_lawWithMostJoy_20, b_X2_lawWithMostJoy_33, c1', b_X2_laws_21]
          · simp (disch := omega) only [nrm_id, zix, ↓reduceIte, if_true, if_false, true_and, and_true, false_and, and_false, not_true_eq_false, not_false_eq_true, Int.reduceAdd, Int.reduceSub, Int.reduceMul, ↓if_pos, ↓if_neg, Option.bind_some, Option.toList_some, Option.toList_none, List.append_nil, List.cons_append, List.nil_append, znat, znat1, zpm1, zcm1, zof0, zof1, zof2, zof3, zofa0, zofa1, Int.reduceNeg, Int.reduceLT, Int.reduceLE, e_X2_lawWithMostJoy, a1', b_X2_lawWithMostJoy_7, b_X2_lawWithMostJoy_10, b1', b_X2_lawWithMostJoy_20, b_X2_lawWithMostJoy_33, c1', b_X2_laws_21]
      · obtain ⟨σ1, a1, a2⟩ := r_joyBy (d + 14) hτ (k := 1) (by omega)
        obtain ⟨σ2, b1, b2⟩ := r_joyBy (d + 14) (zSys_scr hτ a2) (k := 0) (by omega)
        obtain ⟨σ3, c1, c2⟩ := r_joyBy (d + 14) (zSys_scr (zSys_scr hτ a2) b2) (k := 2) (by omega)
        have hS3 := zSys_scr (zSys_scr (zSys_scr hτ a2) b2) c2
        have a1' : zc (d + 19) mX3_joyBy [zR (some 36), zI 1] τ = _ := a1
        have b1' : zc (d + 19) mX3_joyBy [zR (some 36), zI 0] σ1 = _ := b1
        have c1' : zc (d + 19) mX3_joyBy [zR (some 36), zI 2] σ2 = _ := c1
        by_cases q2 : mjl K 1 ≤ mjl K 0
        · obtain ⟨σ4, e1, e2⟩ := r_joyBy (d + 14) hS3 (k := 0) (by omega)
          have e1' : zc (d + 19) mX3_joyBy [zR (some 36), zI 0] σ3 = _ := e1
          refine ⟨σ4, ?_, zScr_tr (zScr_tr (zScr_tr a2 b2) c2) e2⟩
          rw [e_X3_laws]
          unfold mlaw
          by_cases q3 : mjl K 2 ≤ mjl K 0
          · simp (disch := omega) only [nrm_id, zix, ↓reduceIte, if_true, if_false, true_and, and_true, false_and, and_false, not_true_eq_false, not_false_eq_true, Int.reduceAdd, Int.reduceSub, Int.reduceMul, ↓if_pos, ↓if_neg, Option.bind_some, Option.toList_some, Option.toList_none, List.append_nil, List.cons_append, List.nil_append, znat, znat1, zpm1, zcm1, zof0, zof1, zof2, zof3, zofa0, zofa1, Int.reduceNeg, Int.reduceLT, Int.reduceLE, r_isIn, b_X3_laws_6, b_X3_laws_26, a1', b_X3_laws_36, b1', b_X3_laws_41, b_X3_laws_46, c1', e1']
          · simp (disch := omega) only [nrm_id, zix, ↓reduceIte, if_true, if_false, true_and, and_true, false_and, and_false, not_true_eq_false, not_false_eq_true, Int.reduceAdd, Int.reduceSub, Int.reduceMul, ↓if_pos, ↓if_neg, Option.bind_some, Option.toList_some, Option.toList_none, List.append_nil, List.cons_append, List.nil_append, znat, znat1, zpm1, zcm1, zof0, zof1, zof2, zof3, zofa0, zofa1, Int.reduceNeg, Int.reduceLT, Int.reduceLE, r_isIn, b_X3_laws_6, b_X3_laws_26, a1', b_X3_laws_36, b1', b_X3_laws_41, b_X3_laws_46, c1', e1']
        · obtain ⟨σ4, e1, e2⟩ := r_joyBy (d + 14) hS3 (k := 1) (by omega)
          have e1' : zc (d + 19) mX3_joyBy [zR (some 36), zI 1] σ3 = _ := e1
          refine ⟨σ4, ?_, zScr_tr (zScr_tr (zScr_tr a2 b2) c2) e2⟩
          rw [e_X3_laws]
          unfold mlaw
          by_cases q3 : mjl K 2 ≤ mjl K 1
          · simp (disch := omega) only [nrm_id, zix, ↓reduceIte, if_true, if_false, true_and, and_true, false_and, and_false, not_true_eq_false, not_false_eq_true, Int.reduceAdd, Int.reduceSub, Int.reduceMul, ↓if_pos, ↓if_neg, Option.bind_some, Option.toList_some, Option.toList_none, List.append_nil, List.cons_append, List.nil_append, znat, znat1, zpm1, zcm1, zof0, zof1, zof2, zof3, zofa0, zofa1, Int.reduceNeg, Int.reduceLT, Int.reduceLE, r_isIn, b_X3_laws_6, b_X3_laws_26, a1', b_X3_laws_36, b1', b_X3_laws_41, b_X3_laws_46, c1', e1']
          · simp (disch := omega) only [nrm_id, zix, ↓reduceIte, if_true, if_false, true_and, and_true, false_and, and_false, not_true_eq_false, not_false_eq_true, Int.reduceAdd, Int.reduceSub, Int.reduceMul, ↓if_pos, ↓if_neg, Option.bind_some, Option.toList_some, Option.toList_none, List.append_nil, List.cons_append, List.nil_append, znat, znat1, zpm1, zcm1, zof0, zof1, zof2, zof3, zofa0, zofa1, Int.reduceNeg, Int.reduceLT, Int.reduceLE, r_isIn, b_X3_laws_6, b_X3_laws_26, a1', b_X3_laws_36, b1', b_X3_laws_41, b_X3_laws_46, c1', e1']
    · refine zP_same h0 (zI 1000000001) (fun d => ?_) (fun d => ?_)
      · rw [e_X2_laws]
        by_cases q5 : x < -1 <;> simp (disch := omega) only [nrm_id, zix, ↓reduceIte, if_true, if_false, true_and, and_true, false_and, and_false, not_true_eq_false, not_false_eq_true, Int.reduceAdd, Int.reduceSub, Int.reduceMul, ↓if_pos, ↓if_neg, Option.bind_some, Option.toList_some, Option.toList_none, List.append_nil, List.cons_append, List.nil_append, znat, znat1, zpm1, zcm1, zof0, zof1, zof2, zof3, zofa0, zofa1]
      · rw [e_X3_laws]
        simp (disch := omega) only [nrm_id, zix, ↓reduceIte, if_true, if_false, true_and, and_true, false_and, and_false, not_true_eq_false, not_false_eq_true, Int.reduceAdd, Int.reduceSub, Int.reduceMul, ↓if_pos, ↓if_neg, Option.bind_some, Option.toList_some, Option.toList_none, List.append_nil, List.cons_append, List.nil_append, znat, znat1, zpm1, zcm1, zof0, zof1, zof2, zof3, zofa0, zofa1, r_isIn, b_X3_laws_6]
end SYS8
