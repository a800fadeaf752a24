/-! both sides hold the same -/
def zShR (σ : zS) (d : Nat) : Prop := (σ (20 + 2 * d) 0 = 0 ∨ σ (20 + 2 * d) 0 = 1 ∨ σ (20 + 2 * d) 0 = 2) ∧ σ 45 d = σ (20 + 2 * d) 0 ∧
  (σ (20 + 2 * d) 0 = 1 → σ 46 d = σ (20 + 2 * d) 1 ∧ σ 47 d = σ (20 + 2 * d) 2 ∧ (0 ≤ σ (20 + 2 * d) 1 ∧ σ (20 + 2 * d) 1 ≤ 7) ∧ 0 ≤ σ (20 + 2 * d) 2 ∧ σ (20 + 2 * d) 2 ≤ 9) ∧
  (σ (20 + 2 * d) 0 = 2 → σ 48 d = σ (20 + 2 * d) 3 ∧ (0 ≤ σ (20 + 2 * d) 3 ∧ σ (20 + 2 * d) 3 ≤ 2) ∧ σ 49 d = σ (20 + 2 * d) 4 ∧ (0 ≤ σ (20 + 2 * d) 4 ∧ σ (20 + 2 * d) 4 ≤ 100) ∧
    (σ (20 + 2 * d) 3 = 0 → ∀ i, i < 100 → -128 ≤ σ (21 + 2 * d) i ∧ σ (21 + 2 * d) i ≤ 127) ∧
    ∀ i, i < 100 → σ 50 (100 * d + i) = σ (21 + 2 * d) i ∧ -2147483648 ≤ σ (21 + 2 * d) i ∧ σ (21 + 2 * d) i < 2147483648)
def zImg (σ : zS) : Prop := (σ 0 3 = 0 ∧ σ 36 5 = 0) ∨ (σ 0 3 = 1 ∧ σ 36 5 = 1 ∧ ∃ (K : zK) (T : Int), AbsC σ 11 K ∧ AbsM σ 39 K ∧ mOk K ∧ σ 11 2 = T ∧ σ 39 2 = T ∧ 0 ≤ T ∧ T ≤ 999)
def zSysK (K : zK) (T : Int) (σ : zS) : Prop := AbsC σ 1 K ∧ AbsM σ 37 K ∧ mOk K ∧ σ 1 2 = T ∧ σ 37 2 = T ∧ (0 ≤ T ∧ T ≤ 999) ∧ zImg σ ∧ ∀ d, d < 8 → zShR σ d
def zSys (σ : zS) : Prop := ∃ (K : zK) (T : Int), zSysK K T σ
/-- places whose contents are of one call alone -/
def zSc : List Nat := [5, 6, 7, 8, 9, 10, 17, 18, 19, 38, 40, 41, 42, 43, 44, 51]
def zScr (ps : List Nat) (σ σ' : zS) : Prop := (∀ q, q ∉ ps → q ≠ 36 → σ' q = σ q) ∧ σ' 36 5 = σ 36 5
theorem zScr_of {ps qs : List Nat} {σ σ' : zS} (h : zFr ps σ σ') (h2 : ∀ q, q ∈ ps → q ∈ qs) (h36 : 36 ∉ ps) : zScr qs σ σ' := ⟨fun q hq _ => h q fun e => hq (h2 q e), by rw [h 36 h36]⟩
theorem zScr_tr {ps : List Nat} {a b c : zS} (h1 : zScr ps a b) (h2 : zScr ps b c) : zScr ps a c := ⟨fun q hq h36 => (h2.1 q hq h36).trans (h1.1 q hq h36), h2.2.trans h1.2⟩
theorem zScr_mono {ps qs : List Nat} {a b : zS} (h : zScr ps a b) (hs : ∀ q, q ∈ ps → q ∈ qs) : zScr qs a b := ⟨fun q hq h36 => h.1 q (fun e => hq (hs q e)) h36, h.2⟩
theorem zShR_keep {σ σ' : zS} {d : Nat} (h : zShR σ d) (e0 : σ' (20 + 2 * d) = σ (20 + 2 * d)) (e1 : σ' (21 + 2 * d) = σ (21 + 2 * d)) (e2 : σ' 45 = σ 45) (e3 : σ' 46 = σ 46) (e4 : σ' 47 = σ 47) (e5 : σ' 48 = σ 48) (e6 : σ' 49 = σ 49) (e7 : σ' 50 = σ 50) : zShR σ' d := by
  unfold zShR at h ⊢
  rw [e0, e1, e2, e3, e4, e5, e6, e7]
  exact h
theorem zSys_upd {K K' : zK} {T T' : Int} {σ σ' : zS} (h : zSysK K T σ) (hs : zScr ([1, 2, 3, 4, 37] ++ zSc) σ σ') (hC : AbsC σ' 1 K') (hM : AbsM σ' 37 K') (hO : mOk K') (hT1 : σ' 1 2 = T') (hT2 : σ' 37 2 = T') (hT : 0 ≤ T' ∧ T' ≤ 999) : zSysK K' T' σ' := by
  obtain ⟨-, -, -, -, -, -, hI, hS⟩ := h
  have q : ∀ x, x ∉ [1, 2, 3, 4, 37] ++ zSc → x ≠ 36 → σ' x = σ x := hs.1
  refine ⟨hC, hM, hO, hT1, hT2, hT, ?_, fun d hd => ?_⟩
  · unfold zImg at hI ⊢
    rw [q 0 (by decide) (by decide), hs.2]
    rcases hI with hI | ⟨a, b, KI, TI, c1, c2, c3, c4, c5, c6⟩
    · exact Or.inl hI
    · refine Or.inr ⟨a, b, KI, TI, AbsC_fr c1 (q 11 (by decide) (by decide)) (q 12 (by decide) (by decide)) (q 13 (by decide) (by decide)) (q 14 (by decide) (by decide)), AbsM_fr c2 (q 39 (by decide) (by decide)), c3, by rw [q 11 (by decide) (by decide)]; exact c4, by rw [q 39 (by decide) (by decide)]; exact c5, c6⟩
  · have hd' : d = 0 ∨ d = 1 ∨ d = 2 ∨ d = 3 ∨ d = 4 ∨ d = 5 ∨ d = 6 ∨ d = 7 := by omega
    refine zShR_keep (hS d hd) ?_ ?_ (q 45 (by decide) (by decide)) (q 46 (by decide) (by decide)) (q 47 (by decide) (by decide)) (q 48 (by decide) (by decide)) (q 49 (by decide) (by decide)) (q 50 (by decide) (by decide))
    · rcases hd' with rfl | rfl | rfl | rfl | rfl | rfl | rfl | rfl <;> exact q _ (by decide) (by decide)
    · rcases hd' with rfl | rfl | rfl | rfl | rfl | rfl | rfl | rfl <;> exact q _ (by decide) (by decide)
theorem zSys_scr {K : zK} {T : Int} {σ σ' : zS} (h : zSysK K T σ) (hs : zScr zSc σ σ') : zSysK K T σ' := by
  have h0 := h
  obtain ⟨a1, a2, a3, a4, a5, a6, -, -⟩ := h
  have q : ∀ x, x ∉ zSc → x ≠ 36 → σ' x = σ x := hs.1
  exact zSys_upd h0 (zScr_mono hs (fun x hx => List.mem_append_right _ hx)) (AbsC_fr a1 (q 1 (by decide) (by decide)) (q 2 (by decide) (by decide)) (q 3 (by decide) (by decide)) (q 4 (by decide) (by decide))) (AbsM_fr a2 (q 37 (by decide) (by decide))) a3 (by rw [q 1 (by decide) (by decide)]; exact a4) (by rw [q 37 (by decide) (by decide)]; exact a5) a6
def zP (fx fm : zM) (as : List zV) (σ : zS) : Prop := ∀ d : Nat, ∃ (σ1 σ2 : zS) (v : zV), zc (d + 20) fx (zR (some 0) :: as) σ = some (some v, σ1) ∧ zc (d + 20) fm (zR (some 36) :: as) σ1 = some (some v, σ2) ∧ zSys σ2
theorem zP_read {fx fm : zM} {as : List zV} {σ : zS} {K : zK} {T : Int} (h : zSysK K T σ) (v : zV) (hx : ∀ d, ∃ σ1, zc (d + 20) fx (zR (some 0) :: as) σ = some (some v, σ1) ∧ zScr zSc σ σ1) (hm : ∀ d τ, zSysK K T τ → ∃ τ', zc (d + 20) fm (zR (some 36) :: as) τ = some (some v, τ') ∧ zScr zSc τ τ') : zP fx fm as σ := by
  intro d
  obtain ⟨σ1, a1, a2⟩ := hx d
  obtain ⟨σ2, b1, b2⟩ := hm d σ1 (zSys_scr h a2)
  exact ⟨σ1, σ2, v, a1, b1, K, T, zSys_scr (zSys_scr h a2) b2⟩
theorem zScr_rf (ps : List Nat) (σ : zS) : zScr ps σ σ := ⟨fun _ _ _ => rfl, rfl⟩
theorem zP_same {fx fm : zM} {as : List zV} {σ : zS} {K : zK} {T : Int} (h : zSysK K T σ) (v : zV) (hx : ∀ d, zc (d + 20) fx (zR (some 0) :: as) σ = some (some v, σ)) (hm : ∀ d, zc (d + 20) fm (zR (some 36) :: as) σ = some (some v, σ)) : zP fx fm as σ := fun d => ⟨σ, σ, v, hx d, hm d, K, T, h⟩
def R32 (x : Int) : Prop := -2147483648 ≤ x ∧ x < 2147483648
theorem zAr37 : zAr 37 := Or.inl rfl
theorem zAr38 : zAr 38 := Or.inr (Or.inl rfl)
theorem zAr39 : zAr 39 := Or.inr (Or.inr (Or.inl rfl))
section SYS1
variable {σ : zS} {K : zK} {T : Int}
theorem p_hour (h : zSysK K T σ) {x : Int} (hx : R32 x) : zP mX2_hour mX3_hour [zI x] σ := by
  intro d
  obtain ⟨x1, x2⟩ := hx
  have h0 := h
  obtain ⟨hC, hM, hO, hT1, hT2, hT, -, -⟩ := h
  by_cases q : 0 ≤ x ∧ x ≤ 23
  · refine ⟨zup σ 1 1 x, zup (zup σ 1 1 x) 37 1 x, zI K.2.1, ?_, ?_, (K.1, x, K.2.2), T, ?_⟩
    · rw [e_X2_hour, s_setClock _ zCo1 _ x1 x2]
      simp (disch := omega) only [nrm_id, zix, ↓reduceIte, if_true, if_false, true_and, and_true, false_and, and_false, not_true_eq_false, not_false_eq_true, Int.reduceAdd, Int.reduceSub, Int.reduceMul, ↓if_pos, ↓if_neg, Option.bind_some, Option.toList_some, Option.toList_none, List.append_nil, List.cons_append, List.nil_append, znat, znat1, zpm1, zcm1, zof0, zof1, zof2, zof3, zofa0, zofa1, b_X2_hour_16, hC.2.1]
    · rw [e_X3_hour, r_isIn _ _ ⟨x1, x2⟩ (by omega) (by omega)]
      simp (disch := omega) only [nrm_id, zix, ↓reduceIte, if_true, if_false, true_and, and_true, false_and, and_false, not_true_eq_false, not_false_eq_true, Int.reduceAdd, Int.reduceSub, Int.reduceMul, ↓if_pos, ↓if_neg, Option.bind_some, Option.toList_some, Option.toList_none, List.append_nil, List.cons_append, List.nil_append, znat, znat1, zpm1, zcm1, zof0, zof1, zof2, zof3, zofa0, zofa1, b_X3_hour_7, zup_ne, hM.2.1]
    · refine zSys_upd h0 (zScr_tr (zScr_of (ps := [1]) (zFr_up (by simp)) (by simp) (by simp)) (zScr_of (ps := [37]) (zFr_up (by simp)) (by simp) (by simp))) ?_ ?_ ?_ ?_ ?_ hT
      · exact AbsC_fr (AbsC_clock hC x) (zup_ne (by decide)) (zup_ne (by decide)) (zup_ne (by decide)) (zup_ne (by decide))
      · obtain ⟨g0, g1, e1, e2, e3, e5⟩ := hM
        exact ⟨by simp (disch := omega) only [nrm_id, zix, ↓reduceIte, if_true, if_false, true_and, and_true, false_and, and_false, not_true_eq_false, not_false_eq_true, Int.reduceAdd, Int.reduceSub, Int.reduceMul, ↓if_pos, ↓if_neg, Option.bind_some, Option.toList_some, Option.toList_none, List.append_nil, List.cons_append, List.nil_append, znat, znat1, zpm1, zcm1, zof0, zof1, zof2, zof3, zofa0, zofa1, zup_ix, zup_ne, g0], by rw [zup_at], fun j hj => by rw [zup_ix (by omega), zup_ne (by decide)]; exact e1 j hj, fun j hj => by rw [zup_ix (by omega), zup_ne (by decide)]; exact e2 j hj, fun j hj => by rw [zup_ix (by omega), zup_ne (by decide)]; exact e3 j hj, fun j hj => by rw [zup_ix (by omega), zup_ne (by decide)]; exact e5 j hj⟩
      · exact ⟨hO.1, q, hO.2.2⟩
      · rw [zup_ne (by decide), zup_ix (by decide)]; exact hT1
      · rw [zup_ix (by decide), zup_ne (by decide)]; exact hT2
  · refine ⟨σ, σ, zI (-1), ?_, ?_, K, T, h0⟩
    · rw [e_X2_hour, s_setClock _ zCo1 _ x1 x2]
      simp (disch := omega) only [nrm_id, zix, ↓reduceIte, if_true, if_false, true_and, and_true, false_and, and_false, not_true_eq_false, not_false_eq_true, Int.reduceAdd, Int.reduceSub, Int.reduceMul, ↓if_pos, ↓if_neg, Option.bind_some, Option.toList_some, Option.toList_none, List.append_nil, List.cons_append, List.nil_append, znat, znat1, zpm1, zcm1, zof0, zof1, zof2, zof3, zofa0, zofa1, b_X2_hour_16]
    · rw [e_X3_hour, r_isIn _ _ ⟨x1, x2⟩ (by omega) (by omega)]
      simp (disch := omega) only [nrm_id, zix, ↓reduceIte, if_true, if_false, true_and, and_true, false_and, and_false, not_true_eq_false, not_false_eq_true, Int.reduceAdd, Int.reduceSub, Int.reduceMul, ↓if_pos, ↓if_neg, Option.bind_some, Option.toList_some, Option.toList_none, List.append_nil, List.cons_append, List.nil_append, znat, znat1, zpm1, zcm1, zof0, zof1, zof2, zof3, zofa0, zofa1, b_X3_hour_7]
theorem r_isRowY (d : Nat) (h : AbsM σ 37 K) (hO : mOk K) {r : Nat} (hr : r < K.1) : zc (d + 1) mX3_isRow [zR (some 36), zI r] σ = some (some (zI 1), σ) := by
  have hp := hO.1
  rw [r_isRow d h hO (by omega), if_pos (by omega)]
theorem r_isRowN (d : Nat) (h : AbsM σ 37 K) (hO : mOk K) {x : Int} (hx : R32 x) (hn : ¬ (0 ≤ x ∧ x < K.1)) : zc (d + 1) mX3_isRow [zR (some 36), zI x] σ = some (some (zI 0), σ) := by
  rw [r_isRow d h hO hx, if_neg hn]
theorem p_tips (h : zSysK K T σ) {x v : Int} (hx : R32 x) (hv : R32 v) : zP mX2_tips mX3_tips [zI x, zI v] σ := by
  intro d
  have h0 := h
  obtain ⟨hC, hM, hO, hT1, hT2, hT, -, -⟩ := h
  have hp := hO.1
  by_cases q : 0 ≤ x ∧ x < K.1
  · obtain ⟨r, rfl, hr⟩ := zix_of q.1 q.2
    have hcn := mcan_rng hO (r := r) (by omega)
    have e3 := hC.2.2.2.2.1 r (by omega)
    have e4 := hM.2.2.2.2.1 r (by omega)
    obtain ⟨v1, v2⟩ := hv
    by_cases q2 : 0 ≤ v ∧ v ≤ 10
    · by_cases q3 : v ≤ mcan K r
      · have hb := (hO.2.2.2.2.2 r (by omega))
        refine ⟨zup σ 4 r v, zup (zup σ 4 r v) 37 (5 + 4 * r) v, zI (K.2.2.2.2.1 r), ?_, ?_, Kst K (fun j => if j = r then v else K.2.2.2.2.1 j), T, ?_⟩
        · rw [e_X2_tips]
          simp (disch := omega) only [nrm_id, zix, ↓reduceIte, if_true, if_false, true_and, and_true, false_and, and_false, not_true_eq_false, not_false_eq_true, Int.reduceAdd, Int.reduceSub, Int.reduceMul, ↓if_pos, ↓if_neg, Option.bind_some, Option.toList_some, Option.toList_none, List.append_nil, List.cons_append, List.nil_append, znat, znat1, zpm1, zcm1, zof0, zof1, zof2, zof3, zofa0, zofa1, s_isRowY _ zCo1 hC hO hr, b_X2_tips_8, s_setTip _ zCo1 hC hO hr, b_X2_tips_42, e3]
        · have hM2 : AbsM (zup σ 4 r v) 37 K := AbsM_fr hM (zup_ne (by decide))
          rw [e_X3_tips]
          simp (disch := omega) only [nrm_id, zix, ↓reduceIte, if_true, if_false, true_and, and_true, false_and, and_false, not_true_eq_false, not_false_eq_true, Int.reduceAdd, Int.reduceSub, Int.reduceMul, ↓if_pos, ↓if_neg, Option.bind_some, Option.toList_some, Option.toList_none, List.append_nil, List.cons_append, List.nil_append, znat, znat1, zpm1, zcm1, zof0, zof1, zof2, zof3, zofa0, zofa1, r_isRowY _ hM2 hO hr, b_X3_tips_5, r_isIn, b_X3_tips_15, r_can _ zAr37 hM2 hO hr, b_X3_tips_29, r_of, b_X3_tips_44, b_X3_tips_55, zup_ne, e4]
        · refine zSys_upd h0 (zScr_tr (zScr_of (ps := [4]) (zFr_up (by simp)) (by simp) (by simp)) (zScr_of (ps := [37]) (zFr_up (by simp)) (by simp) (by simp))) ?_ ?_ ?_ ?_ ?_ hT
          · exact AbsC_fr (AbsC_tip hC) (zup_ne (by decide)) (zup_ne (by decide)) (zup_ne (by decide)) (zup_ne (by decide))
          · exact AbsM_tip (AbsM_fr hM (zup_ne (by decide)))
          · refine ⟨hO.1, hO.2.1, hO.2.2.1, hO.2.2.2.1, fun j hj => ?_, fun j hj => ⟨(hO.2.2.2.2.2 j hj).1, (hO.2.2.2.2.2 j hj).2.1, fun e => ?_⟩⟩
            · show 0 ≤ (if j = r then v else K.2.2.2.2.1 j) ∧ (if j = r then v else K.2.2.2.2.1 j) ≤ 10
              split
              · exact q2
              · exact hO.2.2.2.2.1 j hj
            · show (if j = r then v else K.2.2.2.2.1 j) = 0
              split
              · rename_i ej
                subst ej
                have e0 : mcan K j = 0 := by unfold mcan; rw [if_neg (fun w => by have := w.2; have e : K.2.2.2.2.2 j = 1 := e; omega)]
                omega
              · exact (hO.2.2.2.2.2 j hj).2.2 e
          · rw [zup_ne (by decide), zup_ne (by decide)]; exact hT1
          · rw [zup_ix (by omega), zup_ne (by decide)]; exact hT2
      · refine ⟨σ, σ, zI (-3), ?_, ?_, K, T, h0⟩
        · rw [e_X2_tips]
          simp (disch := omega) only [nrm_id, zix, ↓reduceIte, if_true, if_false, true_and, and_true, false_and, and_false, not_true_eq_false, not_false_eq_true, Int.reduceAdd, Int.reduceSub, Int.reduceMul, ↓if_pos, ↓if_neg, Option.bind_some, Option.toList_some, Option.toList_none, List.append_nil, List.cons_append, List.nil_append, znat, znat1, zpm1, zcm1, zof0, zof1, zof2, zof3, zofa0, zofa1, s_isRowY _ zCo1 hC hO hr, b_X2_tips_8, s_setTip _ zCo1 hC hO hr, b_X2_tips_42, e3]
        · rw [e_X3_tips]
          simp (disch := omega) only [nrm_id, zix, ↓reduceIte, if_true, if_false, true_and, and_true, false_and, and_false, not_true_eq_false, not_false_eq_true, Int.reduceAdd, Int.reduceSub, Int.reduceMul, ↓if_pos, ↓if_neg, Option.bind_some, Option.toList_some, Option.toList_none, List.append_nil, List.cons_append, List.nil_append, znat, znat1, zpm1, zcm1, zof0, zof1, zof2, zof3, zofa0, zofa1, r_isRowY _ hM hO hr, b_X3_tips_5, r_isIn, b_X3_tips_15, r_can _ zAr37 hM hO hr, b_X3_tips_29]
    · refine ⟨σ, σ, zI (-1), ?_, ?_, K, T, h0⟩
      · rw [e_X2_tips]
        by_cases q4 : v < 0 <;> simp (disch := omega) only [nrm_id, zix, ↓reduceIte, if_true, if_false, true_and, and_true, false_and, and_false, not_true_eq_false, not_false_eq_true, Int.reduceAdd, Int.reduceSub, Int.reduceMul, ↓if_pos, ↓if_neg, Option.bind_some, Option.toList_some, Option.toList_none, List.append_nil, List.cons_append, List.nil_append, znat, znat1, zpm1, zcm1, zof0, zof1, zof2, zof3, zofa0, zofa1, s_isRowY _ zCo1 hC hO hr, b_X2_tips_8]
      · rw [e_X3_tips]
        simp (disch := omega) only [nrm_id, zix, ↓reduceIte, if_true, if_false, true_and, and_true, false_and, and_false, not_true_eq_false, not_false_eq_true, Int.reduceAdd, Int.reduceSub, Int.reduceMul, ↓if_pos, ↓if_neg, Option.bind_some, Option.toList_some, Option.toList_none, List.append_nil, List.cons_append, List.nil_append, znat, znat1, zpm1, zcm1, zof0, zof1, zof2, zof3, zofa0, zofa1, r_isRowY _ hM hO hr, b_X3_tips_5, r_isIn, b_X3_tips_15]
  · refine ⟨σ, σ, zI (-1), ?_, ?_, K, T, h0⟩
    · rw [e_X2_tips]
      simp (disch := omega) only [nrm_id, zix, ↓reduceIte, if_true, if_false, true_and, and_true, false_and, and_false, not_true_eq_false, not_false_eq_true, Int.reduceAdd, Int.reduceSub, Int.reduceMul, ↓if_pos, ↓if_neg, Option.bind_some, Option.toList_some, Option.toList_none, List.append_nil, List.cons_append, List.nil_append, znat, znat1, zpm1, zcm1, zof0, zof1, zof2, zof3, zofa0, zofa1, s_isRowN _ zCo1 hC hO hx.1 hx.2 q, b_X2_tips_8]
    · rw [e_X3_tips]
      simp (disch := omega) only [nrm_id, zix, ↓reduceIte, if_true, if_false, true_and, and_true, false_and, and_false, not_true_eq_false, not_false_eq_true, Int.reduceAdd, Int.reduceSub, Int.reduceMul, ↓if_pos, ↓if_neg, Option.bind_some, Option.toList_some, Option.toList_none, List.append_nil, List.cons_append, List.nil_append, znat, znat1, zpm1, zcm1, zof0, zof1, zof2, zof3, zofa0, zofa1, r_isRowN _ hM hO hx q, b_X3_tips_5]
end SYS1
