theorem mfree_dec : ∀ B : Nat, B < 256 → ∀ r : Nat, r < 8 → (0 ≤ zand (B : Int) (zxor (zshl 1 (r : Int)) (-1)) ∧ zand (B : Int) (zxor (zshl 1 (r : Int)) (-1)) < 256) ∧ ∀ j : Nat, j < 8 → mbit (zand (B : Int) (zxor (zshl 1 (r : Int)) (-1))) j = if j = r then 0 else mbit (B : Int) j := by decide +kernel
/-- a row's block turned -/
abbrev mfree (K : zK) (r : Nat) : zK := (K.1, K.2.1, K.2.2.1, K.2.2.2.1, K.2.2.2.2.1, fun j => if j = r then 0 else K.2.2.2.2.2 j)
theorem mfree_ok {K : zK} (hO : mOk K) {r : Nat} : mOk (mfree K r) := by
  refine ⟨hO.1, hO.2.1, hO.2.2.1, hO.2.2.2.1, hO.2.2.2.2.1, fun j hj => ⟨?_, fun e => ?_, fun e => ?_⟩⟩
  · show (if j = r then 0 else K.2.2.2.2.2 j) = 0 ∨ (if j = r then 0 else K.2.2.2.2.2 j) = 1
    split
    · exact Or.inl rfl
    · exact (hO.2.2.2.2.2 j hj).1
  · show (if j = r then 0 else K.2.2.2.2.2 j) = 0
    split
    · rfl
    · exact (hO.2.2.2.2.2 j hj).2.1 e
  · have e : (if j = r then 0 else K.2.2.2.2.2 j) = 1 := e
    split at e
    · exact absurd e (by decide)
    · exact (hO.2.2.2.2.2 j hj).2.2 e
abbrev madd (K : zK) (k f : Int) : zK := (K.1 + 1, K.2.1, (fun j => if j = K.1 then k else K.2.2.1 j), (fun j => if j = K.1 then f else K.2.2.2.1 j), (fun j => if j = K.1 then 0 else K.2.2.2.2.1 j), K.2.2.2.2.2)
theorem madd_ok {K : zK} (hO : mOk K) (hp : K.1 < 8) {k f : Int} (hk : 0 ≤ k ∧ k ≤ 7) (hf : 0 ≤ f ∧ f ≤ 9) : mOk (madd K k f) := by
  refine ⟨hp, hO.2.1, fun r hr => ?_, fun r hr => ?_, fun r hr => ?_, fun r hr => ⟨(hO.2.2.2.2.2 r hr).1, fun e => (hO.2.2.2.2.2 r hr).2.1 (by have e : K.1 + 1 ≤ r := e; omega), fun e => ?_⟩⟩
  · show 0 ≤ (if r = K.1 then k else K.2.2.1 r) ∧ (if r = K.1 then k else K.2.2.1 r) ≤ 7
    split
    · exact hk
    · exact hO.2.2.1 r hr
  · show 0 ≤ (if r = K.1 then f else K.2.2.2.1 r) ∧ (if r = K.1 then f else K.2.2.2.1 r) ≤ 9
    split
    · exact hf
    · exact hO.2.2.2.1 r hr
  · show 0 ≤ (if r = K.1 then 0 else K.2.2.2.2.1 r) ∧ (if r = K.1 then 0 else K.2.2.2.2.1 r) ≤ 10
    split
    · omega
    · exact hO.2.2.2.2.1 r hr
  · show (if r = K.1 then 0 else K.2.2.2.2.1 r) = 0
    split
    · rfl
    · exact (hO.2.2.2.2.2 r hr).2.2 e
section COPS
variable {c : Nat} {σ : zS} {K : zK}
theorem s_isRowN (d : Nat) (hc : zCo c) (h : AbsC σ c K) (hO : mOk K) {x : Int} (h1 : -2147483648 ≤ x) (h2 : x < 2147483648) (hx : ¬ (0 ≤ x ∧ x < K.1)) : zc d mX0_isRow [zR (some c), zI x] σ = some (some (zI 0), σ) := by rw [s_isRow d hc h hO h1 h2, if_neg hx]
theorem s_isRowY (d : Nat) (hc : zCo c) (h : AbsC σ c K) (hO : mOk K) {r : Nat} (hr : r < K.1) : zc d mX0_isRow [zR (some c), zI r] σ = some (some (zI 1), σ) := by
  have hp := hO.1
  rw [s_isRow d hc h hO (by omega) (by omega), if_pos (by omega)]
theorem s_setTip (d : Nat) (hc : zCo c) (h : AbsC σ c K) (hO : mOk K) {r : Nat} (hr : r < K.1) {v : Int} (h1 : -2147483648 ≤ v) (h2 : v < 2147483648) : zc (d + 2) mX0_setTip [zR (some c), zI r, zI v] σ = if 0 ≤ v ∧ v ≤ mcan K r then some (some (zI 1), zup σ (c + 3) r v) else some (some (zI 0), σ) := by
  have hp := hO.1
  have hcn := mcan_rng hO (r := r) (by omega)
  rw [e_X0_setTip _ _ _ hc]
  simp (disch := omega) only [nrm_id, zix, ↓reduceIte, if_true, if_false, true_and, and_true, false_and, and_false, not_true_eq_false, not_false_eq_true, Int.reduceAdd, Int.reduceSub, Int.reduceMul, ↓if_pos, ↓if_neg, Option.bind_some, Option.toList_some, Option.toList_none, List.append_nil, List.cons_append, List.nil_append, znat, znat1, zpm1, zcm1, zof0, zof1, zof2, zof3, zofa0, zofa1, s_isRowY _ hc h hO hr, b_X0_setTip_5 _ _ _ _ hc, s_canAt _ hc h hO hr, b_X0_setTip_18 _ _ _ _ _ hc]
  by_cases q : 0 ≤ v ∧ v ≤ mcan K r
  · simp (disch := omega) only [nrm_id, zix, ↓reduceIte, if_true, if_false, true_and, and_true, false_and, and_false, not_true_eq_false, not_false_eq_true, Int.reduceAdd, Int.reduceSub, Int.reduceMul, ↓if_pos, ↓if_neg, Option.bind_some, Option.toList_some, Option.toList_none, List.append_nil, List.cons_append, List.nil_append, znat, znat1, zpm1, zcm1, zof0, zof1, zof2, zof3, zofa0, zofa1, q]
  · by_cases q1 : v < 0 <;> simp (disch := omega) only [nrm_id, zix, ↓reduceIte, if_true, if_false, true_and, and_true, false_and, and_false, not_true_eq_false, not_false_eq_true, Int.reduceAdd, Int.reduceSub, Int.reduceMul, ↓if_pos, ↓if_neg, Option.bind_some, Option.toList_some, Option.toList_none, List.append_nil, List.cons_append, List.nil_append, znat, znat1, zpm1, zcm1, zof0, zof1, zof2, zof3, zofa0, zofa1]
theorem s_setTipN (d : Nat) (hc : zCo c) (h : AbsC σ c K) (hO : mOk K) {x : Int} (h1 : -2147483648 ≤ x) (h2 : x < 2147483648) (hx : ¬ (0 ≤ x ∧ x < K.1)) (v : Int) : zc (d + 2) mX0_setTip [zR (some c), zI x, zI v] σ = some (some (zI 0), σ) := by
  rw [e_X0_setTip _ _ _ hc]
  simp (disch := omega) only [nrm_id, zix, ↓reduceIte, if_true, if_false, true_and, and_true, false_and, and_false, not_true_eq_false, not_false_eq_true, Int.reduceAdd, Int.reduceSub, Int.reduceMul, ↓if_pos, ↓if_neg, Option.bind_some, Option.toList_some, Option.toList_none, List.append_nil, List.cons_append, List.nil_append, znat, znat1, zpm1, zcm1, zof0, zof1, zof2, zof3, zofa0, zofa1, s_isRowN _ hc h hO h1 h2 hx, b_X0_setTip_5 _ _ _ _ hc]
theorem s_blockOrFree (d : Nat) (hc : zCo c) (h : AbsC σ c K) (hO : mOk K) {r : Nat} (hr : r < K.1) : ∃ σ' : zS, zc (d + 2) mX0_blockOrFree [zR (some c), zI r] σ = some (some (zI 1), σ') ∧ AbsC σ' c (if K.2.2.2.2.2 r = 1 then mfree K r else mblk K ((2 ^ r : Nat) : Int)) ∧ σ' c 2 = σ c 2 ∧ zFr [c, c + 3] σ σ' := by
  have hp := hO.1
  have hb := hO.2.2.2.2.2 r (by omega)
  rcases hb.1 with e | e
  · rw [if_neg (by omega)]
    have hw : (2 ^ r : Nat) < 256 := Nat.pow_lt_pow_right (by omega) (show r < 8 by omega)
    obtain ⟨σ', g1, g2, g3, g4⟩ := s_block d hc h hO (R := ((2 ^ r : Nat) : Int)) (by generalize (2 ^ r : Nat) = w at hw ⊢; omega) (fun j hj hm => by
      rw [mbit_pow] at hm
      by_cases e2 : r = j
      · omega
      · rw [if_neg e2] at hm; exact absurd hm (by decide))
    refine ⟨σ', ?_, g2, g3, g4⟩
    rw [e_X0_blockOrFree _ _ hc]
    simp (disch := omega) only [nrm_id, zix, ↓reduceIte, if_true, if_false, true_and, and_true, false_and, and_false, not_true_eq_false, not_false_eq_true, Int.reduceAdd, Int.reduceSub, Int.reduceMul, ↓if_pos, ↓if_neg, Option.bind_some, Option.toList_some, Option.toList_none, List.append_nil, List.cons_append, List.nil_append, znat, znat1, zpm1, zcm1, zof0, zof1, zof2, zof3, zofa0, zofa1, s_isRowY _ hc h hO hr, b_X0_blockOrFree_5 _ _ _ hc, s_isBlocked _ hc h (show r < 8 from by omega), e, b_X0_blockOrFree_15 _ _ _ hc, zshl1 r (by omega), g1, b_X0_blockOrFree_42]
  · rw [if_pos e]
    obtain ⟨h0, h1, e1, e2, e3, e4, e5⟩ := h
    obtain ⟨B, hB⟩ := Int.eq_ofNat_of_zero_le e4.1
    have hf := mfree_dec B (by omega) r (by omega)
    rw [← hB] at hf
    refine ⟨zup σ c 3 (zand (σ c 3) (zxor (zshl 1 r) (-1))), ?_, ⟨?_, ?_, ?_, ?_, ?_, ?_, ?_⟩, by rw [zup_ix (by omega)], zFr_up (by simp)⟩
    · have h : AbsC σ c K := ⟨h0, h1, e1, e2, e3, e4, e5⟩
      rw [e_X0_blockOrFree _ _ hc]
      simp (disch := omega) only [nrm_id, zix, ↓reduceIte, if_true, if_false, true_and, and_true, false_and, and_false, not_true_eq_false, not_false_eq_true, Int.reduceAdd, Int.reduceSub, Int.reduceMul, ↓if_pos, ↓if_neg, Option.bind_some, Option.toList_some, Option.toList_none, List.append_nil, List.cons_append, List.nil_append, znat, znat1, zpm1, zcm1, zof0, zof1, zof2, zof3, zofa0, zofa1, s_isRowY _ hc h hO hr, b_X0_blockOrFree_5 _ _ _ hc, s_isBlocked _ hc h (show r < 8 from by omega), e, b_X0_blockOrFree_15 _ _ _ hc]
    · rw [zup_ix (by omega)]; exact h0
    · rw [zup_ix (by omega)]; exact h1
    · intro j hj; rw [zup_ne (by omega)]; exact e1 j hj
    · intro j hj; rw [zup_ne (by omega)]; exact e2 j hj
    · intro j hj; rw [zup_ne (by omega)]; exact e3 j hj
    · rw [zup_at]; exact hf.1
    · intro j hj; rw [zup_at, hf.2 j hj]
      show _ = if j = r then 0 else K.2.2.2.2.2 j
      rw [e5 j hj]
theorem s_blockOrFreeN (d : Nat) (hc : zCo c) (h : AbsC σ c K) (hO : mOk K) {x : Int} (h1 : -2147483648 ≤ x) (h2 : x < 2147483648) (hx : ¬ (0 ≤ x ∧ x < K.1)) : zc (d + 2) mX0_blockOrFree [zR (some c), zI x] σ = some (some (zI 0), σ) := by
  rw [e_X0_blockOrFree _ _ hc]
  simp (disch := omega) only [nrm_id, zix, ↓reduceIte, if_true, if_false, true_and, and_true, false_and, and_false, not_true_eq_false, not_false_eq_true, Int.reduceAdd, Int.reduceSub, Int.reduceMul, ↓if_pos, ↓if_neg, Option.bind_some, Option.toList_some, Option.toList_none, List.append_nil, List.cons_append, List.nil_append, znat, znat1, zpm1, zcm1, zof0, zof1, zof2, zof3, zofa0, zofa1, s_isRowN _ hc h hO h1 h2 hx, b_X0_blockOrFree_5 _ _ _ hc]
theorem s_setClock (d : Nat) (hc : zCo c) (σ : zS) {v : Int} (h1 : -2147483648 ≤ v) (h2 : v < 2147483648) : zc d mX0_setClock [zR (some c), zI v] σ = if 0 ≤ v ∧ v ≤ 23 then some (some (zI 1), zup σ c 1 v) else some (some (zI 0), σ) := by
  rw [e_X0_setClock _ _ hc]
  by_cases q : 0 ≤ v ∧ v ≤ 23
  · simp (disch := omega) only [nrm_id, zix, ↓reduceIte, if_true, if_false, true_and, and_true, false_and, and_false, not_true_eq_false, not_false_eq_true, Int.reduceAdd, Int.reduceSub, Int.reduceMul, ↓if_pos, ↓if_neg, Option.bind_some, Option.toList_some, Option.toList_none, List.append_nil, List.cons_append, List.nil_append, znat, znat1, zpm1, zcm1, zof0, zof1, zof2, zof3, zofa0, zofa1, q]
  · by_cases q1 : v < 0 <;> simp (disch := omega) only [nrm_id, zix, ↓reduceIte, if_true, if_false, true_and, and_true, false_and, and_false, not_true_eq_false, not_false_eq_true, Int.reduceAdd, Int.reduceSub, Int.reduceMul, ↓if_pos, ↓if_neg, Option.bind_some, Option.toList_some, Option.toList_none, List.append_nil, List.cons_append, List.nil_append, znat, znat1, zpm1, zcm1, zof0, zof1, zof2, zof3, zofa0, zofa1]
theorem AbsC_clock (h : AbsC σ c K) (v : Int) : AbsC (zup σ c 1 v) c (K.1, v, K.2.2) := by
  obtain ⟨h0, h1, e1, e2, e3, e4, e5⟩ := h
  refine ⟨?_, ?_, ?_, ?_, ?_, ?_, ?_⟩
  · rw [zup_ix (by omega)]; exact h0
  · rw [zup_at]
  · intro j hj; rw [zup_ne (by omega)]; exact e1 j hj
  · intro j hj; rw [zup_ne (by omega)]; exact e2 j hj
  · intro j hj; rw [zup_ne (by omega)]; exact e3 j hj
  · rw [zup_ix (by omega)]; exact e4
  · rw [zup_ix (by omega)]; exact e5
theorem s_changePlaces (d : Nat) (hc : zCo c) (h : AbsC σ c K) (hO : mOk K) {x y : Nat} (hx : x < K.1) (hy : y < K.1) (hxy : x ≠ y) : ∃ σ' : zS, zc (d + 3) mX0_changePlaces [zR (some c), zI x, zI y] σ = some (some (zI 1), σ') ∧ AbsC σ' c (mchg K x y) ∧ σ' c 2 = σ c 2 ∧ zFr [c + 1, c + 2, c + 3] σ σ' := by
  have hp := hO.1
  obtain ⟨h0, h1, e1, e2, e3, e4, e5⟩ := h
  have h : AbsC σ c K := ⟨h0, h1, e1, e2, e3, e4, e5⟩
  have k1 := e1 x (by omega)
  have k2 := e1 y (by omega)
  have f1 := e2 x (by omega)
  have f2 := e2 y (by omega)
  have hA : AbsC (zup (zup (zup (zup σ (c + 1) x (K.2.2.1 y)) (c + 2) x (K.2.2.2.1 y)) (c + 1) y (K.2.2.1 x)) (c + 2) y (K.2.2.2.1 x)) c (K.1, K.2.1, msw K.2.2.1 x y, msw K.2.2.2.1 x y, K.2.2.2.2.1, K.2.2.2.2.2) := by
    refine ⟨?_, ?_, ?_, ?_, ?_, ?_, ?_⟩
    · simp (disch := omega) only [nrm_id, zix, ↓reduceIte, if_true, if_false, true_and, and_true, false_and, and_false, not_true_eq_false, not_false_eq_true, Int.reduceAdd, Int.reduceSub, Int.reduceMul, ↓if_pos, ↓if_neg, Option.bind_some, Option.toList_some, Option.toList_none, List.append_nil, List.cons_append, List.nil_append, znat, znat1, zpm1, zcm1, zof0, zof1, zof2, zof3, zofa0, zofa1, zup_ne, h0]
    · simp (disch := omega) only [nrm_id, zix, ↓reduceIte, if_true, if_false, true_and, and_true, false_and, and_false, not_true_eq_false, not_false_eq_true, Int.reduceAdd, Int.reduceSub, Int.reduceMul, ↓if_pos, ↓if_neg, Option.bind_some, Option.toList_some, Option.toList_none, List.append_nil, List.cons_append, List.nil_append, znat, znat1, zpm1, zcm1, zof0, zof1, zof2, zof3, zofa0, zofa1, zup_ne, h1]
    · intro j hj
      show _ = msw K.2.2.1 x y j
      unfold msw
      rw [zup_ne (by omega)]
      by_cases q : j = y
      · subst q; rw [zup_at, if_neg (Ne.symm hxy), if_pos rfl]
      · rw [zup_ix q, zup_ne (by omega)]
        by_cases q2 : j = x
        · subst q2; rw [zup_at, if_pos rfl]
        · rw [zup_ix q2, if_neg q2, if_neg q]; exact e1 j hj
    · intro j hj
      show _ = msw K.2.2.2.1 x y j
      unfold msw
      by_cases q : j = y
      · subst q; rw [zup_at, if_neg (Ne.symm hxy), if_pos rfl]
      · rw [zup_ix q, zup_ne (by omega)]
        by_cases q2 : j = x
        · subst q2; rw [zup_at, if_pos rfl]
        · rw [zup_ix q2, if_neg q2, if_neg q, zup_ne (by omega)]; exact e2 j hj
    · intro j hj; simp (disch := omega) only [nrm_id, zix, ↓reduceIte, if_true, if_false, true_and, and_true, false_and, and_false, not_true_eq_false, not_false_eq_true, Int.reduceAdd, Int.reduceSub, Int.reduceMul, ↓if_pos, ↓if_neg, Option.bind_some, Option.toList_some, Option.toList_none, List.append_nil, List.cons_append, List.nil_append, znat, znat1, zpm1, zcm1, zof0, zof1, zof2, zof3, zofa0, zofa1, zup_ne]; exact e3 j hj
    · simp (disch := omega) only [nrm_id, zix, ↓reduceIte, if_true, if_false, true_and, and_true, false_and, and_false, not_true_eq_false, not_false_eq_true, Int.reduceAdd, Int.reduceSub, Int.reduceMul, ↓if_pos, ↓if_neg, Option.bind_some, Option.toList_some, Option.toList_none, List.append_nil, List.cons_append, List.nil_append, znat, znat1, zpm1, zcm1, zof0, zof1, zof2, zof3, zofa0, zofa1, zup_ne]; exact e4
    · simp (disch := omega) only [nrm_id, zix, ↓reduceIte, if_true, if_false, true_and, and_true, false_and, and_false, not_true_eq_false, not_false_eq_true, Int.reduceAdd, Int.reduceSub, Int.reduceMul, ↓if_pos, ↓if_neg, Option.bind_some, Option.toList_some, Option.toList_none, List.append_nil, List.cons_append, List.nil_append, znat, znat1, zpm1, zcm1, zof0, zof1, zof2, zof3, zofa0, zofa1, zup_ne]; exact e5
  obtain ⟨σ', g1, g2, g3⟩ := s_sitUp (d + 1) hc hA
  refine ⟨σ', ?_, g2, ?_, zFr_tr (zFr_tr (zFr_tr (zFr_tr (zFr_up (by simp)) (zFr_up (by simp))) (zFr_up (by simp))) (zFr_up (by simp))) (zFr_mono g3 (by simp))⟩
  · rw [e_X0_changePlaces _ _ _ hc]
    simp (disch := omega) only [nrm_id, zix, ↓reduceIte, if_true, if_false, true_and, and_true, false_and, and_false, not_true_eq_false, not_false_eq_true, Int.reduceAdd, Int.reduceSub, Int.reduceMul, ↓if_pos, ↓if_neg, Option.bind_some, Option.toList_some, Option.toList_none, List.append_nil, List.cons_append, List.nil_append, znat, znat1, zpm1, zcm1, zof0, zof1, zof2, zof3, zofa0, zofa1, s_isRowY _ hc h hO hx, s_isRowY _ hc h hO hy, b_X0_changePlaces_5 _ _ _ _ hc, b_X0_changePlaces_13 _ _ _ _ hc, k1, k2, f1, f2, zup_ne, g1, b_X0_changePlaces_81 _ _ _ _ _ hc]
  · rw [g3 c (by simp), zup_ne (by omega), zup_ne (by omega), zup_ne (by omega), zup_ne (by omega)]
theorem s_changePlacesN (d : Nat) (hc : zCo c) (h : AbsC σ c K) (hO : mOk K) {x y : Int} (hx1 : -2147483648 ≤ x) (hx2 : x < 2147483648) (hy1 : -2147483648 ≤ y) (hy2 : y < 2147483648) (hn : ¬ ((0 ≤ x ∧ x < K.1) ∧ (0 ≤ y ∧ y < K.1) ∧ x ≠ y)) : zc (d + 3) mX0_changePlaces [zR (some c), zI x, zI y] σ = some (some (zI 0), σ) := by
  have hp := hO.1
  rw [e_X0_changePlaces _ _ _ hc]
  by_cases q : 0 ≤ x ∧ x < K.1
  · by_cases q2 : 0 ≤ y ∧ y < K.1
    · simp (disch := omega) only [nrm_id, zix, ↓reduceIte, if_true, if_false, true_and, and_true, false_and, and_false, not_true_eq_false, not_false_eq_true, Int.reduceAdd, Int.reduceSub, Int.reduceMul, ↓if_pos, ↓if_neg, Option.bind_some, Option.toList_some, Option.toList_none, List.append_nil, List.cons_append, List.nil_append, znat, znat1, zpm1, zcm1, zof0, zof1, zof2, zof3, zofa0, zofa1, s_isRow _ hc h hO, b_X0_changePlaces_5 _ _ _ _ hc, b_X0_changePlaces_13 _ _ _ _ hc]
    · simp (disch := omega) only [nrm_id, zix, ↓reduceIte, if_true, if_false, true_and, and_true, false_and, and_false, not_true_eq_false, not_false_eq_true, Int.reduceAdd, Int.reduceSub, Int.reduceMul, ↓if_pos, ↓if_neg, Option.bind_some, Option.toList_some, Option.toList_none, List.append_nil, List.cons_append, List.nil_append, znat, znat1, zpm1, zcm1, zof0, zof1, zof2, zof3, zofa0, zofa1, s_isRow _ hc h hO, b_X0_changePlaces_5 _ _ _ _ hc, b_X0_changePlaces_13 _ _ _ _ hc]
  · simp (disch := omega) only [nrm_id, zix, ↓reduceIte, if_true, if_false, true_and, and_true, false_and, and_false, not_true_eq_false, not_false_eq_true, Int.reduceAdd, Int.reduceSub, Int.reduceMul, ↓if_pos, ↓if_neg, Option.bind_some, Option.toList_some, Option.toList_none, List.append_nil, List.cons_append, List.nil_append, znat, znat1, zpm1, zcm1, zof0, zof1, zof2, zof3, zofa0, zofa1, s_isRowN _ hc h hO hx1 hx2 q, b_X0_changePlaces_5 _ _ _ _ hc]
theorem s_travel (d : Nat) (hc : zCo c) (h : AbsC σ c K) (hO : mOk K) {T : Int} (hT : σ c 2 = T) (hT0 : 0 ≤ T ∧ T ≤ 999) {n : Nat} (hn : 1 ≤ n ∧ n ≤ 60) (hTn : T + n ≤ 999) : ∃ σ' : zS, zc (d + 4) mX0_travel [zR (some c), zI n] σ = some (some (zI 1), σ') ∧ AbsC σ' c (mrounds n K) ∧ σ' c 2 = T + n ∧ zFr [c, c + 3, c + 4] σ σ' := by
  have hA : AbsC (zup σ c 2 (T + n)) c K := by
    obtain ⟨h0, h1, e1, e2, e3, e4, e5⟩ := h
    exact ⟨by rw [zup_ix (by omega)]; exact h0, by rw [zup_ix (by omega)]; exact h1, fun j hj => by rw [zup_ne (by omega)]; exact e1 j hj, fun j hj => by rw [zup_ne (by omega)]; exact e2 j hj, fun j hj => by rw [zup_ne (by omega)]; exact e3 j hj, by rw [zup_ix (by omega)]; exact e4, by rw [zup_ix (by omega)]; exact e5⟩
  obtain ⟨σ', g1, g2, g3⟩ := s_goOn d hc hA hO (n := n) (by omega)
  refine ⟨σ', ?_, g2, by rw [g3 c (by simp), zup_at], zFr_tr (zFr_up (by simp)) (zFr_mono g3 (by simp))⟩
  rw [e_X0_travel _ _ hc, hT]
  simp (disch := omega) only [nrm_id, zix, ↓reduceIte, if_true, if_false, true_and, and_true, false_and, and_false, not_true_eq_false, not_false_eq_true, Int.reduceAdd, Int.reduceSub, Int.reduceMul, ↓if_pos, ↓if_neg, Option.bind_some, Option.toList_some, Option.toList_none, List.append_nil, List.cons_append, List.nil_append, znat, znat1, zpm1, zcm1, zof0, zof1, zof2, zof3, zofa0, zofa1, g1, b_X0_travel_40 _ _ _ hc]
theorem s_travelN (d : Nat) (hc : zCo c) {T : Int} (hT : σ c 2 = T) (hT0 : 0 ≤ T ∧ T ≤ 999) {n : Int} (h1 : -2147483648 ≤ n) (h2 : n < 2147483648) (hn : ¬ (1 ≤ n ∧ n ≤ 60 ∧ T + n ≤ 999)) : zc (d + 4) mX0_travel [zR (some c), zI n] σ = some (some (zI 0), σ) := by
  rw [e_X0_travel _ _ hc, hT]
  by_cases q : n < 1
  · simp (disch := omega) only [nrm_id, zix, ↓reduceIte, if_true, if_false, true_and, and_true, false_and, and_false, not_true_eq_false, not_false_eq_true, Int.reduceAdd, Int.reduceSub, Int.reduceMul, ↓if_pos, ↓if_neg, Option.bind_some, Option.toList_some, Option.toList_none, List.append_nil, List.cons_append, List.nil_append, znat, znat1, zpm1, zcm1, zof0, zof1, zof2, zof3, zofa0, zofa1, q]
  · by_cases q2 : 60 < n
    · simp (disch := omega) only [nrm_id, zix, ↓reduceIte, if_true, if_false, true_and, and_true, false_and, and_false, not_true_eq_false, not_false_eq_true, Int.reduceAdd, Int.reduceSub, Int.reduceMul, ↓if_pos, ↓if_neg, Option.bind_some, Option.toList_some, Option.toList_none, List.append_nil, List.cons_append, List.nil_append, znat, znat1, zpm1, zcm1, zof0, zof1, zof2, zof3, zofa0, zofa1, q2]
    · simp (disch := omega) only [nrm_id, zix, ↓reduceIte, if_true, if_false, true_and, and_true, false_and, and_false, not_true_eq_false, not_false_eq_true, Int.reduceAdd, Int.reduceSub, Int.reduceMul, ↓if_pos, ↓if_neg, Option.bind_some, Option.toList_some, Option.toList_none, List.append_nil, List.cons_append, List.nil_append, znat, znat1, zpm1, zcm1, zof0, zof1, zof2, zof3, zofa0, zofa1]
theorem s_sitDown (d : Nat) (hc : zCo c) (h : AbsC σ c K) (hO : mOk K) {k f : Int} (hk : 0 ≤ k ∧ k ≤ 7) (hf : 0 ≤ f ∧ f ≤ 9) (hp : K.1 < 8) : ∃ σ' : zS, zc d mX0_sitDown [zR (some c), zI k, zI f] σ = some (some (zI 1), σ') ∧ AbsC σ' c (madd K k f) ∧ σ' c 2 = σ c 2 ∧ zFr [c, c + 1, c + 2, c + 3] σ σ' := by
  obtain ⟨h0, h1, e1, e2, e3, e4, e5⟩ := h
  refine ⟨zup (zup (zup (zup σ (c + 1) K.1 k) (c + 2) K.1 f) (c + 3) K.1 0) c 0 ((K.1 : Int) + 1), ?_, ⟨?_, ?_, ?_, ?_, ?_, ?_, ?_⟩, ?_, zFr_tr (zFr_tr (zFr_tr (zFr_up (by simp)) (zFr_up (by simp))) (zFr_up (by simp))) (zFr_up (by simp))⟩
  · rw [e_X0_sitDown _ _ _ hc]
    simp (disch := omega) only [nrm_id, zix, ↓reduceIte, if_true, if_false, true_and, and_true, false_and, and_false, not_true_eq_false, not_false_eq_true, Int.reduceAdd, Int.reduceSub, Int.reduceMul, ↓if_pos, ↓if_neg, Option.bind_some, Option.toList_some, Option.toList_none, List.append_nil, List.cons_append, List.nil_append, znat, znat1, zpm1, zcm1, zof0, zof1, zof2, zof3, zofa0, zofa1, h0, zup_ne]
  · rw [zup_at]; rfl
  · simp (disch := omega) only [nrm_id, zix, ↓reduceIte, if_true, if_false, true_and, and_true, false_and, and_false, not_true_eq_false, not_false_eq_true, Int.reduceAdd, Int.reduceSub, Int.reduceMul, ↓if_pos, ↓if_neg, Option.bind_some, Option.toList_some, Option.toList_none, List.append_nil, List.cons_append, List.nil_append, znat, znat1, zpm1, zcm1, zof0, zof1, zof2, zof3, zofa0, zofa1, zup_ne, zup_ix, h1]
  · intro j hj
    show _ = if j = K.1 then k else K.2.2.1 j
    rw [zup_ne (by omega), zup_ne (by omega), zup_ne (by omega)]
    by_cases q : j = K.1
    · subst q; rw [zup_at, if_pos rfl]
    · rw [zup_ix q, if_neg q]; exact e1 j hj
  · intro j hj
    show _ = if j = K.1 then f else K.2.2.2.1 j
    rw [zup_ne (by omega), zup_ne (by omega)]
    by_cases q : j = K.1
    · subst q; rw [zup_at, if_pos rfl]
    · rw [zup_ix q, if_neg q, zup_ne (by omega)]; exact e2 j hj
  · intro j hj
    show _ = if j = K.1 then 0 else K.2.2.2.2.1 j
    rw [zup_ne (by omega)]
    by_cases q : j = K.1
    · subst q; rw [zup_at, if_pos rfl]
    · rw [zup_ix q, if_neg q, zup_ne (by omega), zup_ne (by omega)]; exact e3 j hj
  · simp (disch := omega) only [nrm_id, zix, ↓reduceIte, if_true, if_false, true_and, and_true, false_and, and_false, not_true_eq_false, not_false_eq_true, Int.reduceAdd, Int.reduceSub, Int.reduceMul, ↓if_pos, ↓if_neg, Option.bind_some, Option.toList_some, Option.toList_none, List.append_nil, List.cons_append, List.nil_append, znat, znat1, zpm1, zcm1, zof0, zof1, zof2, zof3, zofa0, zofa1, zup_ne, zup_ix]; exact e4
  · simp (disch := omega) only [nrm_id, zix, ↓reduceIte, if_true, if_false, true_and, and_true, false_and, and_false, not_true_eq_false, not_false_eq_true, Int.reduceAdd, Int.reduceSub, Int.reduceMul, ↓if_pos, ↓if_neg, Option.bind_some, Option.toList_some, Option.toList_none, List.append_nil, List.cons_append, List.nil_append, znat, znat1, zpm1, zcm1, zof0, zof1, zof2, zof3, zofa0, zofa1, zup_ne, zup_ix]; exact e5
  · simp (disch := omega) only [nrm_id, zix, ↓reduceIte, if_true, if_false, true_and, and_true, false_and, and_false, not_true_eq_false, not_false_eq_true, Int.reduceAdd, Int.reduceSub, Int.reduceMul, ↓if_pos, ↓if_neg, Option.bind_some, Option.toList_some, Option.toList_none, List.append_nil, List.cons_append, List.nil_append, znat, znat1, zpm1, zcm1, zof0, zof1, zof2, zof3, zofa0, zofa1, zup_ne, zup_ix]
theorem s_sitDownN (d : Nat) (hc : zCo c) (h : AbsC σ c K) (hO : mOk K) {k f : Int} (hk : -2147483648 ≤ k ∧ k < 2147483648) (hf : -2147483648 ≤ f ∧ f < 2147483648) (hn : ¬ (K.1 < 8 ∧ (0 ≤ k ∧ k ≤ 7) ∧ 0 ≤ f ∧ f ≤ 9)) : zc d mX0_sitDown [zR (some c), zI k, zI f] σ = some (some (zI 0), σ) := by
  have hp := hO.1
  rw [e_X0_sitDown _ _ _ hc, h.1]
  by_cases q : 8 ≤ K.1
  · simp (disch := omega) only [nrm_id, zix, ↓reduceIte, if_true, if_false, true_and, and_true, false_and, and_false, not_true_eq_false, not_false_eq_true, Int.reduceAdd, Int.reduceSub, Int.reduceMul, ↓if_pos, ↓if_neg, Option.bind_some, Option.toList_some, Option.toList_none, List.append_nil, List.cons_append, List.nil_append, znat, znat1, zpm1, zcm1, zof0, zof1, zof2, zof3, zofa0, zofa1, q]
  · by_cases q1 : k < 0
    · simp (disch := omega) only [nrm_id, zix, ↓reduceIte, if_true, if_false, true_and, and_true, false_and, and_false, not_true_eq_false, not_false_eq_true, Int.reduceAdd, Int.reduceSub, Int.reduceMul, ↓if_pos, ↓if_neg, Option.bind_some, Option.toList_some, Option.toList_none, List.append_nil, List.cons_append, List.nil_append, znat, znat1, zpm1, zcm1, zof0, zof1, zof2, zof3, zofa0, zofa1, q1]
    · by_cases q2 : 8 ≤ k
      · simp (disch := omega) only [nrm_id, zix, ↓reduceIte, if_true, if_false, true_and, and_true, false_and, and_false, not_true_eq_false, not_false_eq_true, Int.reduceAdd, Int.reduceSub, Int.reduceMul, ↓if_pos, ↓if_neg, Option.bind_some, Option.toList_some, Option.toList_none, List.append_nil, List.cons_append, List.nil_append, znat, znat1, zpm1, zcm1, zof0, zof1, zof2, zof3, zofa0, zofa1, q2]
      · by_cases q3 : f < 0
        · simp (disch := omega) only [nrm_id, zix, ↓reduceIte, if_true, if_false, true_and, and_true, false_and, and_false, not_true_eq_false, not_false_eq_true, Int.reduceAdd, Int.reduceSub, Int.reduceMul, ↓if_pos, ↓if_neg, Option.bind_some, Option.toList_some, Option.toList_none, List.append_nil, List.cons_append, List.nil_append, znat, znat1, zpm1, zcm1, zof0, zof1, zof2, zof3, zofa0, zofa1, q3]
        · simp (disch := omega) only [nrm_id, zix, ↓reduceIte, if_true, if_false, true_and, and_true, false_and, and_false, not_true_eq_false, not_false_eq_true, Int.reduceAdd, Int.reduceSub, Int.reduceMul, ↓if_pos, ↓if_neg, Option.bind_some, Option.toList_some, Option.toList_none, List.append_nil, List.cons_append, List.nil_append, znat, znat1, zpm1, zcm1, zof0, zof1, zof2, zof3, zofa0, zofa1]
end COPS
