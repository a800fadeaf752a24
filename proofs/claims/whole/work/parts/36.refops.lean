def mEq (K K' : zK) : Prop := K.1 = K'.1 ∧ K.2.1 = K'.2.1 ∧ (∀ r, r < 8 → K.2.2.1 r = K'.2.2.1 r) ∧ (∀ r, r < 8 → K.2.2.2.1 r = K'.2.2.2.1 r) ∧ (∀ r, r < 8 → K.2.2.2.2.1 r = K'.2.2.2.2.1 r) ∧ ∀ r, r < 8 → K.2.2.2.2.2 r = K'.2.2.2.2.2 r
theorem AbsC_eq {σ : zS} {c : Nat} {K K' : zK} (h : AbsC σ c K) (e : mEq K K') : AbsC σ c K' := by
  obtain ⟨h0, h1, e1, e2, e3, e4, e5⟩ := h
  obtain ⟨q0, q1, q2, q3, q4, q5⟩ := e
  exact ⟨by rw [h0, q0], by rw [h1, q1], fun r hr => (e1 r hr).trans (q2 r hr), fun r hr => (e2 r hr).trans (q3 r hr), fun r hr => (e3 r hr).trans (q4 r hr), e4, fun r hr => (e5 r hr).trans (q5 r hr)⟩
theorem AbsM_eq {σ : zS} {c : Nat} {K K' : zK} (h : AbsM σ c K) (e : mEq K K') : AbsM σ c K' := by
  obtain ⟨h0, h1, e1, e2, e3, e5⟩ := h
  obtain ⟨q0, q1, q2, q3, q4, q5⟩ := e
  exact ⟨by rw [h0, q0], by rw [h1, q1], fun r hr => (e1 r hr).trans (q2 r hr), fun r hr => (e2 r hr).trans (q3 r hr), fun r hr => (e3 r hr).trans (q4 r hr), fun r hr => (e5 r hr).trans (q5 r hr)⟩
theorem AbsM_blk {σ : zS} {a : Nat} {K : zK} (h : AbsM σ a K) {r : Nat} {v : Int} : AbsM (zup σ a (6 + 4 * r) v) a (K.1, K.2.1, K.2.2.1, K.2.2.2.1, K.2.2.2.2.1, fun j => if j = r then v else K.2.2.2.2.2 j) := by
  obtain ⟨e0, b, e1, e2, e3, e5⟩ := h
  refine ⟨?_, ?_, ?_, ?_, ?_, ?_⟩
  · rw [zup_ix (by omega)]; exact e0
  · rw [zup_ix (by omega)]; exact b
  · intro j hj; rw [zup_ix (by omega)]; exact e1 j hj
  · intro j hj; rw [zup_ix (by omega)]; exact e2 j hj
  · intro j hj; rw [zup_ix (by omega)]; exact e3 j hj
  · intro j hj
    by_cases e : j = r
    · subst e; rw [zup_at]; exact (if_pos rfl).symm
    · rw [zup_ix (by omega), e5 j hj]; exact (if_neg e).symm
theorem AbsM_kind {σ : zS} {a : Nat} {K : zK} (h : AbsM σ a K) {r : Nat} {v : Int} : AbsM (zup σ a (3 + 4 * r) v) a (K.1, K.2.1, (fun j => if j = r then v else K.2.2.1 j), K.2.2.2.1, K.2.2.2.2.1, K.2.2.2.2.2) := by
  obtain ⟨e0, b, e1, e2, e3, e5⟩ := h
  refine ⟨?_, ?_, ?_, ?_, ?_, ?_⟩
  · rw [zup_ix (by omega)]; exact e0
  · rw [zup_ix (by omega)]; exact b
  · intro j hj
    by_cases e : j = r
    · subst e; rw [zup_at]; exact (if_pos rfl).symm
    · rw [zup_ix (by omega), e1 j hj]; exact (if_neg e).symm
  · intro j hj; rw [zup_ix (by omega)]; exact e2 j hj
  · intro j hj; rw [zup_ix (by omega)]; exact e3 j hj
  · intro j hj; rw [zup_ix (by omega)]; exact e5 j hj
theorem AbsM_fig {σ : zS} {a : Nat} {K : zK} (h : AbsM σ a K) {r : Nat} {v : Int} : AbsM (zup σ a (4 + 4 * r) v) a (K.1, K.2.1, K.2.2.1, (fun j => if j = r then v else K.2.2.2.1 j), K.2.2.2.2.1, K.2.2.2.2.2) := by
  obtain ⟨e0, b, e1, e2, e3, e5⟩ := h
  refine ⟨?_, ?_, ?_, ?_, ?_, ?_⟩
  · rw [zup_ix (by omega)]; exact e0
  · rw [zup_ix (by omega)]; exact b
  · intro j hj; rw [zup_ix (by omega)]; exact e1 j hj
  · intro j hj
    by_cases e : j = r
    · subst e; rw [zup_at]; exact (if_pos rfl).symm
    · rw [zup_ix (by omega), e2 j hj]; exact (if_neg e).symm
  · intro j hj; rw [zup_ix (by omega)]; exact e3 j hj
  · intro j hj; rw [zup_ix (by omega)]; exact e5 j hj
theorem mrtS_0 (K : zK) : mrtS K 0 = mrt K K.2.2.2.2.1 := by
  funext r
  unfold mrtS mrt
  have e : mbit 0 r = 0 := by simp [mbit]
  simp only [e, if_neg (show ¬ (0 : Int) = 1 by decide)]
section REFO
variable {a : Nat} {σ : zS} {K : zK}
theorem r_roundsOn (d : Nat) (ha : zAr a) (h : AbsM σ a K) (hO : mOk K) {n : Nat} (hn : n < 1000) : ∃ σ' : zS, zc (d + 3) mX3_roundsOn [zR (some 36), zR (some a), zI n] σ = some (none, σ') ∧ AbsM σ' a (mrounds n K) ∧ σ' a 2 = σ a 2 + n ∧ zFr [a, 41] σ σ' := by
  have lp : ∀ (m j : Nat) (K' : zK) (τ : zS), j + m = n → mOk K' → AbsM τ a K' → ∃ σ' : zS, zq (d + 3) mX3_roundsOn 2 [some (zR (some 36)), some (zR (some a)), some (zI n), some (zI j)] [] τ = some (none, σ') ∧ AbsM σ' a (mrounds m K') ∧ σ' a 2 = τ a 2 + m ∧ zFr [a, 41] τ σ' := by
    intro m
    induction m with
    | zero =>
      intro j K' τ hj hO' hA
      refine ⟨τ, ?_, hA, by simp, zFr_rf _ _⟩
      rw [b_X3_roundsOn_2 _ _ _ (zAr_k ha) (zAr_n ha), show j = n from by omega]
      simp (disch := omega) only [nrm_id, zix, ↓reduceIte, if_true, if_false, true_and, and_true, false_and, and_false, not_true_eq_false, not_false_eq_true, Int.reduceAdd, Int.reduceSub, Int.reduceMul, ↓if_pos, ↓if_neg, Option.bind_some, Option.toList_some, Option.toList_none, List.append_nil, List.cons_append, List.nil_append, znat, znat1, zpm1, zcm1, zof0, zof1, zof2, zof3, zofa0, zofa1]
    | succ m ih =>
      intro j K' τ hj hO' hA
      obtain ⟨σ1, g1, g2, g3, g4⟩ := r_round d ha hA hO' (B := 0) (by omega)
      rw [mrtS_0] at g2
      obtain ⟨σ2, k1, k2, k3, k4⟩ := ih (j + 1) (mround K') σ1 (by omega) (mround_ok hO') g2
      refine ⟨σ2, ?_, k2, by rw [k3, g3]; push_cast; omega, zFr_tr g4 k4⟩
      rw [b_X3_roundsOn_2 _ _ _ (zAr_k ha) (zAr_n ha)]
      simp (disch := omega) only [nrm_id, zix, ↓reduceIte, if_true, if_false, true_and, and_true, false_and, and_false, not_true_eq_false, not_false_eq_true, Int.reduceAdd, Int.reduceSub, Int.reduceMul, ↓if_pos, ↓if_neg, Option.bind_some, Option.toList_some, Option.toList_none, List.append_nil, List.cons_append, List.nil_append, znat, znat1, zpm1, zcm1, zof0, zof1, zof2, zof3, zofa0, zofa1, g1, b_X3_roundsOn_13 _ _ _ (zAr_k ha) (zAr_n ha)]
      exact k1
  obtain ⟨σ', g1, g2, g3, g4⟩ := lp n 0 K σ (by omega) hO h
  exact ⟨σ', by rw [e_X3_roundsOn _ _ (zAr_k ha) (zAr_n ha)]; exact g1, g2, g3, g4⟩
theorem r_upright (d : Nat) (ha : zAr a) (h : AbsM σ a K) : ∃ σ' : zS, zc (d + 1) mX3_upright [zR (some a)] σ = some (none, σ') ∧ AbsM σ' a (Kst K (fun _ => 0)) ∧ σ' a 2 = σ a 2 ∧ zFr [a] σ σ' := by
  have lp : ∀ (m j : Nat) (τ : zS), j + m = 8 → AbsM τ a (Kst K (fun r => if r < j then 0 else K.2.2.2.2.1 r)) → ∃ σ' : zS, zq (d + 1) mX3_upright 2 [some (zR (some a)), some (zI j)] [] τ = some (none, σ') ∧ AbsM σ' a (Kst K (fun _ => 0)) ∧ σ' a 2 = τ a 2 ∧ zFr [a] τ σ' := by
    intro m
    induction m with
    | zero =>
      intro j τ hj hA
      refine ⟨τ, ?_, AbsM_cong2 hA (fun r hr => if_pos (by omega)), rfl, zFr_rf _ _⟩
      rw [b_X3_upright_2 _ _ (zAr_k ha) (zAr_n ha)]
      simp (disch := omega) only [nrm_id, zix, ↓reduceIte, if_true, if_false, true_and, and_true, false_and, and_false, not_true_eq_false, not_false_eq_true, Int.reduceAdd, Int.reduceSub, Int.reduceMul, ↓if_pos, ↓if_neg, Option.bind_some, Option.toList_some, Option.toList_none, List.append_nil, List.cons_append, List.nil_append, znat, znat1, zpm1, zcm1, zof0, zof1, zof2, zof3, zofa0, zofa1]
    | succ m ih =>
      intro j τ hj hA
      rw [b_X3_upright_2 _ _ (zAr_k ha) (zAr_n ha)]
      simp (disch := omega) only [nrm_id, zix, ↓reduceIte, if_true, if_false, true_and, and_true, false_and, and_false, not_true_eq_false, not_false_eq_true, Int.reduceAdd, Int.reduceSub, Int.reduceMul, ↓if_pos, ↓if_neg, Option.bind_some, Option.toList_some, Option.toList_none, List.append_nil, List.cons_append, List.nil_append, znat, znat1, zpm1, zcm1, zof0, zof1, zof2, zof3, zofa0, zofa1, r_of, b_X3_upright_14 _ _ _ (zAr_k ha) (zAr_n ha)]
      obtain ⟨σ', g1, g2, g3, g4⟩ := ih (j + 1) (zup τ a (5 + 4 * j) 0) (by omega) (AbsM_cong2 (AbsM_tip hA) (fun r hr => by
        show (if r = j then 0 else if r < j then 0 else K.2.2.2.2.1 r) = if r < j + 1 then 0 else K.2.2.2.2.1 r
        by_cases e : r = j
        · subst e; rw [if_pos rfl, if_pos (by omega)]
        · rw [if_neg e]
          by_cases e' : r < j
          · rw [if_pos e', if_pos (by omega)]
          · rw [if_neg e', if_neg (by omega)]))
      exact ⟨σ', g1, g2, by rw [g3, zup_ix (by omega)], zFr_tr (zFr_up (by simp)) g4⟩
  obtain ⟨σ', g1, g2, g3, g4⟩ := lp 8 0 σ rfl (AbsM_cong (K := K) h (fun r hr => by simp))
  exact ⟨σ', by rw [e_X3_upright _ (zAr_k ha) (zAr_n ha)]; exact g1, g2, g3, g4⟩
theorem r_blocksIn (d : Nat) (ha : zAr a) (h : AbsM σ a K) {r : Nat} (hr : r < 8) : ∃ σ' : zS, zc (d + 1) mX3_blocksIn [zR (some a), zI r] σ = some (none, σ') ∧ AbsM σ' a (mblk K ((2 ^ r : Nat) : Int)) ∧ σ' a 2 = σ a 2 ∧ zFr [a] σ σ' := by
  have h1 := AbsM_blk h (r := r) (v := 1)
  have h2 := AbsM_tip h1 (r := r) (v := 0)
  refine ⟨zup (zup σ a (6 + 4 * r) 1) a (5 + 4 * r) 0, ?_, AbsM_eq h2 ⟨rfl, rfl, fun _ _ => rfl, fun _ _ => rfl, fun j hj => ?_, fun j hj => ?_⟩, by rw [zup_ix (by omega), zup_ix (by omega)], zFr_tr (zFr_up (by simp)) (zFr_up (by simp))⟩
  · rw [e_X3_blocksIn _ _ (zAr_k ha) (zAr_n ha)]
    simp (disch := omega) only [nrm_id, zix, ↓reduceIte, if_true, if_false, true_and, and_true, false_and, and_false, not_true_eq_false, not_false_eq_true, Int.reduceAdd, Int.reduceSub, Int.reduceMul, ↓if_pos, ↓if_neg, Option.bind_some, Option.toList_some, Option.toList_none, List.append_nil, List.cons_append, List.nil_append, znat, znat1, zpm1, zcm1, zof0, zof1, zof2, zof3, zofa0, zofa1, r_of, b_X3_blocksIn_6 _ _ _ (zAr_k ha) (zAr_n ha), b_X3_blocksIn_14 _ _ _ (zAr_k ha) (zAr_n ha)]
  · show (if j = r then 0 else K.2.2.2.2.1 j) = if mbit ((2 ^ r : Nat) : Int) j = 1 then 0 else K.2.2.2.2.1 j
    rw [mbit_pow]
    by_cases e : j = r
    · subst e; simp
    · rw [if_neg e, if_neg (by rw [if_neg (Ne.symm e)]; decide)]
  · show (if j = r then 1 else K.2.2.2.2.2 j) = if mbit ((2 ^ r : Nat) : Int) j = 1 then 1 else K.2.2.2.2.2 j
    rw [mbit_pow]
    by_cases e : j = r
    · subst e; simp
    · rw [if_neg e, if_neg (by rw [if_neg (Ne.symm e)]; decide)]
/-- two places exchanged -/
def msw (f : Nat → Int) (x y : Nat) : Nat → Int := fun j => if j = x then f y else if j = y then f x else f j
abbrev mchg (K : zK) (x y : Nat) : zK := (K.1, K.2.1, msw K.2.2.1 x y, msw K.2.2.2.1 x y, fun _ => 0, K.2.2.2.2.2)
theorem msw_rng {f : Nat → Int} {x y : Nat} (hx : x < 8) (hy : y < 8) {a b : Int} (h : ∀ r, r < 8 → a ≤ f r ∧ f r ≤ b) (r : Nat) (hr : r < 8) : a ≤ msw f x y r ∧ msw f x y r ≤ b := by
  unfold msw
  split
  · exact h y hy
  · split
    · exact h x hx
    · exact h r hr
theorem mchg_ok (hO : mOk K) {x y : Nat} (hx : x < 8) (hy : y < 8) : mOk (mchg K x y) :=
  ⟨hO.1, hO.2.1, msw_rng hx hy hO.2.2.1, msw_rng hx hy hO.2.2.2.1, fun r _ => ⟨Int.le_refl _, (by decide : (0 : Int) ≤ 10)⟩, fun r hr => ⟨(hO.2.2.2.2.2 r hr).1, (hO.2.2.2.2.2 r hr).2.1, fun _ => rfl⟩⟩
theorem r_changes (d : Nat) (ha : zAr a) (h : AbsM σ a K) {x y : Nat} (hx : x < 8) (hy : y < 8) (hxy : x ≠ y) : ∃ σ' : zS, zc (d + 2) mX3_changes [zR (some a), zI x, zI y] σ = some (none, σ') ∧ AbsM σ' a (mchg K x y) ∧ σ' a 2 = σ a 2 ∧ zFr [a] σ σ' := by
  have k1 := h.2.2.1 x hx
  have k2 := h.2.2.1 y hy
  have f1 := h.2.2.2.1 x hx
  have f2 := h.2.2.2.1 y hy
  have h1 := AbsM_kind (AbsM_kind h (r := x) (v := K.2.2.1 y)) (r := y) (v := K.2.2.1 x)
  have h2 := AbsM_fig (AbsM_fig h1 (r := x) (v := K.2.2.2.1 y)) (r := y) (v := K.2.2.2.1 x)
  obtain ⟨σ', g1, g2, g3, g4⟩ := r_upright d ha h2
  have hz2 : ∀ z : Nat, z < 8 → (3 + 4 * (z : Int) + 0).toNat = 3 + 4 * z := fun z _ => by omega
  refine ⟨σ', ?_, AbsM_eq g2 ⟨rfl, rfl, fun j hj => ?_, fun j hj => ?_, fun _ _ => rfl, fun _ _ => rfl⟩, ?_, zFr_tr (zFr_tr (zFr_tr (zFr_tr (zFr_up (by simp)) (zFr_up (by simp))) (zFr_up (by simp))) (zFr_up (by simp))) g4⟩
  · rw [e_X3_changes _ _ _ (zAr_k ha) (zAr_n ha), b_X3_changes_2 _ _ _ _ (zAr_k ha) (zAr_n ha)]
    simp (disch := omega) only [nrm_id, zix, ↓reduceIte, if_true, if_false, true_and, and_true, false_and, and_false, not_true_eq_false, not_false_eq_true, Int.reduceAdd, Int.reduceSub, Int.reduceMul, ↓if_pos, ↓if_neg, Option.bind_some, Option.toList_some, Option.toList_none, List.append_nil, List.cons_append, List.nil_append, znat, znat1, zpm1, zcm1, zof0, zof1, zof2, zof3, zofa0, zofa1, r_of, b_X3_changes_13 _ _ _ _ _ (zAr_k ha) (zAr_n ha), k1, b_X3_changes_22 _ _ _ _ _ _ (zAr_k ha) (zAr_n ha), b_X3_changes_28 _ _ _ _ _ _ _ (zAr_k ha) (zAr_n ha), k2, b_X3_changes_36 _ _ _ _ _ _ (zAr_k ha) (zAr_n ha)]
    rw [b_X3_changes_2 _ _ _ _ (zAr_k ha) (zAr_n ha)]
    simp (disch := omega) only [nrm_id, zix, ↓reduceIte, if_true, if_false, true_and, and_true, false_and, and_false, not_true_eq_false, not_false_eq_true, Int.reduceAdd, Int.reduceSub, Int.reduceMul, ↓if_pos, ↓if_neg, Option.bind_some, Option.toList_some, Option.toList_none, List.append_nil, List.cons_append, List.nil_append, znat, znat1, zpm1, zcm1, zof0, zof1, zof2, zof3, zofa0, zofa1, r_of, b_X3_changes_13 _ _ _ _ _ (zAr_k ha) (zAr_n ha), zup_ix, f1, b_X3_changes_22 _ _ _ _ _ _ (zAr_k ha) (zAr_n ha), b_X3_changes_28 _ _ _ _ _ _ _ (zAr_k ha) (zAr_n ha), f2, b_X3_changes_36 _ _ _ _ _ _ (zAr_k ha) (zAr_n ha)]
    rw [b_X3_changes_2 _ _ _ _ (zAr_k ha) (zAr_n ha)]
    simp (disch := omega) only [nrm_id, zix, ↓reduceIte, if_true, if_false, true_and, and_true, false_and, and_false, not_true_eq_false, not_false_eq_true, Int.reduceAdd, Int.reduceSub, Int.reduceMul, ↓if_pos, ↓if_neg, Option.bind_some, Option.toList_some, Option.toList_none, List.append_nil, List.cons_append, List.nil_append, znat, znat1, zpm1, zcm1, zof0, zof1, zof2, zof3, zofa0, zofa1, g1, b_X3_changes_49 _ _ _ _ (zAr_k ha) (zAr_n ha)]
  · show (if j = y then K.2.2.1 x else if j = x then K.2.2.1 y else K.2.2.1 j) = msw K.2.2.1 x y j
    unfold msw
    by_cases e : j = y
    · subst e; rw [if_pos rfl, if_neg (Ne.symm hxy), if_pos rfl]
    · rw [if_neg e]
      split
      · rfl
      · rfl
  · show (if j = y then K.2.2.2.1 x else if j = x then K.2.2.2.1 y else K.2.2.2.1 j) = msw K.2.2.2.1 x y j
    unfold msw
    by_cases e : j = y
    · subst e; rw [if_pos rfl, if_neg (Ne.symm hxy), if_pos rfl]
    · rw [if_neg e]
      split
      · rfl
      · rfl
  · rw [g3, zup_ix (by omega), zup_ix (by omega), zup_ix (by omega), zup_ix (by omega)]
theorem r_takes (d : Nat) (h : AbsM σ 37 K) (hO : mOk K) {n : Nat} (hn : n < 1000) : ∃ σ' : zS, zc (d + 4) mX3_takes [zR (some 36), zI n] σ = some (none, σ') ∧ AbsM σ' 38 (mrounds n K) ∧ zFr [38, 41] σ σ' := by
  obtain ⟨σ1, a1, a2, a3⟩ := r_copies (d + 3) (a := 37) (b := 38) (Or.inl rfl) (Or.inr (Or.inl rfl)) σ
  obtain ⟨σ2, b1, b2, -, b3⟩ := r_roundsOn d (a := 38) (Or.inr (Or.inl rfl)) (AbsM_copy h a2) hO hn
  refine ⟨σ2, ?_, b2, zFr_tr (zFr_mono a3 (by simp)) b3⟩
  rw [e_X3_takes]
  simp (disch := omega) only [nrm_id, zix, ↓reduceIte, if_true, if_false, true_and, and_true, false_and, and_false, not_true_eq_false, not_false_eq_true, Int.reduceAdd, Int.reduceSub, Int.reduceMul, ↓if_pos, ↓if_neg, Option.bind_some, Option.toList_some, Option.toList_none, List.append_nil, List.cons_append, List.nil_append, znat, znat1, zpm1, zcm1, zof0, zof1, zof2, zof3, zofa0, zofa1, a1, b_X3_takes_11, b1, b_X3_takes_20]
theorem r_runIn (d : Nat) (h : AbsM σ 38 K) (hO : mOk K) {r : Nat} (hr : r ≤ K.1) : zc (d + 1) mX3_runIn [zR (some 36), zI r] σ = some (some (zI (mrun K.2.2.2.2.1 r (K.1 - r))), σ) := by
  have hp := hO.1
  have lp : ∀ (n i : Nat) (s : Nat), i + n = K.1 → s ≤ i → zq (d + 1) mX3_runIn 4 [some (zR (some 36)), none, some (zI s), some (zI i)] [] σ = some (some (zI ((s : Int) + mrun K.2.2.2.2.1 i n)), σ) := by
    intro n
    induction n with
    | zero => intro i s hi hs; rw [b_X3_runIn_4, h.1, show i = K.1 from by omega]; simp (disch := omega) only [nrm_id, zix, ↓reduceIte, if_true, if_false, true_and, and_true, false_and, and_false, not_true_eq_false, not_false_eq_true, Int.reduceAdd, Int.reduceSub, Int.reduceMul, ↓if_pos, ↓if_neg, Option.bind_some, Option.toList_some, Option.toList_none, List.append_nil, List.cons_append, List.nil_append, znat, znat1, zpm1, zcm1, zof0, zof1, zof2, zof3, zofa0, zofa1]; simp [mrun]
    | succ n ih =>
      intro i s hi hs
      have e3 := h.2.2.2.2.1 i (by omega)
      have ht := hO.2.2.2.2.1 i (by omega)
      rw [b_X3_runIn_4, h.1]
      unfold mrun
      by_cases q : K.2.2.2.2.1 i ≤ 0
      · simp (disch := omega) only [nrm_id, zix, ↓reduceIte, if_true, if_false, true_and, and_true, false_and, and_false, not_true_eq_false, not_false_eq_true, Int.reduceAdd, Int.reduceSub, Int.reduceMul, ↓if_pos, ↓if_neg, Option.bind_some, Option.toList_some, Option.toList_none, List.append_nil, List.cons_append, List.nil_append, znat, znat1, zpm1, zcm1, zof0, zof1, zof2, zof3, zofa0, zofa1, r_of, b_X3_runIn_23, e3]
        simp
      · simp (disch := omega) only [nrm_id, zix, ↓reduceIte, if_true, if_false, true_and, and_true, false_and, and_false, not_true_eq_false, not_false_eq_true, Int.reduceAdd, Int.reduceSub, Int.reduceMul, ↓if_pos, ↓if_neg, Option.bind_some, Option.toList_some, Option.toList_none, List.append_nil, List.cons_append, List.nil_append, znat, znat1, zpm1, zcm1, zof0, zof1, zof2, zof3, zofa0, zofa1, r_of, b_X3_runIn_23, e3]
        refine Eq.trans (ih (i + 1) (s + 1) (by omega) (by omega)) ?_
        congr 4
        push_cast
        omega
  rw [e_X3_runIn]
  have e := lp (K.1 - r) r 0 (by omega) (by omega)
  refine Eq.trans e ?_
  congr 4
  omega
end REFO
theorem mbit_dec10 : ∀ B : Nat, B < 256 → ∀ r : Nat, r < 10 → zand (zshr (B : Int) (r : Int)) 1 = mbit (B : Int) r := by decide +kernel
/-- how many bits -/
def mpop (S : Int) : Int := msum (mbit S) 10
theorem r_bits (d : Nat) (σ : zS) {S : Int} (h0 : 0 ≤ S) (h1 : S < 256) : zc d mX3_bits [zI S] σ = some (some (zI (mpop S)), σ) := by
  obtain ⟨B, rfl⟩ := Int.eq_ofNat_of_zero_le h0
  have lp : ∀ n i : Nat, i + n = 10 → zq d mX3_bits 4 [some (zI (B : Int)), some (zI (msum (mbit (B : Int)) i)), some (zI i)] [] σ = some (some (zI (mpop (B : Int))), σ) := by
    intro n
    induction n with
    | zero => intro i hi; rw [b_X3_bits_4, show i = 10 from by omega]; simp (disch := omega) only [nrm_id, zix, ↓reduceIte, if_true, if_false, true_and, and_true, false_and, and_false, not_true_eq_false, not_false_eq_true, Int.reduceAdd, Int.reduceSub, Int.reduceMul, ↓if_pos, ↓if_neg, Option.bind_some, Option.toList_some, Option.toList_none, List.append_nil, List.cons_append, List.nil_append, znat, znat1, zpm1, zcm1, zof0, zof1, zof2, zof3, zofa0, zofa1]; rfl
    | succ n ih =>
      intro i hi
      rw [b_X3_bits_4, mbit_dec10 B (by omega) i (by omega)]
      simp (disch := omega) only [nrm_id, zix, ↓reduceIte, if_true, if_false, true_and, and_true, false_and, and_false, not_true_eq_false, not_false_eq_true, Int.reduceAdd, Int.reduceSub, Int.reduceMul, ↓if_pos, ↓if_neg, Option.bind_some, Option.toList_some, Option.toList_none, List.append_nil, List.cons_append, List.nil_append, znat, znat1, zpm1, zcm1, zof0, zof1, zof2, zof3, zofa0, zofa1]
      exact ih (i + 1) (by omega)
  rw [e_X3_bits]
  exact lp 10 0 (by omega)
def mpopc (x0 : Int) : Int := zand (((zand (((zand (x0 - (zand (zushr x0 1) 1431655765)) 858993459) + (zand (zushr (x0 - (zand (zushr x0 1) 1431655765)) 2) 858993459)) + (zushr ((zand (x0 - (zand (zushr x0 1) 1431655765)) 858993459) + (zand (zushr (x0 - (zand (zushr x0 1) 1431655765)) 2) 858993459)) 4)) 252645135) + (zushr (zand (((zand (x0 - (zand (zushr x0 1) 1431655765)) 858993459) + (zand (zushr (x0 - (zand (zushr x0 1) 1431655765)) 2) 858993459)) + (zushr ((zand (x0 - (zand (zushr x0 1) 1431655765)) 858993459) + (zand (zushr (x0 - (zand (zushr x0 1) 1431655765)) 2) 858993459)) 4)) 252645135) 8)) + (zushr ((zand (((zand (x0 - (zand (zushr x0 1) 1431655765)) 858993459) + (zand (zushr (x0 - (zand (zushr x0 1) 1431655765)) 2) 858993459)) + (zushr ((zand (x0 - (zand (zushr x0 1) 1431655765)) 858993459) + (zand (zushr (x0 - (zand (zushr x0 1) 1431655765)) 2) 858993459)) 4)) 252645135) + (zushr (zand (((zand (x0 - (zand (zushr x0 1) 1431655765)) 858993459) + (zand (zushr (x0 - (zand (zushr x0 1) 1431655765)) 2) 858993459)) + (zushr ((zand (x0 - (zand (zushr x0 1) 1431655765)) 858993459) + (zand (zushr (x0 - (zand (zushr x0 1) 1431655765)) 2) 858993459)) 4)) 252645135) 8)) 16)) 63
theorem mpopc_dec : ∀ B : Nat, B < 256 → mpopc (B : Int) = mpop (B : Int) := by decide +kernel
theorem s_bitCount (d : Nat) (σ : zS) {S : Int} (h0 : 0 ≤ S) (h1 : S < 256) : zc d mJ6_bitCount_0f7a4 [zI S] σ = some (some (zI (mpop S)), σ) := by
  obtain ⟨B, rfl⟩ := Int.eq_ofNat_of_zero_le h0
  rw [e_J6_bitCount_0f7a4, ← mpopc_dec B (by omega)]
  rfl
