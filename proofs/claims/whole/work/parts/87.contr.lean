/-! what throwFailure and element give or throw -/
theorem zY_some {d : Nat} {k : zM} {X : zX} {stp : Nat → Bool} {pc : Nat} {L : zL} {S : List zV} {σ : zS} {q : zQ} (h : zY d k X stp some pc L S σ = some q) : zD d k X stp pc L S σ = some q := by
  unfold zY at h
  cases hz : zD d k X stp pc L S σ with
  | none => rw [hz] at h; cases h
  | some r => rw [hz] at h; exact h
def mFail (k f : Int) : Option zV ⊕ String := if f = 0 ∨ k = 3 ∨ k = 6 then .inl none else if k = 2 then .inr zEI else if k = 7 then .inr zEU else .inr zEA
theorem x_fail (l : Launch) (hl : l.stackTraces = false) {d : Nat} (hd : 6 ≤ d) {g : zG} {D : va_G} (hi : zInj g) (σ : zS) {k f : Int} (hk : 0 ≤ k ∧ k ≤ 7) (hf : 0 ≤ f ∧ f ≤ 9) : zXM l d mX2_throwFailure (zWs mX2_throwFailure) g D [zI k, zI f] σ (mFail k f) σ := by
  have key : ∀ q : zQ, zwf d 0 [some (zI k), some (zI f)] [] σ = some q → q.2.2.2.2 = σ → zOk mX2_throwFailure q (mFail k f) → zXM l d mX2_throwFailure (zWs mX2_throwFailure) g D [zI k, zI f] σ (mFail k f) σ := by
    intro q h1 h2 h3
    have h := z_thr l hl hd zk_X2_throwFailure rfl (D := D) (vs := [zI k, zI f]) (σ := σ) hi (Nat.le_of_ble_eq_true rfl) (zY_some h1) h3
    rw [h2] at h
    exact h
  by_cases h0 : f = 0
  · refine key (some none, 4, [some (zI k), some (zI f)], [], σ) ?_ rfl (Or.inl ⟨none, rfl, ?_⟩)
    · rw [b_X2_throwFailure_0]; simp (disch := omega) only [nrm_id, zix, ↓reduceIte, if_true, if_false, true_and, and_true, false_and, and_false, not_true_eq_false, not_false_eq_true, Int.reduceAdd, Int.reduceSub, Int.reduceMul, ↓if_pos, ↓if_neg, Option.bind_some, Option.toList_some, Option.toList_none, List.append_nil, List.cons_append, List.nil_append, znat, znat1, zpm1, zcm1, zof0, zof1, zof2, zof3, zofa0, zofa1, h0]
    · unfold mFail; rw [if_pos (Or.inl h0)]
  · have hc : k = 2 ∨ (k = 3 ∨ k = 6) ∨ k = 7 ∨ (k = 0 ∨ k = 1 ∨ k = 4 ∨ k = 5) := by omega
    rcases hc with e | e | e | e
    · refine key (none, 56, [some (zI k), some (zI f)], [], σ) ?_ rfl (Or.inr ⟨rfl, rfl, zEI, zSite_t56, ?_⟩)
      · rw [b_X2_throwFailure_0]; subst e; simp (disch := omega) only [nrm_id, zix, ↓reduceIte, if_true, if_false, true_and, and_true, false_and, and_false, not_true_eq_false, not_false_eq_true, Int.reduceAdd, Int.reduceSub, Int.reduceMul, ↓if_pos, ↓if_neg, Option.bind_some, Option.toList_some, Option.toList_none, List.append_nil, List.cons_append, List.nil_append, znat, znat1, zpm1, zcm1, zof0, zof1, zof2, zof3, zofa0, zofa1]
      · unfold mFail; rw [if_neg (show ¬ (f = 0 ∨ k = 3 ∨ k = 6) by omega), if_pos e]
    · refine key (some none, 44, [some (zI k), some (zI f)], [], σ) ?_ rfl (Or.inl ⟨none, rfl, ?_⟩)
      · rw [b_X2_throwFailure_0]; rcases e with e | e <;> subst e <;> simp (disch := omega) only [nrm_id, zix, ↓reduceIte, if_true, if_false, true_and, and_true, false_and, and_false, not_true_eq_false, not_false_eq_true, Int.reduceAdd, Int.reduceSub, Int.reduceMul, ↓if_pos, ↓if_neg, Option.bind_some, Option.toList_some, Option.toList_none, List.append_nil, List.cons_append, List.nil_append, znat, znat1, zpm1, zcm1, zof0, zof1, zof2, zof3, zofa0, zofa1]
      · unfold mFail; rw [if_pos (Or.inr e)]
    · refine key (none, 45, [some (zI k), some (zI f)], [], σ) ?_ rfl (Or.inr ⟨rfl, rfl, zEU, zSite_t45, ?_⟩)
      · rw [b_X2_throwFailure_0]; subst e; simp (disch := omega) only [nrm_id, zix, ↓reduceIte, if_true, if_false, true_and, and_true, false_and, and_false, not_true_eq_false, not_false_eq_true, Int.reduceAdd, Int.reduceSub, Int.reduceMul, ↓if_pos, ↓if_neg, Option.bind_some, Option.toList_some, Option.toList_none, List.append_nil, List.cons_append, List.nil_append, znat, znat1, zpm1, zcm1, zof0, zof1, zof2, zof3, zofa0, zofa1]
      · unfold mFail; rw [if_neg (show ¬ (f = 0 ∨ k = 3 ∨ k = 6) by omega), if_neg (show ¬ k = 2 by omega), if_pos e]
    · refine key (none, 67, [some (zI k), some (zI f)], [], σ) ?_ rfl (Or.inr ⟨rfl, rfl, zEA, zSite_t67, ?_⟩)
      · rw [b_X2_throwFailure_0]; rcases e with e | e | e | e <;> subst e <;> simp (disch := omega) only [nrm_id, zix, ↓reduceIte, if_true, if_false, true_and, and_true, false_and, and_false, not_true_eq_false, not_false_eq_true, Int.reduceAdd, Int.reduceSub, Int.reduceMul, ↓if_pos, ↓if_neg, Option.bind_some, Option.toList_some, Option.toList_none, List.append_nil, List.cons_append, List.nil_append, znat, znat1, zpm1, zcm1, zof0, zof1, zof2, zof3, zofa0, zofa1]
      · unfold mFail; rw [if_neg (show ¬ (f = 0 ∨ k = 3 ∨ k = 6) by omega), if_neg (show ¬ k = 2 by omega), if_neg (show ¬ k = 7 by omega)]
def mEl (σ : zS) (x y : Int) : Option zV ⊕ String := if 0 ≤ x ∧ x < 8 then (if σ (20 + 2 * x.toNat) 0 = 2 ∧ 0 ≤ y ∧ y < σ (20 + 2 * x.toNat) 4 then .inl (some (zJ (σ (21 + 2 * x.toNat) y.toNat))) else .inr zEI) else .inr zEA
theorem x_elem (l : Launch) (hl : l.stackTraces = false) {d : Nat} (hd : 6 ≤ d) {g : zG} {D : va_G} (hi : zInj g) {σ : zS} (hS : ∀ d, d < 8 → zShR σ d) {x y : Int} (hx : R32 x) (hy : R32 y) : zXM l d mX2_element (zWs mX2_element) g D [zR (some 0), zI x, zI y] σ (mEl σ x y) σ := by
  obtain ⟨d, rfl⟩ : ∃ n, d = n + 1 := ⟨d - 1, by omega⟩
  have key : ∀ q : zQ, zwe (d + 1) 0 [some (zR (some 0)), some (zI x), some (zI y), none] [] σ = some q → q.2.2.2.2 = σ → zOk mX2_element q (mEl σ x y) → zXM l (d + 1) mX2_element (zWs mX2_element) g D [zR (some 0), zI x, zI y] σ (mEl σ x y) σ := by
    intro q h1 h2 h3
    have h := z_thr l hl hd zk_X2_element rfl (D := D) (vs := [zR (some 0), zI x, zI y]) (σ := σ) hi (Nat.le_of_ble_eq_true rfl) (zY_some h1) h3
    rw [h2] at h
    exact h
  by_cases q : 0 ≤ x ∧ x < 8
  · obtain ⟨i, rfl, hi8⟩ := zix_of q.1 q.2
    have hq := zSh_of i hi8
    have ea : zwe (d + 1) 0 [some (zR (some 0)), some (zI (i : Int)), some (zI y), none] [] σ = zwe (d + 1) 5 [some (zR (some 0)), some (zI (i : Int)), some (zI y), none] [zR (some (20 + 2 * i))] σ := by
      rw [b_X2_element_0, s_shelfAt _ _ hi8]; rfl
    have hsh := hS i hi8
    have em : mEl σ (i : Int) y = if σ (20 + 2 * i) 0 = 2 ∧ 0 ≤ y ∧ y < σ (20 + 2 * i) 4 then .inl (some (zJ (σ (21 + 2 * i) y.toNat))) else .inr zEI := by
      unfold mEl
      rw [if_pos q]
      rfl
    obtain ⟨s1, -, -, s4⟩ := hsh
    by_cases h2 : σ (20 + 2 * i) 0 = 2
    · obtain ⟨-, -, -, t4, -, t5⟩ := s4 h2
      clear s4 s1
      have eb : zwe (d + 1) 5 [some (zR (some 0)), some (zI (i : Int)), some (zI y), none] [zR (some (20 + 2 * i))] σ = (zc d mX1_isPlace [zR (some (20 + 2 * i)), zI y] σ).bind fun r => zwe (d + 1) 45 [some (zR (some 0)), some (zI (i : Int)), some (zI y), some (zR (some (20 + 2 * i)))] (r.1.toList ++ []) r.2 := by
        rw [b_X2_element_5 _ _ _ hq, if_pos (by rw [h2]; rfl)]
      have ep : zc d mX1_isPlace [zR (some (20 + 2 * i)), zI y] σ = some (some (zI (if 0 ≤ y ∧ y < σ (20 + 2 * i) 4 then 1 else 0)), σ) := by
        obtain ⟨y1, y2⟩ := hy
        rw [e_X1_isPlace _ _ hq]
        by_cases c1 : y < 0
        · simp (disch := omega) only [nrm_id, zix, ↓reduceIte, if_true, if_false, true_and, and_true, false_and, and_false, not_true_eq_false, not_false_eq_true, Int.reduceAdd, Int.reduceSub, Int.reduceMul, ↓if_pos, ↓if_neg, Option.bind_some, Option.toList_some, Option.toList_none, List.append_nil, List.cons_append, List.nil_append, znat, znat1, zpm1, zcm1, zof0, zof1, zof2, zof3, zofa0, zofa1]
        · by_cases c2 : σ (20 + 2 * i) 4 ≤ y
          · simp (disch := omega) only [nrm_id, zix, ↓reduceIte, if_true, if_false, true_and, and_true, false_and, and_false, not_true_eq_false, not_false_eq_true, Int.reduceAdd, Int.reduceSub, Int.reduceMul, ↓if_pos, ↓if_neg, Option.bind_some, Option.toList_some, Option.toList_none, List.append_nil, List.cons_append, List.nil_append, znat, znat1, zpm1, zcm1, zof0, zof1, zof2, zof3, zofa0, zofa1]
          · simp (disch := omega) only [nrm_id, zix, ↓reduceIte, if_true, if_false, true_and, and_true, false_and, and_false, not_true_eq_false, not_false_eq_true, Int.reduceAdd, Int.reduceSub, Int.reduceMul, ↓if_pos, ↓if_neg, Option.bind_some, Option.toList_some, Option.toList_none, List.append_nil, List.cons_append, List.nil_append, znat, znat1, zpm1, zcm1, zof0, zof1, zof2, zof3, zofa0, zofa1]
      by_cases c : 0 ≤ y ∧ y < σ (20 + 2 * i) 4
      · have ey := t5 y.toNat (by omega)
        refine key (some (some (zJ (σ (21 + 2 * i) y.toNat))), 66, [some (zR (some 0)), some (zI (i : Int)), some (zI y), some (zR (some (20 + 2 * i)))], [zJ (σ (21 + 2 * i) y.toNat)], σ) ?_ rfl (Or.inl ⟨_, rfl, ?_⟩)
        · have en : nrm y = y := nrm_id hy.1 hy.2
          rw [ea, eb, ep, if_pos c]
          show zwe (d + 1) 45 _ [zI 1] σ = _
          rw [b_X2_element_45 _ _ _ _ hq, if_pos (show ¬ nrm 1 = 0 by decide), if_pos (show zix y 100 by unfold zix; rw [en]; omega), en, show 20 + 2 * i + 1 = 21 + 2 * i by omega, nrm_id ey.2.1 ey.2.2]
        · rw [em, if_pos ⟨h2, c⟩]
      · refine key (none, 48, [some (zR (some 0)), some (zI (i : Int)), some (zI y), some (zR (some (20 + 2 * i)))], [], σ) ?_ rfl (Or.inr ⟨rfl, rfl, zEI, zSite_e48, ?_⟩)
        · rw [ea, eb, ep, if_neg c]
          show zwe (d + 1) 45 _ [zI 0] σ = _
          rw [b_X2_element_45 _ _ _ _ hq, if_neg (show ¬ ¬ nrm 0 = 0 by decide)]
        · rw [em, if_neg (fun e => c e.2)]
    · refine key (none, 29, [some (zR (some 0)), some (zI (i : Int)), some (zI y), some (zR (some (20 + 2 * i)))], [], σ) ?_ rfl (Or.inr ⟨rfl, rfl, zEI, zSite_e29, ?_⟩)
      · rw [ea, b_X2_element_5 _ _ _ hq, if_neg (by rw [nrm_id (by omega) (by omega)]; exact h2)]
      · rw [em, if_neg (fun e => h2 e.1)]
  · refine key (none, 10, [some (zR (some 0)), some (zI x), some (zI y), some (zR none)], [], σ) ?_ rfl (Or.inr ⟨rfl, rfl, zEA, zSite_e10, ?_⟩)
    · rw [b_X2_element_0, s_shelfAtN _ _ hx q]
      show zwe (d + 1) 5 _ [zR none] σ = _
      rw [b_X2_element_5_2]
    · unfold mEl; rw [if_neg q]
