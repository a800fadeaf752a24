section SYS90
variable {σ : zS} {K : zK} {T : Int}
theorem p_toss (h : zSysK K T σ) {x : Int} (hx : R32 x) (d : Nat) : zc (d + 20) mX3_toss [zR (some 36), zI x] σ = some (some (zI (mToss σ x)), σ) := by
  by_cases q : 0 ≤ x ∧ x < 8
  · obtain ⟨i, rfl, hi8⟩ := zix_of q.1 q.2
    obtain ⟨s1, s2, s3, -⟩ := h.2.2.2.2.2.2.2 i hi8
    have et : mToss σ (i : Int) = if σ (20 + 2 * i) 0 = 0 then -11 else if σ (20 + 2 * i) 0 = 1 then mTv (mFail (σ (20 + 2 * i) 1) (σ (20 + 2 * i) 2)) (σ (20 + 2 * i) 1) (σ (20 + 2 * i) 2) else -12 := by
      unfold mToss
      rw [if_pos q]
      rfl
    rw [e_X3_toss, r_wrongKept (d + 17) hi8 (by rw [s2]; exact s1), s2, et]
    rcases s1 with e | e | e
    · rw [e]
      simp (disch := omega) only [nrm_id, zix, ↓reduceIte, if_true, if_false, true_and, and_true, false_and, and_false, not_true_eq_false, not_false_eq_true, Int.reduceAdd, Int.reduceSub, Int.reduceMul, ↓if_pos, ↓if_neg, Option.bind_some, Option.toList_some, Option.toList_none, List.append_nil, List.cons_append, List.nil_append, znat, znat1, zpm1, zcm1, zof0, zof1, zof2, zof3, zofa0, zofa1, b_X3_toss_5]
    · obtain ⟨a1, a2, hk, hf⟩ := s3 e
      rw [e]
      by_cases h0 : σ (20 + 2 * i) 2 = 0
      · have em : mFail (σ (20 + 2 * i) 1) (σ (20 + 2 * i) 2) = .inl none := by unfold mFail; rw [if_pos (Or.inl h0)]
        rw [em]
        by_cases e3 : σ (20 + 2 * i) 1 = 3
        · simp (disch := omega) only [nrm_id, zix, ↓reduceIte, if_true, if_false, true_and, and_true, false_and, and_false, not_true_eq_false, not_false_eq_true, Int.reduceAdd, Int.reduceSub, Int.reduceMul, ↓if_pos, ↓if_neg, Option.bind_some, Option.toList_some, Option.toList_none, List.append_nil, List.cons_append, List.nil_append, znat, znat1, zpm1, zcm1, zof0, zof1, zof2, zof3, zofa0, zofa1, b_X3_toss_5, a1, a2, e3, h0]
          rfl
        · by_cases e6 : σ (20 + 2 * i) 1 = 6
          · simp (disch := omega) only [nrm_id, zix, ↓reduceIte, if_true, if_false, true_and, and_true, false_and, and_false, not_true_eq_false, not_false_eq_true, Int.reduceAdd, Int.reduceSub, Int.reduceMul, ↓if_pos, ↓if_neg, Option.bind_some, Option.toList_some, Option.toList_none, List.append_nil, List.cons_append, List.nil_append, znat, znat1, zpm1, zcm1, zof0, zof1, zof2, zof3, zofa0, zofa1, b_X3_toss_5, a1, a2, e6, h0]
            rfl
          · simp (disch := omega) only [nrm_id, zix, ↓reduceIte, if_true, if_false, true_and, and_true, false_and, and_false, not_true_eq_false, not_false_eq_true, Int.reduceAdd, Int.reduceSub, Int.reduceMul, ↓if_pos, ↓if_neg, Option.bind_some, Option.toList_some, Option.toList_none, List.append_nil, List.cons_append, List.nil_append, znat, znat1, zpm1, zcm1, zof0, zof1, zof2, zof3, zofa0, zofa1, b_X3_toss_5, a1, a2, h0]
            rfl
      · have hc : σ (20 + 2 * i) 1 = 2 ∨ σ (20 + 2 * i) 1 = 3 ∨ σ (20 + 2 * i) 1 = 6 ∨ σ (20 + 2 * i) 1 = 7 ∨ (σ (20 + 2 * i) 1 = 0 ∨ σ (20 + 2 * i) 1 = 1 ∨ σ (20 + 2 * i) 1 = 4 ∨ σ (20 + 2 * i) 1 = 5) := by omega
        rcases hc with c | c | c | c | c
        · have em : mFail (σ (20 + 2 * i) 1) (σ (20 + 2 * i) 2) = .inr zEI := by unfold mFail; rw [if_neg (show ¬ (σ (20 + 2 * i) 2 = 0 ∨ σ (20 + 2 * i) 1 = 3 ∨ σ (20 + 2 * i) 1 = 6) by omega), if_pos c]
          rw [em, mTv_I]
          simp (disch := omega) only [nrm_id, zix, ↓reduceIte, if_true, if_false, true_and, and_true, false_and, and_false, not_true_eq_false, not_false_eq_true, Int.reduceAdd, Int.reduceSub, Int.reduceMul, ↓if_pos, ↓if_neg, Option.bind_some, Option.toList_some, Option.toList_none, List.append_nil, List.cons_append, List.nil_append, znat, znat1, zpm1, zcm1, zof0, zof1, zof2, zof3, zofa0, zofa1, b_X3_toss_5, a1, a2, c]
        · have em : mFail (σ (20 + 2 * i) 1) (σ (20 + 2 * i) 2) = .inl none := by unfold mFail; rw [if_pos (Or.inr (Or.inl c))]
          rw [em]
          simp (disch := omega) only [nrm_id, zix, ↓reduceIte, if_true, if_false, true_and, and_true, false_and, and_false, not_true_eq_false, not_false_eq_true, Int.reduceAdd, Int.reduceSub, Int.reduceMul, ↓if_pos, ↓if_neg, Option.bind_some, Option.toList_some, Option.toList_none, List.append_nil, List.cons_append, List.nil_append, znat, znat1, zpm1, zcm1, zof0, zof1, zof2, zof3, zofa0, zofa1, b_X3_toss_5, a1, a2, c]
          rfl
        · have em : mFail (σ (20 + 2 * i) 1) (σ (20 + 2 * i) 2) = .inl none := by unfold mFail; rw [if_pos (Or.inr (Or.inr c))]
          rw [em]
          simp (disch := omega) only [nrm_id, zix, ↓reduceIte, if_true, if_false, true_and, and_true, false_and, and_false, not_true_eq_false, not_false_eq_true, Int.reduceAdd, Int.reduceSub, Int.reduceMul, ↓if_pos, ↓if_neg, Option.bind_some, Option.toList_some, Option.toList_none, List.append_nil, List.cons_append, List.nil_append, znat, znat1, zpm1, zcm1, zof0, zof1, zof2, zof3, zofa0, zofa1, b_X3_toss_5, a1, a2, c]
          rfl
        · have em : mFail (σ (20 + 2 * i) 1) (σ (20 + 2 * i) 2) = .inr zEU := by unfold mFail; rw [if_neg (show ¬ (σ (20 + 2 * i) 2 = 0 ∨ σ (20 + 2 * i) 1 = 3 ∨ σ (20 + 2 * i) 1 = 6) by omega), if_neg (show ¬ σ (20 + 2 * i) 1 = 2 by omega), if_pos c]
          rw [em, mTv_U]
          simp (disch := omega) only [nrm_id, zix, ↓reduceIte, if_true, if_false, true_and, and_true, false_and, and_false, not_true_eq_false, not_false_eq_true, Int.reduceAdd, Int.reduceSub, Int.reduceMul, ↓if_pos, ↓if_neg, Option.bind_some, Option.toList_some, Option.toList_none, List.append_nil, List.cons_append, List.nil_append, znat, znat1, zpm1, zcm1, zof0, zof1, zof2, zof3, zofa0, zofa1, b_X3_toss_5, a1, a2, c, r_costBy, b_X3_toss_61]
        · have em : mFail (σ (20 + 2 * i) 1) (σ (20 + 2 * i) 2) = .inr zEA := by unfold mFail; rw [if_neg (show ¬ (σ (20 + 2 * i) 2 = 0 ∨ σ (20 + 2 * i) 1 = 3 ∨ σ (20 + 2 * i) 1 = 6) by omega), if_neg (show ¬ σ (20 + 2 * i) 1 = 2 by omega), if_neg (show ¬ σ (20 + 2 * i) 1 = 7 by omega)]
          rw [em, mTv_A]
          rcases c with c | c | c | c <;> simp (disch := omega) only [nrm_id, zix, ↓reduceIte, if_true, if_false, true_and, and_true, false_and, and_false, not_true_eq_false, not_false_eq_true, Int.reduceAdd, Int.reduceSub, Int.reduceMul, ↓if_pos, ↓if_neg, Option.bind_some, Option.toList_some, Option.toList_none, List.append_nil, List.cons_append, List.nil_append, znat, znat1, zpm1, zcm1, zof0, zof1, zof2, zof3, zofa0, zofa1, b_X3_toss_5, a1, a2, c]
    · rw [e]
      simp (disch := omega) only [nrm_id, zix, ↓reduceIte, if_true, if_false, true_and, and_true, false_and, and_false, not_true_eq_false, not_false_eq_true, Int.reduceAdd, Int.reduceSub, Int.reduceMul, ↓if_pos, ↓if_neg, Option.bind_some, Option.toList_some, Option.toList_none, List.append_nil, List.cons_append, List.nil_append, znat, znat1, zpm1, zcm1, zof0, zof1, zof2, zof3, zofa0, zofa1, b_X3_toss_5]
  · have et : mToss σ x = -1 := by unfold mToss; rw [if_neg q]
    rw [e_X3_toss, r_wrongKeptN (d + 17) hx q, et]
    simp (disch := omega) only [nrm_id, zix, ↓reduceIte, if_true, if_false, true_and, and_true, false_and, and_false, not_true_eq_false, not_false_eq_true, Int.reduceAdd, Int.reduceSub, Int.reduceMul, ↓if_pos, ↓if_neg, Option.bind_some, Option.toList_some, Option.toList_none, List.append_nil, List.cons_append, List.nil_append, znat, znat1, zpm1, zcm1, zof0, zof1, zof2, zof3, zofa0, zofa1, b_X3_toss_5]
theorem p_element (h : zSysK K T σ) {x y : Int} (hx : R32 x) (hy : R32 y) (d : Nat) : ∃ v τ, zc (d + 20) mX3_element [zR (some 36), zI x, zI y] (mEls σ x y) = some (some (zJ v), τ) ∧ zc (d + 20) mX3_thrown [zR (some 36)] τ = some (some (zI (mElc σ x y)), τ) ∧ zSysK K T τ ∧ (mElc σ x y = 0 → τ 51 0 = v ∧ nrL v = v) := by
  have fin : ∀ (c v : Int), mElc σ x y = c → zc (d + 20) mX3_element [zR (some 36), zI x, zI y] (mEls σ x y) = some (some (zJ v), zup (mEls σ x y) 36 20 c) → (c = 0 → mEls σ x y 51 0 = v ∧ nrL v = v) → ∃ v τ, zc (d + 20) mX3_element [zR (some 36), zI x, zI y] (mEls σ x y) = some (some (zJ v), τ) ∧ zc (d + 20) mX3_thrown [zR (some 36)] τ = some (some (zI (mElc σ x y)), τ) ∧ zSysK K T τ ∧ (mElc σ x y = 0 → τ 51 0 = v ∧ nrL v = v) := by
    intro c v h1 h2 h3
    refine ⟨v, _, h2, ?_, ?_, fun e => ?_⟩
    · rw [e_X3_thrown, zup_at, h1]
    · refine zSys_scr h ⟨fun q hq h36 => ?_, ?_⟩
      · rw [zup_ne h36]
        rcases mEl_cases σ x y with ⟨w, -, -, e⟩ | ⟨-, -, e⟩ | ⟨-, -, e⟩
        · rw [e, zup_ne (fun e => hq (by rw [e]; decide))]
        · rw [e]
        · rw [e]
      · rw [zup_ix (by decide)]
        rcases mEl_cases σ x y with ⟨w, -, -, e⟩ | ⟨-, -, e⟩ | ⟨-, -, e⟩
        · rw [e, zup_ne (by decide)]
        · rw [e]
        · rw [e]
    · rw [zup_ne (by decide)]
      exact h3 (by rw [← h1]; exact e)
  have hkeep : ∀ q, q ≠ 51 → mEls σ x y q = σ q := by
    intro q hq
    rcases mEl_cases σ x y with ⟨w, -, -, e⟩ | ⟨-, -, e⟩ | ⟨-, -, e⟩
    · rw [e, zup_ne hq]
    · rw [e]
    · rw [e]
  by_cases q : 0 ≤ x ∧ x < 8
  · obtain ⟨i, rfl, hi8⟩ := zix_of q.1 q.2
    have em : mEl σ (i : Int) y = if σ (20 + 2 * i) 0 = 2 ∧ 0 ≤ y ∧ y < σ (20 + 2 * i) 4 then .inl (some (zJ (σ (21 + 2 * i) y.toNat))) else .inr zEI := by
      unfold mEl
      rw [if_pos q]
      rfl
    obtain ⟨s1, s2, -, s4⟩ := h.2.2.2.2.2.2.2 i hi8
    have k45 : mEls σ (i : Int) y 45 i = σ (20 + 2 * i) 0 := by rw [hkeep 45 (by decide)]; exact s2
    have ea : ∀ τ : zS, zc (d + 20) mX3_element [zR (some 36), zI (i : Int), zI y] τ = zq (d + 20) mX3_element 5 [some (zR (some 36)), some (zI (i : Int)), some (zI y)] [zI 1, zR (some 36)] τ := by
      intro τ
      rw [e_X3_element, r_isShelf _ _ ⟨by omega, by omega⟩, if_pos q]
      rfl
    have hno : ¬ (σ (20 + 2 * i) 0 = 2 ∧ 0 ≤ y ∧ y < σ (20 + 2 * i) 4) → mEl σ (i : Int) y = .inr zEI ∧ mElc σ (i : Int) y = 2 ∧ mEls σ (i : Int) y = σ := by
      intro hc
      rw [if_neg hc] at em
      rcases mEl_cases σ (i : Int) y with ⟨w, e, -⟩ | ⟨e, -⟩ | e
      · rw [em] at e; cases e
      · rw [em] at e
        exact absurd (Sum.inr.inj e) (by decide +kernel)
      · exact e
    by_cases h2 : σ (20 + 2 * i) 0 = 2
    · obtain ⟨-, -, t3, t4, -, t5⟩ := s4 h2
      clear s4 s1
      have k49 : mEls σ (i : Int) y 49 i = σ (20 + 2 * i) 4 := by rw [hkeep 49 (by decide)]; exact t3
      have eb : zc (d + 20) mX3_element [zR (some 36), zI (i : Int), zI y] (mEls σ (i : Int) y) = zq (d + 20) mX3_element 35 [some (zR (some 36)), some (zI (i : Int)), some (zI y)] [zI (if 0 ≤ y ∧ y ≤ σ (20 + 2 * i) 4 - 1 then 1 else 0), zR (some 36)] (mEls σ (i : Int) y) := by
        rw [ea, b_X3_element_5]
        simp (disch := omega) only [nrm_id, zix, ↓reduceIte, if_true, if_false, true_and, and_true, false_and, and_false, not_true_eq_false, not_false_eq_true, Int.reduceAdd, Int.reduceSub, Int.reduceMul, ↓if_pos, ↓if_neg, Option.bind_some, Option.toList_some, Option.toList_none, List.append_nil, List.cons_append, List.nil_append, znat, znat1, zpm1, zcm1, zof0, zof1, zof2, zof3, zofa0, zofa1, k45, k49, h2, r_isIn _ _ hy]
      by_cases c : 0 ≤ y ∧ y < σ (20 + 2 * i) 4
      · have hy1 : y.toNat < 100 := by omega
        have ey := t5 y.toNat hy1
        rw [if_pos ⟨h2, c⟩] at em
        obtain ⟨e1, e2⟩ : mElc σ (i : Int) y = 0 ∧ mEls σ (i : Int) y = zup σ 51 0 (σ (21 + 2 * i) y.toNat) := by
          rcases mEl_cases σ (i : Int) y with ⟨w, e, e1, e2⟩ | ⟨e, -⟩ | ⟨e, -⟩
          · rw [em] at e
            cases e
            exact ⟨e1, e2⟩
          · rw [em] at e; cases e
          · rw [em] at e; cases e
        refine fin 0 (σ (21 + 2 * i) y.toNat) e1 ?_ (fun _ => ⟨by rw [e2, zup_at], by unfold nrL; omega⟩)
        have hyn : (y.toNat : Int) = y := by omega
        have hix : nrm (100 * (i : Int) + y) = ((100 * i + y.toNat : Nat) : Int) := by rw [nrm_id (by omega) (by omega)]; omega
        rw [eb, if_pos (show 0 ≤ y ∧ y ≤ σ (20 + 2 * i) 4 - 1 by omega), b_X3_element_35, if_pos (by decide), b_X3_element_43, if_neg (by rw [zup_at]; decide), if_pos (show zix (100 * (i : Int) + y) 800 by unfold zix; rw [hix]; omega), hix, Int.toNat_natCast, zup_ne (by decide), hkeep 50 (by decide), ey.1, nrm_id ey.2.1 ey.2.2]
      · obtain ⟨e0, e1, e2⟩ := hno (fun e => c e.2)
        refine fin 2 0 e1 ?_ (fun e => absurd e (by decide))
        rw [eb, if_neg (show ¬ (0 ≤ y ∧ y ≤ σ (20 + 2 * i) 4 - 1) by omega), b_X3_element_35, if_neg (by decide), b_X3_element_38, b_X3_element_43, if_pos (by rw [zup_at]; decide)]
    · obtain ⟨e0, e1, e2⟩ := hno (fun e => h2 e.1)
      refine fin 2 0 e1 ?_ (fun e => absurd e (by decide))
      clear s4
      rw [ea, b_X3_element_5]
      simp (disch := omega) only [nrm_id, zix, ↓reduceIte, if_true, if_false, true_and, and_true, false_and, and_false, not_true_eq_false, not_false_eq_true, Int.reduceAdd, Int.reduceSub, Int.reduceMul, ↓if_pos, ↓if_neg, Option.bind_some, Option.toList_some, Option.toList_none, List.append_nil, List.cons_append, List.nil_append, znat, znat1, zpm1, zcm1, zof0, zof1, zof2, zof3, zofa0, zofa1, k45]
      rw [b_X3_element_38, b_X3_element_43, if_pos (by rw [zup_at]; decide)]
  · have em : mEl σ x y = .inr zEA := by unfold mEl; rw [if_neg q]
    have e1 : mElc σ x y = 1 := by unfold mElc; rw [em]; exact if_pos rfl
    refine fin 1 0 e1 ?_ (fun e => absurd e (by decide))
    rw [e_X3_element, r_isShelf _ _ hx, if_neg q]
    show zq (d + 20) mX3_element 5 _ [zI 0, zR (some 36)] _ = _
    rw [b_X3_element_5, if_neg (by decide), b_X3_element_43, if_pos (by rw [zup_at]; decide)]
end SYS90
