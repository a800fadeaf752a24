section SYS31
variable {σ : zS} {K : zK} {T : Int}
theorem s_byteAt (d : Nat) {q : Nat} (hq : zSh q) {w : Nat → Int} {n : Nat} (h4 : σ q 4 = n) (hn : n ≤ 100) (hw : ∀ j, j < 100 → σ (q + 1) j = w j) {j : Nat} (hj : j < 1000) : zc (d + 1) mX1_byteAt [zR (some q), zI j] σ = some (some (zI (mby w n j)), σ) := by
  rw [e_X1_byteAt _ _ hq, e_X1_isPlace _ _ hq, h4]
  unfold mby
  by_cases h : j < n
  · have e := hw j (by omega)
    rw [if_pos h]
    simp (disch := omega) only [nrm_id, zix, ↓reduceIte, if_true, if_false, true_and, and_true, false_and, and_false, not_true_eq_false, not_false_eq_true, Int.reduceAdd, Int.reduceSub, Int.reduceMul, ↓if_pos, ↓if_neg, Option.bind_some, Option.toList_some, Option.toList_none, List.append_nil, List.cons_append, List.nil_append, znat, znat1, zpm1, zcm1, zof0, zof1, zof2, zof3, zofa0, zofa1, b_X1_byteAt_5 _ _ _ hq, e]
  · rw [if_neg h]
    simp (disch := omega) only [nrm_id, zix, ↓reduceIte, if_true, if_false, true_and, and_true, false_and, and_false, not_true_eq_false, not_false_eq_true, Int.reduceAdd, Int.reduceSub, Int.reduceMul, ↓if_pos, ↓if_neg, Option.bind_some, Option.toList_some, Option.toList_none, List.append_nil, List.cons_append, List.nil_append, znat, znat1, zpm1, zcm1, zof0, zof1, zof2, zof3, zofa0, zofa1, b_X1_byteAt_5 _ _ _ hq]
theorem s_digitAt (d : Nat) {q : Nat} (hq : zSh q) {w : Nat → Int} {n : Nat} (h4 : σ q 4 = n) (hn : n ≤ 100) (hw : ∀ j, j < 100 → σ (q + 1) j = w j) {j : Nat} (hj : j < 1000) : zc (d + 2) mX1_digitAt [zR (some q), zI j] σ = some (some (zI (mby w n j - 48)), σ) := by
  rw [e_X1_digitAt _ _ hq, s_byteAt d hq h4 hn hw hj]
  simp (disch := omega) only [nrm_id, zix, ↓reduceIte, if_true, if_false, true_and, and_true, false_and, and_false, not_true_eq_false, not_false_eq_true, Int.reduceAdd, Int.reduceSub, Int.reduceMul, ↓if_pos, ↓if_neg, Option.bind_some, Option.toList_some, Option.toList_none, List.append_nil, List.cons_append, List.nil_append, znat, znat1, zpm1, zcm1, zof0, zof1, zof2, zof3, zofa0, zofa1, b_X1_digitAt_5 _ _ _ hq]
theorem s_digitsBehind (d : Nat) {v : Int} (hv : -128 ≤ v ∧ v ≤ 255) : zc d mX2_digitsBehind [zI v] σ = some (some (zI (mnd v)), σ) := by
  rw [e_X2_digitsBehind]
  unfold mnd
  by_cases h1 : v = 98
  · subst h1; simp (disch := omega) only [nrm_id, zix, ↓reduceIte, if_true, if_false, true_and, and_true, false_and, and_false, not_true_eq_false, not_false_eq_true, Int.reduceAdd, Int.reduceSub, Int.reduceMul, ↓if_pos, ↓if_neg, Option.bind_some, Option.toList_some, Option.toList_none, List.append_nil, List.cons_append, List.nil_append, znat, znat1, zpm1, zcm1, zof0, zof1, zof2, zof3, zofa0, zofa1]
  · by_cases h2 : v = 104
    · subst h2; simp (disch := omega) only [nrm_id, zix, ↓reduceIte, if_true, if_false, true_and, and_true, false_and, and_false, not_true_eq_false, not_false_eq_true, Int.reduceAdd, Int.reduceSub, Int.reduceMul, ↓if_pos, ↓if_neg, Option.bind_some, Option.toList_some, Option.toList_none, List.append_nil, List.cons_append, List.nil_append, znat, znat1, zpm1, zcm1, zof0, zof1, zof2, zof3, zofa0, zofa1]
    · by_cases h3 : v = 112
      · subst h3; simp (disch := omega) only [nrm_id, zix, ↓reduceIte, if_true, if_false, true_and, and_true, false_and, and_false, not_true_eq_false, not_false_eq_true, Int.reduceAdd, Int.reduceSub, Int.reduceMul, ↓if_pos, ↓if_neg, Option.bind_some, Option.toList_some, Option.toList_none, List.append_nil, List.cons_append, List.nil_append, znat, znat1, zpm1, zcm1, zof0, zof1, zof2, zof3, zofa0, zofa1]
      · by_cases h4 : v = 114
        · subst h4; simp (disch := omega) only [nrm_id, zix, ↓reduceIte, if_true, if_false, true_and, and_true, false_and, and_false, not_true_eq_false, not_false_eq_true, Int.reduceAdd, Int.reduceSub, Int.reduceMul, ↓if_pos, ↓if_neg, Option.bind_some, Option.toList_some, Option.toList_none, List.append_nil, List.cons_append, List.nil_append, znat, znat1, zpm1, zcm1, zof0, zof1, zof2, zof3, zofa0, zofa1]
        · by_cases h5 : v = 116
          · subst h5; simp (disch := omega) only [nrm_id, zix, ↓reduceIte, if_true, if_false, true_and, and_true, false_and, and_false, not_true_eq_false, not_false_eq_true, Int.reduceAdd, Int.reduceSub, Int.reduceMul, ↓if_pos, ↓if_neg, Option.bind_some, Option.toList_some, Option.toList_none, List.append_nil, List.cons_append, List.nil_append, znat, znat1, zpm1, zcm1, zof0, zof1, zof2, zof3, zofa0, zofa1]
          · by_cases h6 : v = 120
            · subst h6; simp (disch := omega) only [nrm_id, zix, ↓reduceIte, if_true, if_false, true_and, and_true, false_and, and_false, not_true_eq_false, not_false_eq_true, Int.reduceAdd, Int.reduceSub, Int.reduceMul, ↓if_pos, ↓if_neg, Option.bind_some, Option.toList_some, Option.toList_none, List.append_nil, List.cons_append, List.nil_append, znat, znat1, zpm1, zcm1, zof0, zof1, zof2, zof3, zofa0, zofa1]
            · simp (disch := omega) only [nrm_id, zix, ↓reduceIte, if_true, if_false, true_and, and_true, false_and, and_false, not_true_eq_false, not_false_eq_true, Int.reduceAdd, Int.reduceSub, Int.reduceMul, ↓if_pos, ↓if_neg, Option.bind_some, Option.toList_some, Option.toList_none, List.append_nil, List.cons_append, List.nil_append, znat, znat1, zpm1, zcm1, zof0, zof1, zof2, zof3, zofa0, zofa1]
theorem s_fwDigits (d : Nat) {q : Nat} (hq : zSh q) {w : Nat → Int} {n : Nat} (h4 : σ q 4 = n) (hn : n ≤ 100) (hw : ∀ j, j < 100 → σ (q + 1) j = w j) (hb : ∀ j, j < 100 → -128 ≤ w j ∧ w j ≤ 127) : ∀ k j : Nat, j + k < 900 → zq (d + 3) mX2_firstWrongByte 43 [some (zR (some q)), some (zI j), none, some (zI ((j + k : Nat) : Int))] [] σ = if mfd (mby w n) k j < j + k then some (some (zI (mfd (mby w n) k j)), σ) else if mby w n (mfd (mby w n) k j) = 59 then zq (d + 3) mX2_firstWrongByte 11 [some (zR (some q)), some (zI ((mfd (mby w n) k j + 1 : Nat) : Int)), none, none] [] σ else some (some (zI (mfd (mby w n) k j)), σ) := by
  intro k
  induction k with
  | zero =>
    intro j hj
    have hy := s_byteAt (d + 1) hq h4 hn hw (j := j) (by omega)
    have hr := mby_rng hn hb j
    rw [b_X2_firstWrongByte_43 _ _ _ hq, if_neg (show ¬ mfd (mby w n) 0 j < j + 0 from Nat.lt_irrefl j), show mfd (mby w n) 0 j = j from rfl]
    by_cases c : mby w n j = 59
    · rw [if_pos c]
      simp (disch := omega) only [nrm_id, zix, ↓reduceIte, if_true, if_false, true_and, and_true, false_and, and_false, not_true_eq_false, not_false_eq_true, Int.reduceAdd, Int.reduceSub, Int.reduceMul, ↓if_pos, ↓if_neg, Option.bind_some, Option.toList_some, Option.toList_none, List.append_nil, List.cons_append, List.nil_append, znat, znat1, zpm1, zcm1, zof0, zof1, zof2, zof3, zofa0, zofa1, hy, b_X2_firstWrongByte_81 _ _ _ _ hq, c]
      rfl
    · rw [if_neg c]
      simp (disch := omega) only [nrm_id, zix, ↓reduceIte, if_true, if_false, true_and, and_true, false_and, and_false, not_true_eq_false, not_false_eq_true, Int.reduceAdd, Int.reduceSub, Int.reduceMul, ↓if_pos, ↓if_neg, Option.bind_some, Option.toList_some, Option.toList_none, List.append_nil, List.cons_append, List.nil_append, znat, znat1, zpm1, zcm1, zof0, zof1, zof2, zof3, zofa0, zofa1, hy, b_X2_firstWrongByte_81 _ _ _ _ hq]
  | succ k ih =>
    intro j hj
    have hy := s_byteAt (d + 1) hq h4 hn hw (j := j) (by omega)
    have hr := mby_rng hn hb j
    rw [b_X2_firstWrongByte_43 _ _ _ hq]
    by_cases c : 48 ≤ mby w n j ∧ mby w n j ≤ 57
    · have k1 := ih (j + 1) (by omega)
      rw [show j + 1 + k = j + (k + 1) from by omega] at k1
      rw [mfd_y c]
      simp (disch := omega) only [nrm_id, zix, ↓reduceIte, if_true, if_false, true_and, and_true, false_and, and_false, not_true_eq_false, not_false_eq_true, Int.reduceAdd, Int.reduceSub, Int.reduceMul, ↓if_pos, ↓if_neg, Option.bind_some, Option.toList_some, Option.toList_none, List.append_nil, List.cons_append, List.nil_append, znat, znat1, zpm1, zcm1, zof0, zof1, zof2, zof3, zofa0, zofa1, hy, b_X2_firstWrongByte_53 _ _ _ _ hq, b_X2_firstWrongByte_63 _ _ _ _ hq]
      exact k1
    · rw [mfd_n c, if_pos (show j < j + (k + 1) by omega)]
      by_cases c2 : mby w n j < 48
      · simp (disch := omega) only [nrm_id, zix, ↓reduceIte, if_true, if_false, true_and, and_true, false_and, and_false, not_true_eq_false, not_false_eq_true, Int.reduceAdd, Int.reduceSub, Int.reduceMul, ↓if_pos, ↓if_neg, Option.bind_some, Option.toList_some, Option.toList_none, List.append_nil, List.cons_append, List.nil_append, znat, znat1, zpm1, zcm1, zof0, zof1, zof2, zof3, zofa0, zofa1, hy, b_X2_firstWrongByte_53 _ _ _ _ hq]
      · simp (disch := omega) only [nrm_id, zix, ↓reduceIte, if_true, if_false, true_and, and_true, false_and, and_false, not_true_eq_false, not_false_eq_true, Int.reduceAdd, Int.reduceSub, Int.reduceMul, ↓if_pos, ↓if_neg, Option.bind_some, Option.toList_some, Option.toList_none, List.append_nil, List.cons_append, List.nil_append, znat, znat1, zpm1, zcm1, zof0, zof1, zof2, zof3, zofa0, zofa1, hy, b_X2_firstWrongByte_53 _ _ _ _ hq, b_X2_firstWrongByte_63 _ _ _ _ hq]
theorem s_fwLoop (d : Nat) {q : Nat} (hq : zSh q) {w : Nat → Int} {n : Nat} (h4 : σ q 4 = n) (hn : n ≤ 100) (hw : ∀ j, j < 100 → σ (q + 1) j = w j) (hb : ∀ j, j < 100 → -128 ≤ w j ∧ w j ≤ 127) : ∀ f a : Nat, n < a + f → a ≤ 800 → zq (d + 3) mX2_firstWrongByte 11 [some (zR (some q)), some (zI a), none, none] [] σ = some (some (zI (mtx (mby w n) n f a).2), σ) := by
  intro f
  induction f with
  | zero =>
    intro a ha ha2
    rw [b_X2_firstWrongByte_11 _ _ hq, h4]
    simp (disch := omega) only [nrm_id, zix, ↓reduceIte, if_true, if_false, true_and, and_true, false_and, and_false, not_true_eq_false, not_false_eq_true, Int.reduceAdd, Int.reduceSub, Int.reduceMul, ↓if_pos, ↓if_neg, Option.bind_some, Option.toList_some, Option.toList_none, List.append_nil, List.cons_append, List.nil_append, znat, znat1, zpm1, zcm1, zof0, zof1, zof2, zof3, zofa0, zofa1]
    rfl
  | succ f ih =>
    intro a ha ha2
    rw [b_X2_firstWrongByte_11 _ _ hq, h4]
    by_cases h0 : n ≤ a
    · rw [mtx_s, if_pos h0]
      simp (disch := omega) only [nrm_id, zix, ↓reduceIte, if_true, if_false, true_and, and_true, false_and, and_false, not_true_eq_false, not_false_eq_true, Int.reduceAdd, Int.reduceSub, Int.reduceMul, ↓if_pos, ↓if_neg, Option.bind_some, Option.toList_some, Option.toList_none, List.append_nil, List.cons_append, List.nil_append, znat, znat1, zpm1, zcm1, zof0, zof1, zof2, zof3, zofa0, zofa1]
    · have hy := s_byteAt (d + 1) hq h4 hn hw (j := a) (by omega)
      have hr := mby_rng hn hb a
      have hm := mnd_rng (mby w n a)
      have dg := s_digitsBehind (σ := σ) (d + 2) (v := mby w n a) (by omega)
      have me := mep_rng (mby w n) a
      rw [mtx_s, if_neg h0]
      by_cases h1 : mnd (mby w n a) < 0
      · rw [if_pos h1]
        simp (disch := omega) only [nrm_id, zix, ↓reduceIte, if_true, if_false, true_and, and_true, false_and, and_false, not_true_eq_false, not_false_eq_true, Int.reduceAdd, Int.reduceSub, Int.reduceMul, ↓if_pos, ↓if_neg, Option.bind_some, Option.toList_some, Option.toList_none, List.append_nil, List.cons_append, List.nil_append, znat, znat1, zpm1, zcm1, zof0, zof1, zof2, zof3, zofa0, zofa1, hy, b_X2_firstWrongByte_24 _ _ _ hq, dg, b_X2_firstWrongByte_27 _ _ _ hq]
      · rw [if_neg h1]
        have k1 := s_fwDigits d hq h4 hn hw hb (mnd (mby w n a)).toNat (a + 1) (by omega)
        have e1 : ((a + 1 + (mnd (mby w n a)).toNat : Nat) : Int) = (a : Int) + 1 + mnd (mby w n a) := by omega
        rw [e1] at k1
        have k2 : zq (d + 3) mX2_firstWrongByte 43 [some (zR (some q)), some (zI ((a : Int) + 1)), none, some (zI ((a : Int) + 1 + mnd (mby w n a)))] [] σ = if mep (mby w n) a < men (mby w n) a then some (some (zI (mep (mby w n) a)), σ) else if mby w n (mep (mby w n) a) = 59 then zq (d + 3) mX2_firstWrongByte 11 [some (zR (some q)), some (zI ((mep (mby w n) a + 1 : Nat) : Int)), none, none] [] σ else some (some (zI (mep (mby w n) a)), σ) := k1
        have hl : men (mby w n) a ≤ a + 4 := by unfold men; omega
        simp (disch := omega) only [nrm_id, zix, ↓reduceIte, if_true, if_false, true_and, and_true, false_and, and_false, not_true_eq_false, not_false_eq_true, Int.reduceAdd, Int.reduceSub, Int.reduceMul, ↓if_pos, ↓if_neg, Option.bind_some, Option.toList_some, Option.toList_none, List.append_nil, List.cons_append, List.nil_append, znat, znat1, zpm1, zcm1, zof0, zof1, zof2, zof3, zofa0, zofa1, hy, b_X2_firstWrongByte_24 _ _ _ hq, dg, b_X2_firstWrongByte_27 _ _ _ hq]
        rw [k2]
        by_cases h2 : mep (mby w n) a < men (mby w n) a
        · rw [if_pos h2, if_pos h2]
        · rw [if_neg h2, if_neg h2]
          by_cases h3 : mby w n (mep (mby w n) a) = 59
          · rw [if_pos h3, if_pos h3]
            exact ih (mep (mby w n) a + 1) (by omega) (by omega)
          · rw [if_neg h3, if_neg h3]
theorem s_firstWrong (d : Nat) {q : Nat} (hq : zSh q) {w : Nat → Int} {n : Nat} (h4 : σ q 4 = n) (hn : n ≤ 100) (hn0 : n ≠ 0) (hw : ∀ j, j < 100 → σ (q + 1) j = w j) (hb : ∀ j, j < 100 → -128 ≤ w j ∧ w j ≤ 127) : zc (d + 3) mX2_firstWrongByte [zR (some q)] σ = some (some (zI (mtx (mby w n) n 101 0).2), σ) := by
  rw [e_X2_firstWrongByte _ hq, h4]
  simp (disch := omega) only [nrm_id, zix, ↓reduceIte, if_true, if_false, true_and, and_true, false_and, and_false, not_true_eq_false, not_false_eq_true, Int.reduceAdd, Int.reduceSub, Int.reduceMul, ↓if_pos, ↓if_neg, Option.bind_some, Option.toList_some, Option.toList_none, List.append_nil, List.cons_append, List.nil_append, znat, znat1, zpm1, zcm1, zof0, zof1, zof2, zof3, zofa0, zofa1]
  exact s_fwLoop d hq h4 hn hw hb 101 0 (by omega) (by omega)
theorem mwf_dig {b : Nat → Int} {a : Nat} (h : mwf b a) : ∀ i, a + 1 ≤ i → i < a + 1 + (mnd (b a)).toNat → 48 ≤ b i ∧ b i ≤ 57 := mfd_all b _ _ h.2.1
/-- one statement on the class's coach in mind -/
theorem s_doSt (d : Nat) (hA : AbsC σ 6 K) (hO : mOk K) (hT : σ 6 2 = T) (hTr : 0 ≤ T ∧ T ≤ 999) {q : Nat} (hq : zSh q) {w : Nat → Int} {n : Nat} (h4 : σ q 4 = n) (hn : n ≤ 100) (hw : ∀ j, j < 100 → σ (q + 1) j = w j) (hb : ∀ j, j < 100 → -128 ≤ w j ∧ w j ≤ 127) {a : Nat} (ha : a < 200) (hf : mwf (mby w n) a) : (∃ K' T' σ', mexe (mby w n) a K T = some (K', T') ∧ zc (d + 5) mX2_doStatement [zR (some 6), zR (some q), zI a] σ = some (some (zI 1), σ') ∧ AbsC σ' 6 K' ∧ σ' 6 2 = T' ∧ zFr [6, 7, 8, 9, 10] σ σ') ∨ (mexe (mby w n) a K T = none ∧ zc (d + 5) mX2_doStatement [zR (some 6), zR (some q), zI a] σ = some (some (zI 0), σ)) := by
  have hp := hO.1
  have g1 : zc (d + 4) mX1_digitAt [zR (some q), zI ((a : Int) + 1)] σ = some (some (zI (mby w n (a + 1) - 48)), σ) := s_digitAt (d + 2) hq h4 hn hw (j := a + 1) (by omega)
  have g2 : zc (d + 4) mX1_digitAt [zR (some q), zI ((a : Int) + 2)] σ = some (some (zI (mby w n (a + 2) - 48)), σ) := s_digitAt (d + 2) hq h4 hn hw (j := a + 2) (by omega)
  have g3 : zc (d + 4) mX1_digitAt [zR (some q), zI ((a : Int) + 3)] σ = some (some (zI (mby w n (a + 3) - 48)), σ) := s_digitAt (d + 2) hq h4 hn hw (j := a + 3) (by omega)
  have gb := s_byteAt (d + 3) hq h4 hn hw (j := a) (by omega)
  have r2 := mby_rng hn hb (a + 2)
  have hdg := mwf_dig hf
  rcases mnd_case hf.1 with hL | hL | hL | hL | hL | hL
  · have em : mnd (mby w n a) = 1 := by rw [hL]; rfl
    rw [em] at hdg
    obtain ⟨e1, l1⟩ := mD_is (hdg (a + 1) (by omega) (by show a + 1 < a + 1 + 1; omega))
    rw [e1] at g1
    have ex : mexe (mby w n) a K T = if mD (mby w n) (a + 1) < K.1 then some (if K.2.2.2.2.2 (mD (mby w n) (a + 1)) = 1 then mfree K (mD (mby w n) (a + 1)) else mblk K ((2 ^ mD (mby w n) (a + 1) : Nat) : Int), T) else none := if_pos hL
    generalize mD (mby w n) (a + 1) = r at g1 ex l1
    by_cases c : r < K.1
    · rw [if_pos c] at ex
      obtain ⟨σ', k1, k2, k3, k4⟩ := s_blockOrFree (d + 2) zCo6 hA hO c
      refine Or.inl ⟨_, _, σ', ex, ?_, k2, by rw [k3]; exact hT, zFr_mono k4 (by simp)⟩
      rw [e_X2_doStatement _ _ zCo6 hq]
      simp (disch := omega) only [nrm_id, zix, ↓reduceIte, if_true, if_false, true_and, and_true, false_and, and_false, not_true_eq_false, not_false_eq_true, Int.reduceAdd, Int.reduceSub, Int.reduceMul, ↓if_pos, ↓if_neg, Option.bind_some, Option.toList_some, Option.toList_none, List.append_nil, List.cons_append, List.nil_append, znat, znat1, zpm1, zcm1, zof0, zof1, zof2, zof3, zofa0, zofa1, g1, b_X2_doStatement_7 _ _ _ zCo6 hq, g2, b_X2_doStatement_15 _ _ _ _ zCo6 hq, gb, hL, b_X2_doStatement_22 _ _ _ _ _ zCo6 hq, k1, b_X2_doStatement_112 _ _ _ _ _ zCo6 hq, or_true]
    · rw [if_neg c] at ex
      have k1 := s_blockOrFreeN (d + 2) zCo6 hA hO (x := (r : Int)) (by omega) (by omega) (by omega)
      refine Or.inr ⟨ex, ?_⟩
      rw [e_X2_doStatement _ _ zCo6 hq]
      simp (disch := omega) only [nrm_id, zix, ↓reduceIte, if_true, if_false, true_and, and_true, false_and, and_false, not_true_eq_false, not_false_eq_true, Int.reduceAdd, Int.reduceSub, Int.reduceMul, ↓if_pos, ↓if_neg, Option.bind_some, Option.toList_some, Option.toList_none, List.append_nil, List.cons_append, List.nil_append, znat, znat1, zpm1, zcm1, zof0, zof1, zof2, zof3, zofa0, zofa1, g1, b_X2_doStatement_7 _ _ _ zCo6 hq, g2, b_X2_doStatement_15 _ _ _ _ zCo6 hq, gb, hL, b_X2_doStatement_22 _ _ _ _ _ zCo6 hq, k1, b_X2_doStatement_112 _ _ _ _ _ zCo6 hq, true_or]
  · have em : mnd (mby w n a) = 2 := by rw [hL]; rfl
    rw [em] at hdg
    obtain ⟨e1, l1⟩ := mD_is (hdg (a + 1) (by omega) (by show a + 1 < a + 1 + 2; omega))
    obtain ⟨e2, l2⟩ := mD_is (hdg (a + 2) (by omega) (by show a + 2 < a + 1 + 2; omega))
    rw [e1] at g1
    rw [e2] at g2
    have ex : mexe (mby w n) a K T = if 10 * mD (mby w n) (a + 1) + mD (mby w n) (a + 2) ≤ 23 then some ((K.1, ((10 * mD (mby w n) (a + 1) + mD (mby w n) (a + 2) : Nat) : Int), K.2.2), T) else none := by
      unfold mexe
      rw [hL]
      rfl
    generalize mD (mby w n) (a + 1) = r at g1 ex l1
    generalize mD (mby w n) (a + 2) = s at g2 ex l2
    have e10 : ((10 * r + s : Nat) : Int) = 10 * (r : Int) + (s : Int) := by omega
    rw [e10] at ex
    have k1 := s_setClock (d + 4) zCo6 σ (v := 10 * (r : Int) + (s : Int)) (by omega) (by omega)
    by_cases c : 10 * r + s ≤ 23
    · rw [if_pos c] at ex
      rw [if_pos (by omega)] at k1
      refine Or.inl ⟨_, _, zup σ 6 1 (10 * (r : Int) + (s : Int)), ex, ?_, AbsC_clock hA _, by rw [zup_ix (by decide)]; exact hT, zFr_up (by simp)⟩
      rw [e_X2_doStatement _ _ zCo6 hq]
      simp (disch := omega) only [nrm_id, zix, ↓reduceIte, if_true, if_false, true_and, and_true, false_and, and_false, not_true_eq_false, not_false_eq_true, Int.reduceAdd, Int.reduceSub, Int.reduceMul, ↓if_pos, ↓if_neg, Option.bind_some, Option.toList_some, Option.toList_none, List.append_nil, List.cons_append, List.nil_append, znat, znat1, zpm1, zcm1, zof0, zof1, zof2, zof3, zofa0, zofa1, g1, b_X2_doStatement_7 _ _ _ zCo6 hq, g2, b_X2_doStatement_15 _ _ _ _ zCo6 hq, gb, hL, b_X2_doStatement_22 _ _ _ _ _ zCo6 hq, k1, b_X2_doStatement_124 _ _ _ _ _ zCo6 hq, or_true]
    · rw [if_neg c] at ex
      rw [if_neg (by omega)] at k1
      refine Or.inr ⟨ex, ?_⟩
      rw [e_X2_doStatement _ _ zCo6 hq]
      simp (disch := omega) only [nrm_id, zix, ↓reduceIte, if_true, if_false, true_and, and_true, false_and, and_false, not_true_eq_false, not_false_eq_true, Int.reduceAdd, Int.reduceSub, Int.reduceMul, ↓if_pos, ↓if_neg, Option.bind_some, Option.toList_some, Option.toList_none, List.append_nil, List.cons_append, List.nil_append, znat, znat1, zpm1, zcm1, zof0, zof1, zof2, zof3, zofa0, zofa1, g1, b_X2_doStatement_7 _ _ _ zCo6 hq, g2, b_X2_doStatement_15 _ _ _ _ zCo6 hq, gb, hL, b_X2_doStatement_22 _ _ _ _ _ zCo6 hq, k1, b_X2_doStatement_124 _ _ _ _ _ zCo6 hq, true_or]
  · have em : mnd (mby w n a) = 2 := by rw [hL]; rfl
    rw [em] at hdg
    obtain ⟨e1, l1⟩ := mD_is (hdg (a + 1) (by omega) (by show a + 1 < a + 1 + 2; omega))
    obtain ⟨e2, l2⟩ := mD_is (hdg (a + 2) (by omega) (by show a + 2 < a + 1 + 2; omega))
    rw [e1] at g1
    rw [e2] at g2
    have ex : mexe (mby w n) a K T = if K.1 < 8 ∧ mD (mby w n) (a + 1) ≤ 7 then some (madd K (mD (mby w n) (a + 1)) (mD (mby w n) (a + 2)), T) else none := by
      unfold mexe
      rw [hL]
      rfl
    generalize mD (mby w n) (a + 1) = r at g1 ex l1
    generalize mD (mby w n) (a + 2) = s at g2 ex l2
    by_cases c : K.1 < 8 ∧ r ≤ 7
    · rw [if_pos c] at ex
      obtain ⟨σ', k1, k2, k3, k4⟩ := s_sitDown (d + 4) zCo6 hA hO (k := (r : Int)) (f := (s : Int)) (by omega) (by omega) c.1
      refine Or.inl ⟨_, _, σ', ex, ?_, k2, by rw [k3]; exact hT, zFr_mono k4 (by simp)⟩
      rw [e_X2_doStatement _ _ zCo6 hq]
      simp (disch := omega) only [nrm_id, zix, ↓reduceIte, if_true, if_false, true_and, and_true, false_and, and_false, not_true_eq_false, not_false_eq_true, Int.reduceAdd, Int.reduceSub, Int.reduceMul, ↓if_pos, ↓if_neg, Option.bind_some, Option.toList_some, Option.toList_none, List.append_nil, List.cons_append, List.nil_append, znat, znat1, zpm1, zcm1, zof0, zof1, zof2, zof3, zofa0, zofa1, g1, b_X2_doStatement_7 _ _ _ zCo6 hq, g2, b_X2_doStatement_15 _ _ _ _ zCo6 hq, gb, hL, b_X2_doStatement_22 _ _ _ _ _ zCo6 hq, k1, b_X2_doStatement_87 _ _ _ _ _ zCo6 hq, or_true]
    · rw [if_neg c] at ex
      have k1 := s_sitDownN (d + 4) zCo6 hA hO (k := (r : Int)) (f := (s : Int)) (by omega) (by omega) (by omega)
      refine Or.inr ⟨ex, ?_⟩
      rw [e_X2_doStatement _ _ zCo6 hq]
      simp (disch := omega) only [nrm_id, zix, ↓reduceIte, if_true, if_false, true_and, and_true, false_and, and_false, not_true_eq_false, not_false_eq_true, Int.reduceAdd, Int.reduceSub, Int.reduceMul, ↓if_pos, ↓if_neg, Option.bind_some, Option.toList_some, Option.toList_none, List.append_nil, List.cons_append, List.nil_append, znat, znat1, zpm1, zcm1, zof0, zof1, zof2, zof3, zofa0, zofa1, g1, b_X2_doStatement_7 _ _ _ zCo6 hq, g2, b_X2_doStatement_15 _ _ _ _ zCo6 hq, gb, hL, b_X2_doStatement_22 _ _ _ _ _ zCo6 hq, k1, b_X2_doStatement_87 _ _ _ _ _ zCo6 hq, true_or]
  · have em : mnd (mby w n a) = 2 := by rw [hL]; rfl
    rw [em] at hdg
    obtain ⟨e1, l1⟩ := mD_is (hdg (a + 1) (by omega) (by show a + 1 < a + 1 + 2; omega))
    obtain ⟨e2, l2⟩ := mD_is (hdg (a + 2) (by omega) (by show a + 2 < a + 1 + 2; omega))
    rw [e1] at g1
    rw [e2] at g2
    have ex : mexe (mby w n) a K T = if (1 ≤ 10 * mD (mby w n) (a + 1) + mD (mby w n) (a + 2) ∧ 10 * mD (mby w n) (a + 1) + mD (mby w n) (a + 2) ≤ 60) ∧ T + ((10 * mD (mby w n) (a + 1) + mD (mby w n) (a + 2) : Nat) : Int) ≤ 999 then some (mrounds (10 * mD (mby w n) (a + 1) + mD (mby w n) (a + 2)) K, T + ((10 * mD (mby w n) (a + 1) + mD (mby w n) (a + 2) : Nat) : Int)) else none := by
      unfold mexe
      rw [hL]
      rfl
    generalize mD (mby w n) (a + 1) = r at g1 ex l1
    generalize mD (mby w n) (a + 2) = s at g2 ex l2
    have e10 : ((10 * r + s : Nat) : Int) = 10 * (r : Int) + (s : Int) := by omega
    by_cases c : (1 ≤ 10 * r + s ∧ 10 * r + s ≤ 60) ∧ T + ((10 * r + s : Nat) : Int) ≤ 999
    · rw [if_pos c] at ex
      obtain ⟨σ', k1, k2, k3, k4⟩ := s_travel d zCo6 hA hO hT hTr (n := 10 * r + s) c.1 c.2
      rw [e10] at k1
      refine Or.inl ⟨_, _, σ', ex, ?_, k2, k3, zFr_mono k4 (by simp)⟩
      rw [e_X2_doStatement _ _ zCo6 hq]
      simp (disch := omega) only [nrm_id, zix, ↓reduceIte, if_true, if_false, true_and, and_true, false_and, and_false, not_true_eq_false, not_false_eq_true, Int.reduceAdd, Int.reduceSub, Int.reduceMul, ↓if_pos, ↓if_neg, Option.bind_some, Option.toList_some, Option.toList_none, List.append_nil, List.cons_append, List.nil_append, znat, znat1, zpm1, zcm1, zof0, zof1, zof2, zof3, zofa0, zofa1, g1, b_X2_doStatement_7 _ _ _ zCo6 hq, g2, b_X2_doStatement_15 _ _ _ _ zCo6 hq, gb, hL, b_X2_doStatement_22 _ _ _ _ _ zCo6 hq, k1, b_X2_doStatement_136 _ _ _ _ _ zCo6 hq, or_true]
    · rw [if_neg c] at ex
      have k1 := s_travelN d zCo6 hT hTr (n := 10 * (r : Int) + (s : Int)) (by omega) (by omega) (by omega)
      refine Or.inr ⟨ex, ?_⟩
      clear c
      rw [e_X2_doStatement _ _ zCo6 hq]
      simp (disch := omega) only [nrm_id, zix, ↓reduceIte, if_true, if_false, true_and, and_true, false_and, and_false, not_true_eq_false, not_false_eq_true, Int.reduceAdd, Int.reduceSub, Int.reduceMul, ↓if_pos, ↓if_neg, Option.bind_some, Option.toList_some, Option.toList_none, List.append_nil, List.cons_append, List.nil_append, znat, znat1, zpm1, zcm1, zof0, zof1, zof2, zof3, zofa0, zofa1, g1, b_X2_doStatement_7 _ _ _ zCo6 hq, g2, b_X2_doStatement_15 _ _ _ _ zCo6 hq, gb, hL, b_X2_doStatement_22 _ _ _ _ _ zCo6 hq, k1, b_X2_doStatement_136 _ _ _ _ _ zCo6 hq, true_or]
  · have em : mnd (mby w n a) = 3 := by rw [hL]; rfl
    rw [em] at hdg
    obtain ⟨e1, l1⟩ := mD_is (hdg (a + 1) (by omega) (by show a + 1 < a + 1 + 3; omega))
    obtain ⟨e2, l2⟩ := mD_is (hdg (a + 2) (by omega) (by show a + 2 < a + 1 + 3; omega))
    obtain ⟨e3, l3⟩ := mD_is (hdg (a + 3) (by omega) (by show a + 3 < a + 1 + 3; omega))
    rw [e1] at g1
    rw [e2] at g2
    rw [e3] at g3
    have ex : mexe (mby w n) a K T = if mD (mby w n) (a + 1) < K.1 ∧ ((10 * mD (mby w n) (a + 2) + mD (mby w n) (a + 3) : Nat) : Int) ≤ mcan K (mD (mby w n) (a + 1)) then some (Kst K (fun j => if j = mD (mby w n) (a + 1) then ((10 * mD (mby w n) (a + 2) + mD (mby w n) (a + 3) : Nat) : Int) else K.2.2.2.2.1 j), T) else none := by
      unfold mexe
      rw [hL]
      rfl
    generalize mD (mby w n) (a + 1) = r at g1 ex l1
    generalize mD (mby w n) (a + 2) = s at g2 ex l2
    generalize mD (mby w n) (a + 3) = t at g3 ex l3
    have e10 : ((10 * s + t : Nat) : Int) = 10 * (s : Int) + (t : Int) := by omega
    rw [e10] at ex
    by_cases c : r < K.1
    · have k1 := s_setTip (d + 2) zCo6 hA hO c (v := 10 * (s : Int) + (t : Int)) (by omega) (by omega)
      by_cases c2 : 10 * (s : Int) + (t : Int) ≤ mcan K r
      · rw [if_pos ⟨c, c2⟩] at ex
        rw [if_pos (by omega)] at k1
        refine Or.inl ⟨_, _, zup σ 9 r (10 * (s : Int) + (t : Int)), ex, ?_, AbsC_tip hA, by rw [zup_ne (by decide)]; exact hT, zFr_up (by simp)⟩
        rw [e_X2_doStatement _ _ zCo6 hq]
        simp (disch := omega) only [nrm_id, zix, ↓reduceIte, if_true, if_false, true_and, and_true, false_and, and_false, not_true_eq_false, not_false_eq_true, Int.reduceAdd, Int.reduceSub, Int.reduceMul, ↓if_pos, ↓if_neg, Option.bind_some, Option.toList_some, Option.toList_none, List.append_nil, List.cons_append, List.nil_append, znat, znat1, zpm1, zcm1, zof0, zof1, zof2, zof3, zofa0, zofa1, g1, b_X2_doStatement_7 _ _ _ zCo6 hq, g2, b_X2_doStatement_15 _ _ _ _ zCo6 hq, gb, hL, b_X2_doStatement_22 _ _ _ _ _ zCo6 hq, g3, b_X2_doStatement_102 _ _ _ _ _ _ _ zCo6 hq, k1, b_X2_doStatement_106 _ _ _ _ _ zCo6 hq, or_true]
      · rw [if_neg (fun z => c2 z.2)] at ex
        rw [if_neg (by omega)] at k1
        refine Or.inr ⟨ex, ?_⟩
        rw [e_X2_doStatement _ _ zCo6 hq]
        simp (disch := omega) only [nrm_id, zix, ↓reduceIte, if_true, if_false, true_and, and_true, false_and, and_false, not_true_eq_false, not_false_eq_true, Int.reduceAdd, Int.reduceSub, Int.reduceMul, ↓if_pos, ↓if_neg, Option.bind_some, Option.toList_some, Option.toList_none, List.append_nil, List.cons_append, List.nil_append, znat, znat1, zpm1, zcm1, zof0, zof1, zof2, zof3, zofa0, zofa1, g1, b_X2_doStatement_7 _ _ _ zCo6 hq, g2, b_X2_doStatement_15 _ _ _ _ zCo6 hq, gb, hL, b_X2_doStatement_22 _ _ _ _ _ zCo6 hq, g3, b_X2_doStatement_102 _ _ _ _ _ _ _ zCo6 hq, k1, b_X2_doStatement_106 _ _ _ _ _ zCo6 hq, true_or]
    · rw [if_neg (fun z => c z.1)] at ex
      have k1 := s_setTipN (d + 2) zCo6 hA hO (x := (r : Int)) (by omega) (by omega) (by omega) (10 * (s : Int) + (t : Int))
      refine Or.inr ⟨ex, ?_⟩
      rw [e_X2_doStatement _ _ zCo6 hq]
      simp (disch := omega) only [nrm_id, zix, ↓reduceIte, if_true, if_false, true_and, and_true, false_and, and_false, not_true_eq_false, not_false_eq_true, Int.reduceAdd, Int.reduceSub, Int.reduceMul, ↓if_pos, ↓if_neg, Option.bind_some, Option.toList_some, Option.toList_none, List.append_nil, List.cons_append, List.nil_append, znat, znat1, zpm1, zcm1, zof0, zof1, zof2, zof3, zofa0, zofa1, g1, b_X2_doStatement_7 _ _ _ zCo6 hq, g2, b_X2_doStatement_15 _ _ _ _ zCo6 hq, gb, hL, b_X2_doStatement_22 _ _ _ _ _ zCo6 hq, g3, b_X2_doStatement_102 _ _ _ _ _ _ _ zCo6 hq, k1, b_X2_doStatement_106 _ _ _ _ _ zCo6 hq, true_or]
  · have em : mnd (mby w n a) = 2 := by rw [hL]; rfl
    rw [em] at hdg
    obtain ⟨e1, l1⟩ := mD_is (hdg (a + 1) (by omega) (by show a + 1 < a + 1 + 2; omega))
    obtain ⟨e2, l2⟩ := mD_is (hdg (a + 2) (by omega) (by show a + 2 < a + 1 + 2; omega))
    rw [e1] at g1
    rw [e2] at g2
    have ex : mexe (mby w n) a K T = if mD (mby w n) (a + 1) < K.1 ∧ mD (mby w n) (a + 2) < K.1 ∧ mD (mby w n) (a + 1) ≠ mD (mby w n) (a + 2) then some (mchg K (mD (mby w n) (a + 1)) (mD (mby w n) (a + 2)), T) else none := by
      unfold mexe
      rw [hL]
      rfl
    generalize mD (mby w n) (a + 1) = r at g1 ex l1
    generalize mD (mby w n) (a + 2) = s at g2 ex l2
    by_cases c : r < K.1 ∧ s < K.1 ∧ r ≠ s
    · rw [if_pos c] at ex
      obtain ⟨σ', k1, k2, k3, k4⟩ := s_changePlaces (d + 1) zCo6 hA hO c.1 c.2.1 c.2.2
      refine Or.inl ⟨_, _, σ', ex, ?_, k2, by rw [k3]; exact hT, zFr_mono k4 (by simp)⟩
      rw [e_X2_doStatement _ _ zCo6 hq]
      simp (disch := omega) only [nrm_id, zix, ↓reduceIte, if_true, if_false, true_and, and_true, false_and, and_false, not_true_eq_false, not_false_eq_true, Int.reduceAdd, Int.reduceSub, Int.reduceMul, ↓if_pos, ↓if_neg, Option.bind_some, Option.toList_some, Option.toList_none, List.append_nil, List.cons_append, List.nil_append, znat, znat1, zpm1, zcm1, zof0, zof1, zof2, zof3, zofa0, zofa1, g1, b_X2_doStatement_7 _ _ _ zCo6 hq, g2, b_X2_doStatement_15 _ _ _ _ zCo6 hq, gb, hL, b_X2_doStatement_22 _ _ _ _ _ zCo6 hq, k1, b_X2_doStatement_144 _ _ _ _ _ zCo6 hq, or_true]
    · rw [if_neg c] at ex
      have k1 := s_changePlacesN (d + 1) zCo6 hA hO (x := (r : Int)) (y := (s : Int)) (by omega) (by omega) (by omega) (by omega) (by omega)
      refine Or.inr ⟨ex, ?_⟩
      clear c
      rw [e_X2_doStatement _ _ zCo6 hq]
      simp (disch := omega) only [nrm_id, zix, ↓reduceIte, if_true, if_false, true_and, and_true, false_and, and_false, not_true_eq_false, not_false_eq_true, Int.reduceAdd, Int.reduceSub, Int.reduceMul, ↓if_pos, ↓if_neg, Option.bind_some, Option.toList_some, Option.toList_none, List.append_nil, List.cons_append, List.nil_append, znat, znat1, zpm1, zcm1, zof0, zof1, zof2, zof3, zofa0, zofa1, g1, b_X2_doStatement_7 _ _ _ zCo6 hq, g2, b_X2_doStatement_15 _ _ _ _ zCo6 hq, gb, hL, b_X2_doStatement_22 _ _ _ _ _ zCo6 hq, k1, b_X2_doStatement_144 _ _ _ _ _ zCo6 hq, true_or]
end SYS31
