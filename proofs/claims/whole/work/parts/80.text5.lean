/-- what a text does: the answer; the coach then, none: as it was -/
def mco (b : Nat → Int) (n : Nat) (K : zK) (T : Int) : Int × Option (zK × Int) := if n = 0 then (-1000, none) else if (mtx b n 101 0).2 = -1 then (match (mrn b n 101 0 K T).1 with
    | some s => (((mtx b n 101 0).1 : Int), some s)
    | none => ((mrn b n 101 0 K T).2, none)) else (-1000 - (mtx b n 101 0).2, none)
theorem mco_0 {b : Nat → Int} {n : Nat} {K : zK} {T : Int} (h : n = 0) : mco b n K T = (-1000, none) := if_pos h
theorem mco_f {b : Nat → Int} {n : Nat} {K : zK} {T : Int} (h : n ≠ 0) (h2 : (mtx b n 101 0).2 ≠ -1) : mco b n K T = (-1000 - (mtx b n 101 0).2, none) := by
  unfold mco
  rw [if_neg h, if_neg h2]
theorem mco_y {b : Nat → Int} {n : Nat} {K : zK} {T : Int} {s : zK × Int} {v : Int} (h : n ≠ 0) (h2 : (mtx b n 101 0).2 = -1) (h3 : mrn b n 101 0 K T = (some s, v)) : mco b n K T = (((mtx b n 101 0).1 : Int), some s) := by
  unfold mco
  rw [if_neg h, if_pos h2, h3]
theorem mco_n {b : Nat → Int} {n : Nat} {K : zK} {T : Int} {v : Int} (h : n ≠ 0) (h2 : (mtx b n 101 0).2 = -1) (h3 : mrn b n 101 0 K T = (none, v)) : mco b n K T = (v, none) := by
  unfold mco
  rw [if_neg h, if_pos h2, h3]
theorem mtx_e {b : Nat → Int} {n f a : Nat} (h : n ≤ a) : mtx b n f a = (0, -1) := by
  cases f with
  | zero => rfl
  | succ f => rw [mtx_s, if_pos h]
theorem mrn_e0 {b : Nat → Int} {n f a : Nat} {K : zK} {T : Int} (h : n ≤ a) : mrn b n f a K T = (some (K, T), 0) := by
  cases f with
  | zero => rfl
  | succ f => exact mrn_e h
/-- no fault from a on: a statement stands there, and none behind it -/
theorem mtx_ok {b : Nat → Int} {n f a : Nat} (ha : a < n) (h : (mtx b n (f + 1) a).2 = -1) : mwf b a ∧ (mtx b n f (men b a + 1)).2 = -1 ∧ (mtx b n (f + 1) a).1 = (mtx b n f (men b a + 1)).1 + 1 := by
  by_cases q : mwf b a
  · rw [mtx_y ha q] at h ⊢
    exact ⟨q, h, rfl⟩
  · rw [mtx_n ha q] at h
    have h2 : ((mfp b a : Nat) : Int) = -1 := h
    omega
theorem mwf_men {w : Nat → Int} {n a : Nat} (h : mwf (mby w n) a) : men (mby w n) a < n := mby_in (by rw [h.2.2]; decide)
theorem mwf_9 {b : Nat → Int} {a : Nat} (h : mwf b a) : b a = 112 → mD b (a + 2) ≤ 9 := fun e => (mD_is (mwf_dig h (a + 2) (by omega) (by rw [e]; show a + 2 < a + 1 + 2; omega))).2
section SYS35
variable {σ : zS} {K : zK} {T : Int}
/-- bytes that end no statement are passed by -/
theorem s_dsScan (d : Nat) {q : Nat} (hq : zSh q) {w : Nat → Int} {n : Nat} (h4 : σ q 4 = n) (hn : n ≤ 100) (hw : ∀ j, j < 100 → σ (q + 1) j = w j) (hb : ∀ j, j < 100 → -128 ≤ w j ∧ w j ≤ 127) (cnt a : Nat) : ∀ m j : Nat, j + m ≤ n → (∀ i, j ≤ i → i < j + m → mby w n i ≠ 59) → zq (d + 6) mX2_doStatements 7 [some (zR (some 6)), some (zR (some q)), some (zI cnt), some (zI a), some (zI j)] [] σ = zq (d + 6) mX2_doStatements 7 [some (zR (some 6)), some (zR (some q)), some (zI cnt), some (zI a), some (zI ((j + m : Nat) : Int))] [] σ := by
  intro m
  induction m with
  | zero => intro j _ _; rfl
  | succ m ih =>
    intro j hj h
    have hy := s_byteAt (d + 4) hq h4 hn hw (j := j) (by omega)
    have hr := mby_rng hn hb j
    have h9 := h j (Nat.le_refl _) (by omega)
    have k := ih (j + 1) (by omega) (fun i h1 h2 => h i (by omega) (by omega))
    rw [show j + 1 + m = j + (m + 1) from by omega, show ((j + 1 : Nat) : Int) = (j : Int) + 1 from by omega] at k
    refine Eq.trans ?_ k
    clear k h ih
    rw [b_X2_doStatements_7 _ _ _ _ zCo6 hq, h4]
    simp (disch := omega) only [nrm_id, zix, ↓reduceIte, if_true, if_false, true_and, and_true, false_and, and_false, not_true_eq_false, not_false_eq_true, Int.reduceAdd, Int.reduceSub, Int.reduceMul, ↓if_pos, ↓if_neg, Option.bind_some, Option.toList_some, Option.toList_none, List.append_nil, List.cons_append, List.nil_append, znat, znat1, zpm1, zcm1, zof0, zof1, zof2, zof3, zofa0, zofa1, hy, b_X2_doStatements_22 _ _ _ _ _ zCo6 hq, b_X2_doStatements_50 _ _ _ _ zCo6 hq]
theorem s_doSts (d : Nat) {q : Nat} (hq : zSh q) (hq6 : q ∉ [6, 7, 8, 9, 10] ∧ q + 1 ∉ [6, 7, 8, 9, 10]) {w : Nat → Int} {n : Nat} (h4 : σ q 4 = n) (hn : n ≤ 100) (hw : ∀ j, j < 100 → σ (q + 1) j = w j) (hb : ∀ j, j < 100 → -128 ≤ w j ∧ w j ≤ 127) : ∀ (f a cnt : Nat) (K : zK) (T : Int) (τ : zS), n < a + f → a ≤ 100 → cnt + f ≤ 300 → (mtx (mby w n) n f a).2 = -1 → AbsC τ 6 K → mOk K → τ 6 2 = T → (0 ≤ T ∧ T ≤ 999) → zFr [6, 7, 8, 9, 10] σ τ → (∃ K' T' τ', mrn (mby w n) n f a K T = (some (K', T'), 0) ∧ zq (d + 6) mX2_doStatements 7 [some (zR (some 6)), some (zR (some q)), some (zI cnt), some (zI a), some (zI a)] [] τ = some (some (zI ((cnt + (mtx (mby w n) n f a).1 : Nat) : Int)), τ') ∧ AbsC τ' 6 K' ∧ mOk K' ∧ τ' 6 2 = T' ∧ (0 ≤ T' ∧ T' ≤ 999) ∧ zFr [6, 7, 8, 9, 10] τ τ') ∨ (∃ v τ', mrn (mby w n) n f a K T = (none, v) ∧ (-2200 ≤ v ∧ v ≤ -2000) ∧ zq (d + 6) mX2_doStatements 7 [some (zR (some 6)), some (zR (some q)), some (zI cnt), some (zI a), some (zI a)] [] τ = some (some (zI v), τ') ∧ zFr [6, 7, 8, 9, 10] τ τ') := by
  intro f
  induction f with
  | zero =>
    intro a cnt K T τ ha ha2 hc hm hA hO hT hTr hF
    have h4' : τ q 4 = n := by rw [hF q hq6.1]; exact h4
    refine Or.inl ⟨K, T, τ, rfl, ?_, hA, hO, hT, hTr, zFr_rf _ _⟩
    rw [b_X2_doStatements_7 _ _ _ _ zCo6 hq, h4']
    simp (disch := omega) only [nrm_id, zix, ↓reduceIte, if_true, if_false, true_and, and_true, false_and, and_false, not_true_eq_false, not_false_eq_true, Int.reduceAdd, Int.reduceSub, Int.reduceMul, ↓if_pos, ↓if_neg, Option.bind_some, Option.toList_some, Option.toList_none, List.append_nil, List.cons_append, List.nil_append, znat, znat1, zpm1, zcm1, zof0, zof1, zof2, zof3, zofa0, zofa1]
    rfl
  | succ f ih =>
    intro a cnt K T τ ha ha2 hc hm hA hO hT hTr hF
    have h4' : τ q 4 = n := by rw [hF q hq6.1]; exact h4
    have hw' : ∀ j, j < 100 → τ (q + 1) j = w j := fun j hj => by rw [hF _ hq6.2]; exact hw j hj
    by_cases h0 : n ≤ a
    · refine Or.inl ⟨K, T, τ, mrn_e h0, ?_, hA, hO, hT, hTr, zFr_rf _ _⟩
      rw [b_X2_doStatements_7 _ _ _ _ zCo6 hq, h4', mtx_e h0]
      simp (disch := omega) only [nrm_id, zix, ↓reduceIte, if_true, if_false, true_and, and_true, false_and, and_false, not_true_eq_false, not_false_eq_true, Int.reduceAdd, Int.reduceSub, Int.reduceMul, ↓if_pos, ↓if_neg, Option.bind_some, Option.toList_some, Option.toList_none, List.append_nil, List.cons_append, List.nil_append, znat, znat1, zpm1, zcm1, zof0, zof1, zof2, zof3, zofa0, zofa1]
      rfl
    · obtain ⟨hf, hm2, hm1⟩ := mtx_ok (by omega) hm
      have hen := mwf_men hf
      have hnd := mnd_rng (mby w n a)
      have hbr := mby_rng hn hb a
      have hfn : 0 ≤ mnd (mby w n a) := hf.1
      have hle : a ≤ men (mby w n) a := by unfold men; omega
      have sc := s_dsScan (σ := τ) d hq h4' hn hw' hb cnt a (men (mby w n) a - a) a (by omega) (fun i h1 h2 => by
        by_cases e : i = a
        · intro e9
          rw [e] at e9
          rw [e9] at hfn
          exact absurd hfn (by decide)
        · have := mwf_dig hf i (by omega) (by unfold men at *; omega)
          omega)
      rw [show a + (men (mby w n) a - a) = men (mby w n) a from by omega] at sc
      have hy := s_byteAt (σ := τ) (d + 4) hq h4' hn hw' (j := men (mby w n) a) (by omega)
      rw [hf.2.2] at hy
      rcases s_doSt d hA hO hT hTr hq h4' hn hw' hb (a := a) (by omega) hf with ⟨K1, T1, τ1, ex, g1, g2, g3, g4⟩ | ⟨ex, g1⟩
      · obtain ⟨hO1, hT1r⟩ := mexe_ok hO hTr (mwf_9 hf) ex
        have hF1 : zFr [6, 7, 8, 9, 10] σ τ1 := zFr_tr hF g4
        have hst : zq (d + 6) mX2_doStatements 7 [some (zR (some 6)), some (zR (some q)), some (zI cnt), some (zI a), some (zI a)] [] τ = zq (d + 6) mX2_doStatements 7 [some (zR (some 6)), some (zR (some q)), some (zI ((cnt + 1 : Nat) : Int)), some (zI ((men (mby w n) a + 1 : Nat) : Int)), some (zI ((men (mby w n) a + 1 : Nat) : Int))] [] τ1 := by
          refine sc.trans ?_
          rw [show ((cnt + 1 : Nat) : Int) = (cnt : Int) + 1 from by omega, show ((men (mby w n) a + 1 : Nat) : Int) = (men (mby w n) a : Int) + 1 from by omega]
          clear ih sc hbr hnd
          rw [b_X2_doStatements_7 _ _ _ _ zCo6 hq, h4']
          simp (disch := omega) only [nrm_id, zix, ↓reduceIte, if_true, if_false, true_and, and_true, false_and, and_false, not_true_eq_false, not_false_eq_true, Int.reduceAdd, Int.reduceSub, Int.reduceMul, ↓if_pos, ↓if_neg, Option.bind_some, Option.toList_some, Option.toList_none, List.append_nil, List.cons_append, List.nil_append, znat, znat1, zpm1, zcm1, zof0, zof1, zof2, zof3, zofa0, zofa1, hy, b_X2_doStatements_22 _ _ _ _ _ zCo6 hq, g1, b_X2_doStatements_33 _ _ _ _ _ zCo6 hq, b_X2_doStatements_50 _ _ _ _ zCo6 hq]
        rcases ih (men (mby w n) a + 1) (cnt + 1) K1 T1 τ1 (by omega) (by omega) (by omega) hm2 g2 hO1 g3 hT1r hF1 with ⟨K', T', τ', k1, k2, k3, k4, k5, k6, k7⟩ | ⟨v, τ', k1, k2, k3, k4⟩
        · refine Or.inl ⟨K', T', τ', (mrn_y (by omega) ex).trans k1, ?_, k3, k4, k5, k6, zFr_tr g4 k7⟩
          rw [hst, hm1, show cnt + ((mtx (mby w n) n f (men (mby w n) a + 1)).1 + 1) = cnt + 1 + (mtx (mby w n) n f (men (mby w n) a + 1)).1 from by omega]
          exact k2
        · exact Or.inr ⟨v, τ', (mrn_y (by omega) ex).trans k1, k2, hst.trans k3, zFr_tr g4 k4⟩
      · refine Or.inr ⟨-2000 - (a : Int), τ, mrn_n (by omega) ex, by omega, ?_, zFr_rf _ _⟩
        refine sc.trans ?_
        clear ih sc hbr hnd
        rw [b_X2_doStatements_7 _ _ _ _ zCo6 hq, h4']
        simp (disch := omega) only [nrm_id, zix, ↓reduceIte, if_true, if_false, true_and, and_true, false_and, and_false, not_true_eq_false, not_false_eq_true, Int.reduceAdd, Int.reduceSub, Int.reduceMul, ↓if_pos, ↓if_neg, Option.bind_some, Option.toList_some, Option.toList_none, List.append_nil, List.cons_append, List.nil_append, znat, znat1, zpm1, zcm1, zof0, zof1, zof2, zof3, zofa0, zofa1, hy, b_X2_doStatements_22 _ _ _ _ _ zCo6 hq, g1, b_X2_doStatements_33 _ _ _ _ _ zCo6 hq]
theorem s_coach (d : Nat) (hA : AbsC σ 1 K) (hO : mOk K) (hT : σ 1 2 = T) (hTr : 0 ≤ T ∧ T ≤ 999) {i : Nat} (hi : i < 8) {w : Nat → Int} {n : Nat} (h0 : σ (20 + 2 * i) 0 = 2) (h3 : σ (20 + 2 * i) 3 = 0) (h4 : σ (20 + 2 * i) 4 = n) (hn : n ≤ 100) (hw : ∀ j, j < 100 → σ (20 + 2 * i + 1) j = w j) (hb : ∀ j, j < 100 → -128 ≤ w j ∧ w j ≤ 127) : ∃ σ', zc (d + 8) mX2_coach [zR (some 0), zI i] σ = some (some (zI (mco (mby w n) n K T).1), σ') ∧ ((mco (mby w n) n K T).2 = none → zFr [6, 7, 8, 9, 10] σ σ') ∧ (∀ s, (mco (mby w n) n K T).2 = some s → AbsC σ' 1 s.1 ∧ mOk s.1 ∧ σ' 1 2 = s.2 ∧ (0 ≤ s.2 ∧ s.2 ≤ 999) ∧ zFr [1, 2, 3, 4, 6, 7, 8, 9, 10] σ σ') := by
  have hq := zSh_of i hi
  by_cases n0 : n = 0
  · rw [mco_0 n0]
    refine ⟨σ, ?_, fun _ => zFr_rf _ _, fun s e => by cases e⟩
    have fw : zc (d + 7) mX2_firstWrongByte [zR (some (20 + 2 * i))] σ = some (some (zI 0), σ) := by
      rw [e_X2_firstWrongByte _ hq, h4, n0]
      simp (disch := omega) only [nrm_id, zix, ↓reduceIte, if_true, if_false, true_and, and_true, false_and, and_false, not_true_eq_false, not_false_eq_true, Int.reduceAdd, Int.reduceSub, Int.reduceMul, ↓if_pos, ↓if_neg, Option.bind_some, Option.toList_some, Option.toList_none, List.append_nil, List.cons_append, List.nil_append, znat, znat1, zpm1, zcm1, zof0, zof1, zof2, zof3, zofa0, zofa1]
    rw [e_X2_coach]
    simp (disch := omega) only [nrm_id, zix, ↓reduceIte, if_true, if_false, true_and, and_true, false_and, and_false, not_true_eq_false, not_false_eq_true, Int.reduceAdd, Int.reduceSub, Int.reduceMul, ↓if_pos, ↓if_neg, Option.bind_some, Option.toList_some, Option.toList_none, List.append_nil, List.cons_append, List.nil_append, znat, znat1, zpm1, zcm1, zof0, zof1, zof2, zof3, zofa0, zofa1, s_shelfAt _ _ hi, b_X2_coach_5 _ _ hq, h0, h3, fw, b_X2_coach_44 _ _ _ hq]
  · have fw := s_firstWrong (d + 4) hq h4 hn n0 hw hb
    have hr := mtx_rng (mby w n) n 101 0
    by_cases m0 : (mtx (mby w n) n 101 0).2 = -1
    · obtain ⟨σ1, a1, a2, a3, a4⟩ := s_copyFrom (d + 6) zCo6 zCo1 (by decide) hA
      have hF1 : zFr [6, 7, 8, 9, 10] σ σ1 := zFr_mono a4 (by simp)
      have hq6 : 20 + 2 * i ∉ [6, 7, 8, 9, 10] ∧ 20 + 2 * i + 1 ∉ [6, 7, 8, 9, 10] := by
        constructor <;> simp <;> omega
      rw [m0] at fw
      have hst : ∀ X, zc (d + 7) mX2_doStatements [zR (some 6), zR (some (20 + 2 * i))] σ1 = X → zc (d + 8) mX2_coach [zR (some 0), zI i] σ = X.bind fun r => zq (d + 8) mX2_coach 74 [some (zR (some 0)), some (zI i), some (zR (some (20 + 2 * i))), some (zI (-1)), none] (r.1.toList ++ []) r.2 := fun X hX => by
        rw [e_X2_coach]
        simp (disch := omega) only [nrm_id, zix, ↓reduceIte, if_true, if_false, true_and, and_true, false_and, and_false, not_true_eq_false, not_false_eq_true, Int.reduceAdd, Int.reduceSub, Int.reduceMul, ↓if_pos, ↓if_neg, Option.bind_some, Option.toList_some, Option.toList_none, List.append_nil, List.cons_append, List.nil_append, znat, znat1, zpm1, zcm1, zof0, zof1, zof2, zof3, zofa0, zofa1, s_shelfAt _ _ hi, b_X2_coach_5 _ _ hq, h0, h3, fw, b_X2_coach_44 _ _ _ hq, a1, b_X2_coach_66 _ _ _ hq, hX]
      rcases s_doSts (σ := σ1) (w := w) (n := n) (d + 1) hq hq6 (by rw [hF1 _ hq6.1]; exact h4) hn (fun j hj => by rw [hF1 _ hq6.2]; exact hw j hj) hb 101 0 0 K T σ1 (by omega) (by omega) (by omega) m0 a2 hO (by rw [a3]; exact hT) hTr (zFr_rf _ _) with ⟨K', T', σ2, k1, k2, k3, k4, k5, k6, k7⟩ | ⟨v, σ2, k1, k2, k3, k4⟩
      · rw [mco_y n0 m0 k1]
        obtain ⟨σ3, c1, c2, c3, c4⟩ := s_copyFrom (d + 6) zCo1 zCo6 (by decide) k3
        rw [Nat.zero_add] at k2
        have k2' : zc (d + 7) mX2_doStatements [zR (some 6), zR (some (20 + 2 * i))] σ1 = some (some (zI ((mtx (mby w n) n 101 0).1 : Int)), σ2) := by
          rw [e_X2_doStatements _ zCo6 hq]
          exact k2
        refine ⟨σ3, ?_, fun e => (by cases e), fun s e => ?_⟩
        · rw [hst _ k2']
          simp (disch := omega) only [nrm_id, zix, ↓reduceIte, if_true, if_false, true_and, and_true, false_and, and_false, not_true_eq_false, not_false_eq_true, Int.reduceAdd, Int.reduceSub, Int.reduceMul, ↓if_pos, ↓if_neg, Option.bind_some, Option.toList_some, Option.toList_none, List.append_nil, List.cons_append, List.nil_append, znat, znat1, zpm1, zcm1, zof0, zof1, zof2, zof3, zofa0, zofa1, b_X2_coach_74 _ _ _ _ hq, c1, b_X2_coach_92]
        · obtain rfl := Option.some.inj e
          exact ⟨c2, k4, by rw [c3]; exact k5, k6, zFr_tr (zFr_mono hF1 (by simp)) (zFr_tr (zFr_mono k7 (by simp)) (zFr_mono c4 (by simp)))⟩
      · rw [mco_n n0 m0 k1]
        have k3' : zc (d + 7) mX2_doStatements [zR (some 6), zR (some (20 + 2 * i))] σ1 = some (some (zI v), σ2) := by
          rw [e_X2_doStatements _ zCo6 hq]
          exact k3
        refine ⟨σ2, ?_, fun _ => zFr_tr hF1 k4, fun s e => (by cases e)⟩
        rw [hst _ k3']
        simp (disch := omega) only [nrm_id, zix, ↓reduceIte, if_true, if_false, true_and, and_true, false_and, and_false, not_true_eq_false, not_false_eq_true, Int.reduceAdd, Int.reduceSub, Int.reduceMul, ↓if_pos, ↓if_neg, Option.bind_some, Option.toList_some, Option.toList_none, List.append_nil, List.cons_append, List.nil_append, znat, znat1, zpm1, zcm1, zof0, zof1, zof2, zof3, zofa0, zofa1, b_X2_coach_74 _ _ _ _ hq]
    · rw [mco_f n0 m0]
      refine ⟨σ, ?_, fun _ => zFr_rf _ _, fun s e => by cases e⟩
      rw [e_X2_coach]
      simp (disch := omega) only [nrm_id, zix, ↓reduceIte, if_true, if_false, true_and, and_true, false_and, and_false, not_true_eq_false, not_false_eq_true, Int.reduceAdd, Int.reduceSub, Int.reduceMul, ↓if_pos, ↓if_neg, Option.bind_some, Option.toList_some, Option.toList_none, List.append_nil, List.cons_append, List.nil_append, znat, znat1, zpm1, zcm1, zof0, zof1, zof2, zof3, zofa0, zofa1, s_shelfAt _ _ hi, b_X2_coach_5 _ _ hq, h0, h3, fw, b_X2_coach_44 _ _ _ hq]
end SYS35
