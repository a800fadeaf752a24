/-- the numbers read of the statement at a -/
def mnb (b : Nat → Int) (a : Nat) (τ : zS) : Prop := (b a = 98 → τ 42 0 = mvl b 1 (a + 1) 0) ∧ (b a = 104 ∨ b a = 114 → τ 42 0 = mvl b 2 (a + 1) 0) ∧ (b a = 112 ∨ b a = 120 → τ 42 0 = mvl b 1 (a + 1) 0 ∧ τ 42 1 = mvl b 1 (a + 2) 0) ∧ (b a = 116 → τ 42 0 = mvl b 1 (a + 1) 0 ∧ τ 42 1 = mvl b 2 (a + 2) 0)
theorem mnb_eq {b : Nat → Int} {a : Nat} {τ τ' : zS} (h : mnb b a τ) (e : ∀ j, τ' 42 j = τ 42 j) : mnb b a τ' := by
  unfold mnb at h ⊢
  rw [e 0, e 1]
  exact h
section SYS33
variable {σ : zS} {K : zK} {T : Int}
theorem r_readsNumber (d : Nat) {i n p : Nat} {w : Nat → Int} (hT : mTx σ i n w p) (hi : i < 8) (hn : n ≤ 100) (hb : ∀ j, j < 100 → -128 ≤ w j ∧ w j ≤ 127) {k : Nat} (hk : k < 2) {dg : Nat} (hdg : dg ≤ 2) (hp : p + dg < 900) : ∃ (τ' : zS) (ok : Int), zc (d + 1) mX3_readsNumber [zR (some 36), zI k, zI dg] σ = some (some (zI ok), τ') ∧ mTx τ' i n w (mfd (mby w n) dg p) ∧ mRd σ τ' ∧ (∀ j, j ≠ k → τ' 42 j = σ 42 j) ∧ ((ok = 1 ∧ mfd (mby w n) dg p = p + dg ∧ τ' 42 k = mvl (mby w n) dg p 0) ∨ (ok = 0 ∧ mfd (mby w n) dg p < p + dg)) := by
  obtain ⟨τ', ok, k1, k2, k3, k4, k5⟩ := r_rdNum d hi hn hb hk hdg dg 0 p 0 (zup σ 42 k 0) (by omega) hp (mTx_nr hT k 0) zup_at ⟨Int.le_refl _, fun _ => rfl, fun _ => by decide, by decide⟩
  have k1' : zq (d + 1) mX3_readsNumber 9 [some (zR (some 36)), some (zI k), some (zI dg), some (zI 0)] [] (zup σ 42 k 0) = some (some (zI ok), τ') := k1
  refine ⟨τ', ok, ?_, k2, mRd_tr (mRd_nr _ _ _) k3, fun j hj => by rw [k4 j hj, zup_ix hj], k5⟩
  rw [e_X3_readsNumber]
  simp (disch := omega) only [nrm_id, zix, ↓reduceIte, if_true, if_false, true_and, and_true, false_and, and_false, not_true_eq_false, not_false_eq_true, Int.reduceAdd, Int.reduceSub, Int.reduceMul, ↓if_pos, ↓if_neg, Option.bind_some, Option.toList_some, Option.toList_none, List.append_nil, List.cons_append, List.nil_append, znat, znat1, zpm1, zcm1, zof0, zof1, zof2, zof3, zofa0, zofa1]
  exact k1'
theorem r_end (d : Nat) {i n e : Nat} {w : Nat → Int} (hT : mTx σ i n w e) (hi : i < 8) (hn : n ≤ 100) (hb : ∀ j, j < 100 → -128 ≤ w j ∧ w j ≤ 127) (he : e < 900) : ∃ (τ' : zS) (ok : Int), zq (d + 2) mX3_readsStatement 162 [some (zR (some 36)), none, some (zI 1)] [] σ = some (some (zI ok), τ') ∧ mRd σ τ' ∧ (∀ j, τ' 42 j = σ 42 j) ∧ ((ok = 1 ∧ mby w n e = 59 ∧ mTx τ' i n w (e + 1)) ∨ (ok = 0 ∧ mby w n e ≠ 59 ∧ mTx τ' i n w e)) := by
  obtain ⟨h, e1, e2, e3⟩ := r_here (d + 1) hT hi hn hb (by omega)
  have h6 := hT.2.2.1
  by_cases c : mby w n e = 59
  · have eh : h = 59 := by rcases e3 with e3 | e3 <;> omega
    rw [eh] at e1
    clear e2 e3 eh
    refine ⟨zup σ 36 6 ((e : Int) + 1), 1, ?_, mRd_pl _ _, fun j => by rw [zup_ne (by decide)], Or.inl ⟨rfl, c, mTx_pl hT (by omega)⟩⟩
    rw [b_X3_readsStatement_162]
    simp (disch := omega) only [nrm_id, zix, ↓reduceIte, if_true, if_false, true_and, and_true, false_and, and_false, not_true_eq_false, not_false_eq_true, Int.reduceAdd, Int.reduceSub, Int.reduceMul, ↓if_pos, ↓if_neg, Option.bind_some, Option.toList_some, Option.toList_none, List.append_nil, List.cons_append, List.nil_append, znat, znat1, zpm1, zcm1, zof0, zof1, zof2, zof3, zofa0, zofa1, e1, b_X3_readsStatement_170, h6]
  · have eh : h ≠ 59 := by rcases e3 with e3 | e3 <;> omega
    clear e3
    refine ⟨σ, 0, ?_, mRd_rf _, fun _ => rfl, Or.inr ⟨rfl, c, hT⟩⟩
    rw [b_X3_readsStatement_162]
    simp (disch := omega) only [nrm_id, zix, ↓reduceIte, if_true, if_false, true_and, and_true, false_and, and_false, not_true_eq_false, not_false_eq_true, Int.reduceAdd, Int.reduceSub, Int.reduceMul, ↓if_pos, ↓if_neg, Option.bind_some, Option.toList_some, Option.toList_none, List.append_nil, List.cons_append, List.nil_append, znat, znat1, zpm1, zcm1, zof0, zof1, zof2, zof3, zofa0, zofa1, e1, b_X3_readsStatement_170]
theorem r_fin (d : Nat) {X : Option (Option zV × zS)} {τ2 : zS} {ok1 : Int} {i n a : Nat} {w : Nat → Int} (hi : i < 8) (hn : n ≤ 100) (hb : ∀ j, j < 100 → -128 ≤ w j ∧ w j ≤ 127) (ha : a ≤ 200) (hm : 0 ≤ mnd (mby w n a)) (hX : X = zq (d + 2) mX3_readsStatement 162 [some (zR (some 36)), none, some (zI ok1)] [] τ2) (hT2 : mTx τ2 i n w (mep (mby w n) a)) (hR : mRd σ τ2) (hc : (ok1 = 1 ∧ mep (mby w n) a = men (mby w n) a ∧ mnb (mby w n) a τ2) ∨ (ok1 = 0 ∧ mep (mby w n) a < men (mby w n) a)) : ∃ (τ' : zS) (ok : Int), X = some (some (zI ok), τ') ∧ mRd σ τ' ∧ ((ok = 1 ∧ mwf (mby w n) a ∧ mTx τ' i n w (men (mby w n) a + 1) ∧ mnb (mby w n) a τ') ∨ (ok = 0 ∧ ¬ mwf (mby w n) a ∧ mTx τ' i n w (mfp (mby w n) a))) := by
  have efp : mfp (mby w n) a = mep (mby w n) a := if_neg (by omega)
  have hr := mep_rng (mby w n) a
  have hmr := mnd_rng (mby w n a)
  have hl : men (mby w n) a ≤ a + 4 := by unfold men; omega
  rcases hc with ⟨rfl, h1, h2⟩ | ⟨rfl, h1⟩
  · obtain ⟨τ', ok, k1, k2, k3, k4⟩ := r_end d hT2 hi hn hb (by omega)
    refine ⟨τ', ok, hX.trans k1, mRd_tr hR k2, ?_⟩
    rcases k4 with ⟨z1, z2, z3⟩ | ⟨z1, z2, z3⟩
    · rw [h1] at z2 z3
      exact Or.inl ⟨z1, ⟨hm, h1, z2⟩, z3, mnb_eq h2 k3⟩
    · refine Or.inr ⟨z1, fun q => z2 (by rw [h1]; exact q.2.2), by rw [efp]; exact z3⟩
  · refine ⟨τ2, 0, ?_, hR, Or.inr ⟨rfl, fun q => by have := q.2.1; omega, by rw [efp]; exact hT2⟩⟩
    rw [hX, b_X3_readsStatement_162]
    simp (disch := omega) only [nrm_id, zix, ↓reduceIte, if_true, if_false, true_and, and_true, false_and, and_false, not_true_eq_false, not_false_eq_true, Int.reduceAdd, Int.reduceSub, Int.reduceMul, ↓if_pos, ↓if_neg, Option.bind_some, Option.toList_some, Option.toList_none, List.append_nil, List.cons_append, List.nil_append, znat, znat1, zpm1, zcm1, zof0, zof1, zof2, zof3, zofa0, zofa1]
theorem r_reads (d : Nat) {i n a : Nat} {w : Nat → Int} (hT : mTx σ i n w a) (hi : i < 8) (hn : n ≤ 100) (hb : ∀ j, j < 100 → -128 ≤ w j ∧ w j ≤ 127) (ha : a ≤ 200) : ∃ (τ' : zS) (ok : Int), zc (d + 2) mX3_readsStatement [zR (some 36)] σ = some (some (zI ok), τ') ∧ mRd σ τ' ∧ ((ok = 1 ∧ mwf (mby w n) a ∧ mTx τ' i n w (men (mby w n) a + 1) ∧ mnb (mby w n) a τ') ∨ (ok = 0 ∧ ¬ mwf (mby w n) a ∧ mTx τ' i n w (mfp (mby w n) a))) := by
  obtain ⟨h, e1, e2, e3⟩ := r_here (d + 1) hT hi hn hb (by omega)
  have h6 := hT.2.2.1
  by_cases hm : 0 ≤ mnd (mby w n a)
  · have hL := mnd_case hm
    have eh : h = mby w n a := by
      rcases e3 with e3 | e3
      · exact e3.1
      · clear hm
        omega
    rw [eh] at e1
    clear e2 e3 eh
    have hT1 : mTx (zup σ 36 6 ((a : Int) + 1)) i n w (a + 1) := mTx_pl hT (by omega)
    have hR1 : mRd σ (zup σ 36 6 ((a : Int) + 1)) := mRd_pl _ _
    have f1 := mfd_add (mby w n) 1 1 (a + 1)
    have f2 := mfd_add (mby w n) 2 1 (a + 1)
    have r1 := mfd_rng (mby w n) 1 (a + 1)
    have one : ∀ τ : zS, mTx τ i n w (a + 1) → ∃ (τ' : zS) (ok : Int), zc (d + 1) mX3_readsNumber [zR (some 36), zI 0, zI 1] τ = some (some (zI ok), τ') ∧ mTx τ' i n w (mfd (mby w n) 1 (a + 1)) ∧ mRd τ τ' ∧ (∀ j, j ≠ 0 → τ' 42 j = τ 42 j) ∧ ((ok = 1 ∧ mfd (mby w n) 1 (a + 1) = a + 1 + 1 ∧ τ' 42 0 = mvl (mby w n) 1 (a + 1) 0) ∨ (ok = 0 ∧ mfd (mby w n) 1 (a + 1) < a + 1 + 1)) := fun τ h => r_readsNumber d h hi hn hb (k := 0) (by omega) (dg := 1) (by omega) (by omega)
    have two : ∀ τ : zS, mTx τ i n w (a + 1) → ∃ (τ' : zS) (ok : Int), zc (d + 1) mX3_readsNumber [zR (some 36), zI 0, zI 2] τ = some (some (zI ok), τ') ∧ mTx τ' i n w (mfd (mby w n) 2 (a + 1)) ∧ mRd τ τ' ∧ (∀ j, j ≠ 0 → τ' 42 j = τ 42 j) ∧ ((ok = 1 ∧ mfd (mby w n) 2 (a + 1) = a + 1 + 2 ∧ τ' 42 0 = mvl (mby w n) 2 (a + 1) 0) ∨ (ok = 0 ∧ mfd (mby w n) 2 (a + 1) < a + 1 + 2)) := fun τ h => r_readsNumber d h hi hn hb (k := 0) (by omega) (dg := 2) (by omega) (by omega)
    have one1 : ∀ τ : zS, mTx τ i n w (a + 1 + 1) → ∃ (τ' : zS) (ok : Int), zc (d + 1) mX3_readsNumber [zR (some 36), zI 1, zI 1] τ = some (some (zI ok), τ') ∧ mTx τ' i n w (mfd (mby w n) 1 (a + 1 + 1)) ∧ mRd τ τ' ∧ (∀ j, j ≠ 1 → τ' 42 j = τ 42 j) ∧ ((ok = 1 ∧ mfd (mby w n) 1 (a + 1 + 1) = a + 1 + 1 + 1 ∧ τ' 42 1 = mvl (mby w n) 1 (a + 1 + 1) 0) ∨ (ok = 0 ∧ mfd (mby w n) 1 (a + 1 + 1) < a + 1 + 1 + 1)) := fun τ h => r_readsNumber d h hi hn hb (k := 1) (by omega) (dg := 1) (by omega) (by omega)
    have two1 : ∀ τ : zS, mTx τ i n w (a + 1 + 1) → ∃ (τ' : zS) (ok : Int), zc (d + 1) mX3_readsNumber [zR (some 36), zI 1, zI 2] τ = some (some (zI ok), τ') ∧ mTx τ' i n w (mfd (mby w n) 2 (a + 1 + 1)) ∧ mRd τ τ' ∧ (∀ j, j ≠ 1 → τ' 42 j = τ 42 j) ∧ ((ok = 1 ∧ mfd (mby w n) 2 (a + 1 + 1) = a + 1 + 1 + 2 ∧ τ' 42 1 = mvl (mby w n) 2 (a + 1 + 1) 0) ∨ (ok = 0 ∧ mfd (mby w n) 2 (a + 1 + 1) < a + 1 + 1 + 2)) := fun τ h => r_readsNumber d h hi hn hb (k := 1) (by omega) (dg := 2) (by omega) (by omega)
    have pair : ∀ L : Int, (L = 112 ∨ L = 120) → mby w n a = L → zc (d + 2) mX3_readsStatement [zR (some 36)] σ = zq (d + 2) mX3_readsStatement 76 [some (zR (some 36)), none, none] [] (zup σ 36 6 ((a : Int) + 1)) → ∃ (τ' : zS) (ok : Int), zc (d + 2) mX3_readsStatement [zR (some 36)] σ = some (some (zI ok), τ') ∧ mRd σ τ' ∧ ((ok = 1 ∧ mwf (mby w n) a ∧ mTx τ' i n w (men (mby w n) a + 1) ∧ mnb (mby w n) a τ') ∨ (ok = 0 ∧ ¬ mwf (mby w n) a ∧ mTx τ' i n w (mfp (mby w n) a))) := by
      intro L hLL hLa hX
      have em : mnd (mby w n a) = 2 := by rw [hLa]; rcases hLL with rfl | rfl <;> rfl
      have ep : mep (mby w n) a = mfd (mby w n) (1 + 1) (a + 1) := by unfold mep; rw [em]; rfl
      have en : men (mby w n) a = a + 1 + 2 := by unfold men; rw [em]; rfl
      obtain ⟨τ1, ok1, k1, k2, k3, k4, k5⟩ := one _ hT1
      rcases k5 with ⟨z1, z2, z3⟩ | ⟨z1, z2⟩
      · rw [if_neg (by omega)] at f1
        rw [z2] at k2
        obtain ⟨τ2, ok2, l1, l2, l3, l4, l5⟩ := one1 τ1 k2
        rw [← f1, ← ep] at l2
        rw [z1] at k1
        rcases l5 with ⟨y1, y2, y3⟩ | ⟨y1, y2⟩
        · rw [y1] at l1
          refine r_fin (ok1 := 1) d hi hn hb ha hm (hX.trans ?_) l2 (mRd_tr hR1 (mRd_tr k3 l3)) (Or.inl ⟨rfl, by omega, ?_⟩)
          · rw [b_X3_readsStatement_76]
            simp (disch := omega) only [nrm_id, zix, ↓reduceIte, if_true, if_false, true_and, and_true, false_and, and_false, not_true_eq_false, not_false_eq_true, Int.reduceAdd, Int.reduceSub, Int.reduceMul, ↓if_pos, ↓if_neg, Option.bind_some, Option.toList_some, Option.toList_none, List.append_nil, List.cons_append, List.nil_append, znat, znat1, zpm1, zcm1, zof0, zof1, zof2, zof3, zofa0, zofa1, k1, b_X3_readsStatement_82, l1, b_X3_readsStatement_91, b_X3_readsStatement_99]
          · refine ⟨fun z => ?_, fun z => ?_, fun _ => ⟨by rw [l4 0 (by decide)]; exact z3, y3⟩, fun z => ?_⟩
            · rcases hLL with rfl | rfl <;> omega
            · rcases hLL with rfl | rfl <;> omega
            · rcases hLL with rfl | rfl <;> omega
        · rw [y1] at l1
          refine r_fin (ok1 := 0) d hi hn hb ha hm (hX.trans ?_) l2 (mRd_tr hR1 (mRd_tr k3 l3)) (Or.inr ⟨rfl, by omega⟩)
          rw [b_X3_readsStatement_76]
          simp (disch := omega) only [nrm_id, zix, ↓reduceIte, if_true, if_false, true_and, and_true, false_and, and_false, not_true_eq_false, not_false_eq_true, Int.reduceAdd, Int.reduceSub, Int.reduceMul, ↓if_pos, ↓if_neg, Option.bind_some, Option.toList_some, Option.toList_none, List.append_nil, List.cons_append, List.nil_append, znat, znat1, zpm1, zcm1, zof0, zof1, zof2, zof3, zofa0, zofa1, k1, b_X3_readsStatement_82, l1, b_X3_readsStatement_91, b_X3_readsStatement_98, b_X3_readsStatement_99]
      · rw [if_pos (by omega)] at f1
        rw [← f1, ← ep] at k2
        rw [z1] at k1
        refine r_fin (ok1 := 0) d hi hn hb ha hm (hX.trans ?_) k2 (mRd_tr hR1 k3) (Or.inr ⟨rfl, by omega⟩)
        rw [b_X3_readsStatement_76]
        simp (disch := omega) only [nrm_id, zix, ↓reduceIte, if_true, if_false, true_and, and_true, false_and, and_false, not_true_eq_false, not_false_eq_true, Int.reduceAdd, Int.reduceSub, Int.reduceMul, ↓if_pos, ↓if_neg, Option.bind_some, Option.toList_some, Option.toList_none, List.append_nil, List.cons_append, List.nil_append, znat, znat1, zpm1, zcm1, zof0, zof1, zof2, zof3, zofa0, zofa1, k1, b_X3_readsStatement_82, b_X3_readsStatement_98, b_X3_readsStatement_99]
    have dbl : ∀ L : Int, (L = 104 ∨ L = 114) → mby w n a = L → zc (d + 2) mX3_readsStatement [zR (some 36)] σ = zq (d + 2) mX3_readsStatement 140 [some (zR (some 36)), none, none] [] (zup σ 36 6 ((a : Int) + 1)) → ∃ (τ' : zS) (ok : Int), zc (d + 2) mX3_readsStatement [zR (some 36)] σ = some (some (zI ok), τ') ∧ mRd σ τ' ∧ ((ok = 1 ∧ mwf (mby w n) a ∧ mTx τ' i n w (men (mby w n) a + 1) ∧ mnb (mby w n) a τ') ∨ (ok = 0 ∧ ¬ mwf (mby w n) a ∧ mTx τ' i n w (mfp (mby w n) a))) := by
      intro L hLL hLa hX
      have em : mnd (mby w n a) = 2 := by rw [hLa]; rcases hLL with rfl | rfl <;> rfl
      have ep : mep (mby w n) a = mfd (mby w n) 2 (a + 1) := by unfold mep; rw [em]; rfl
      have en : men (mby w n) a = a + 1 + 2 := by unfold men; rw [em]; rfl
      obtain ⟨τ1, ok1, k1, k2, k3, k4, k5⟩ := two _ hT1
      rw [← ep] at k2
      refine r_fin (ok1 := ok1) d hi hn hb ha hm (hX.trans ?_) k2 (mRd_tr hR1 k3) ?_
      · rw [b_X3_readsStatement_140]
        simp (disch := omega) only [nrm_id, zix, ↓reduceIte, if_true, if_false, true_and, and_true, false_and, and_false, not_true_eq_false, not_false_eq_true, Int.reduceAdd, Int.reduceSub, Int.reduceMul, ↓if_pos, ↓if_neg, Option.bind_some, Option.toList_some, Option.toList_none, List.append_nil, List.cons_append, List.nil_append, znat, znat1, zpm1, zcm1, zof0, zof1, zof2, zof3, zofa0, zofa1, k1, b_X3_readsStatement_146]
      · rcases k5 with ⟨z1, z2, z3⟩ | ⟨z1, z2⟩
        · refine Or.inl ⟨z1, by omega, fun z => ?_, fun _ => z3, fun z => ?_, fun z => ?_⟩
          · rcases hLL with rfl | rfl <;> omega
          · rcases hLL with rfl | rfl <;> omega
          · rcases hLL with rfl | rfl <;> omega
        · exact Or.inr ⟨z1, by omega⟩
    rcases hL with hL | hL | hL | hL | hL | hL
    · have em : mnd (mby w n a) = 1 := by rw [hL]; rfl
      have ep : mep (mby w n) a = mfd (mby w n) 1 (a + 1) := by unfold mep; rw [em]; rfl
      have en : men (mby w n) a = a + 1 + 1 := by unfold men; rw [em]; rfl
      rw [hL] at e1
      obtain ⟨τ1, ok1, k1, k2, k3, k4, k5⟩ := one _ hT1
      rw [← ep] at k2
      refine r_fin (ok1 := ok1) d hi hn hb ha hm ?_ k2 (mRd_tr hR1 k3) ?_
      · rw [e_X3_readsStatement]
        simp (disch := omega) only [nrm_id, zix, ↓reduceIte, if_true, if_false, true_and, and_true, false_and, and_false, not_true_eq_false, not_false_eq_true, Int.reduceAdd, Int.reduceSub, Int.reduceMul, ↓if_pos, ↓if_neg, Option.bind_some, Option.toList_some, Option.toList_none, List.append_nil, List.cons_append, List.nil_append, znat, znat1, zpm1, zcm1, zof0, zof1, zof2, zof3, zofa0, zofa1, e1, b_X3_readsStatement_4, h6, k1, b_X3_readsStatement_136]
      · rcases k5 with ⟨z1, z2, z3⟩ | ⟨z1, z2⟩
        · exact Or.inl ⟨z1, by omega, fun _ => z3, fun z => by omega, fun z => by omega, fun z => by omega⟩
        · exact Or.inr ⟨z1, by omega⟩
    · rw [hL] at e1
      refine dbl 104 (Or.inl rfl) hL ?_
      rw [e_X3_readsStatement]
      simp (disch := omega) only [nrm_id, zix, ↓reduceIte, if_true, if_false, true_and, and_true, false_and, and_false, not_true_eq_false, not_false_eq_true, Int.reduceAdd, Int.reduceSub, Int.reduceMul, ↓if_pos, ↓if_neg, Option.bind_some, Option.toList_some, Option.toList_none, List.append_nil, List.cons_append, List.nil_append, znat, znat1, zpm1, zcm1, zof0, zof1, zof2, zof3, zofa0, zofa1, e1, b_X3_readsStatement_4, h6]
    · rw [hL] at e1
      refine pair 112 (Or.inl rfl) hL ?_
      rw [e_X3_readsStatement]
      simp (disch := omega) only [nrm_id, zix, ↓reduceIte, if_true, if_false, true_and, and_true, false_and, and_false, not_true_eq_false, not_false_eq_true, Int.reduceAdd, Int.reduceSub, Int.reduceMul, ↓if_pos, ↓if_neg, Option.bind_some, Option.toList_some, Option.toList_none, List.append_nil, List.cons_append, List.nil_append, znat, znat1, zpm1, zcm1, zof0, zof1, zof2, zof3, zofa0, zofa1, e1, b_X3_readsStatement_4, h6]
    · rw [hL] at e1
      refine dbl 114 (Or.inr rfl) hL ?_
      rw [e_X3_readsStatement]
      simp (disch := omega) only [nrm_id, zix, ↓reduceIte, if_true, if_false, true_and, and_true, false_and, and_false, not_true_eq_false, not_false_eq_true, Int.reduceAdd, Int.reduceSub, Int.reduceMul, ↓if_pos, ↓if_neg, Option.bind_some, Option.toList_some, Option.toList_none, List.append_nil, List.cons_append, List.nil_append, znat, znat1, zpm1, zcm1, zof0, zof1, zof2, zof3, zofa0, zofa1, e1, b_X3_readsStatement_4, h6]
    · have em : mnd (mby w n a) = 3 := by rw [hL]; rfl
      have ep : mep (mby w n) a = mfd (mby w n) (1 + 2) (a + 1) := by unfold mep; rw [em]; rfl
      have en : men (mby w n) a = a + 1 + 3 := by unfold men; rw [em]; rfl
      rw [hL] at e1
      obtain ⟨τ1, ok1, k1, k2, k3, k4, k5⟩ := one _ hT1
      have hX : zc (d + 2) mX3_readsStatement [zR (some 36)] σ = zq (d + 2) mX3_readsStatement 109 [some (zR (some 36)), some (zI 116), none] [zI ok1] τ1 := by
        rw [e_X3_readsStatement]
        simp (disch := omega) only [nrm_id, zix, ↓reduceIte, if_true, if_false, true_and, and_true, false_and, and_false, not_true_eq_false, not_false_eq_true, Int.reduceAdd, Int.reduceSub, Int.reduceMul, ↓if_pos, ↓if_neg, Option.bind_some, Option.toList_some, Option.toList_none, List.append_nil, List.cons_append, List.nil_append, znat, znat1, zpm1, zcm1, zof0, zof1, zof2, zof3, zofa0, zofa1, e1, b_X3_readsStatement_4, h6, k1]
      rcases k5 with ⟨z1, z2, z3⟩ | ⟨z1, z2⟩
      · rw [if_neg (by omega)] at f2
        rw [z2] at k2
        obtain ⟨τ2, ok2, l1, l2, l3, l4, l5⟩ := two1 τ1 k2
        rw [← f2, ← ep] at l2
        rw [z1] at hX
        rcases l5 with ⟨y1, y2, y3⟩ | ⟨y1, y2⟩
        · rw [y1] at l1
          refine r_fin (ok1 := 1) d hi hn hb ha hm (hX.trans ?_) l2 (mRd_tr hR1 (mRd_tr k3 l3)) (Or.inl ⟨rfl, by omega, fun z => by omega, fun z => by omega, fun z => by omega, fun _ => ⟨by rw [l4 0 (by decide)]; exact z3, y3⟩⟩)
          rw [b_X3_readsStatement_109]
          simp (disch := omega) only [nrm_id, zix, ↓reduceIte, if_true, if_false, true_and, and_true, false_and, and_false, not_true_eq_false, not_false_eq_true, Int.reduceAdd, Int.reduceSub, Int.reduceMul, ↓if_pos, ↓if_neg, Option.bind_some, Option.toList_some, Option.toList_none, List.append_nil, List.cons_append, List.nil_append, znat, znat1, zpm1, zcm1, zof0, zof1, zof2, zof3, zofa0, zofa1, l1, b_X3_readsStatement_118, b_X3_readsStatement_126]
        · rw [y1] at l1
          refine r_fin (ok1 := 0) d hi hn hb ha hm (hX.trans ?_) l2 (mRd_tr hR1 (mRd_tr k3 l3)) (Or.inr ⟨rfl, by omega⟩)
          rw [b_X3_readsStatement_109]
          simp (disch := omega) only [nrm_id, zix, ↓reduceIte, if_true, if_false, true_and, and_true, false_and, and_false, not_true_eq_false, not_false_eq_true, Int.reduceAdd, Int.reduceSub, Int.reduceMul, ↓if_pos, ↓if_neg, Option.bind_some, Option.toList_some, Option.toList_none, List.append_nil, List.cons_append, List.nil_append, znat, znat1, zpm1, zcm1, zof0, zof1, zof2, zof3, zofa0, zofa1, l1, b_X3_readsStatement_118, b_X3_readsStatement_125, b_X3_readsStatement_126]
      · rw [if_pos (by omega)] at f2
        rw [← f2, ← ep] at k2
        rw [z1] at hX
        refine r_fin (ok1 := 0) d hi hn hb ha hm (hX.trans ?_) k2 (mRd_tr hR1 k3) (Or.inr ⟨rfl, by omega⟩)
        rw [b_X3_readsStatement_109]
        simp (disch := omega) only [nrm_id, zix, ↓reduceIte, if_true, if_false, true_and, and_true, false_and, and_false, not_true_eq_false, not_false_eq_true, Int.reduceAdd, Int.reduceSub, Int.reduceMul, ↓if_pos, ↓if_neg, Option.bind_some, Option.toList_some, Option.toList_none, List.append_nil, List.cons_append, List.nil_append, znat, znat1, zpm1, zcm1, zof0, zof1, zof2, zof3, zofa0, zofa1, b_X3_readsStatement_125, b_X3_readsStatement_126]
    · rw [hL] at e1
      refine pair 120 (Or.inr rfl) hL ?_
      rw [e_X3_readsStatement]
      simp (disch := omega) only [nrm_id, zix, ↓reduceIte, if_true, if_false, true_and, and_true, false_and, and_false, not_true_eq_false, not_false_eq_true, Int.reduceAdd, Int.reduceSub, Int.reduceMul, ↓if_pos, ↓if_neg, Option.bind_some, Option.toList_some, Option.toList_none, List.append_nil, List.cons_append, List.nil_append, znat, znat1, zpm1, zcm1, zof0, zof1, zof2, zof3, zofa0, zofa1, e1, b_X3_readsStatement_4, h6]
  · have ne : ∀ v, mnd v = -1 ∨ 0 ≤ mnd v := fun v => by have := mnd_rng v; omega
    have hx : h ≠ 98 ∧ h ≠ 104 ∧ h ≠ 112 ∧ h ≠ 114 ∧ h ≠ 116 ∧ h ≠ 120 := by
      rcases e3 with e3 | e3
      · rw [← e3.1] at hm
        refine ⟨fun z => hm ?_, fun z => hm ?_, fun z => hm ?_, fun z => hm ?_, fun z => hm ?_, fun z => hm ?_⟩ <;> rw [z] <;> decide
      · clear hm
        omega
    obtain ⟨x1, x2, x3, x4, x5, x6⟩ := hx
    clear e3 ne
    refine ⟨zup (zup σ 36 6 ((a : Int) + 1)) 36 6 (a : Int), 0, ?_, mRd_tr (mRd_pl _ _) (mRd_pl _ _), Or.inr ⟨rfl, fun z => hm z.1, ?_⟩⟩
    · rw [e_X3_readsStatement]
      simp (disch := omega) only [nrm_id, zix, ↓reduceIte, if_true, if_false, true_and, and_true, false_and, and_false, not_true_eq_false, not_false_eq_true, Int.reduceAdd, Int.reduceSub, Int.reduceMul, ↓if_pos, ↓if_neg, Option.bind_some, Option.toList_some, Option.toList_none, List.append_nil, List.cons_append, List.nil_append, znat, znat1, zpm1, zcm1, zof0, zof1, zof2, zof3, zofa0, zofa1, e1, b_X3_readsStatement_4, h6, zup_at]
    · rw [show mfp (mby w n) a = a from if_pos (by omega)]
      exact mTx_pl (mTx_pl (p' := a + 1) hT (by omega)) rfl
end SYS33
