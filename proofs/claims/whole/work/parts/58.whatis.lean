abbrev mKf (K : zK) (r : Nat) (k f : Int) : zK := (K.1, K.2.1, (fun j => if j = r then k else K.2.2.1 j), (fun j => if j = r then f else K.2.2.2.1 j), K.2.2.2.2.1, K.2.2.2.2.2)
def mtold (K : zK) (v : Nat → Int) (l : Int) (r : Nat) : Nat → Nat → Int
  | 0, _ => 1
  | n + 1, j => if v j = l ∨ v j = (mrounds j K).2.2.2.2.1 r then mtold K v l r n (j + 1) else 0
theorem mtold_01 (K : zK) (v : Nat → Int) (l : Int) (r : Nat) : ∀ n j, mtold K v l r n j = 0 ∨ mtold K v l r n j = 1 := by
  intro n
  induction n with
  | zero => intro j; exact Or.inr rfl
  | succ n ih =>
    intro j
    unfold mtold
    split
    · exact ih (j + 1)
    · exact Or.inl rfl
section SYS17
variable {σ : zS} {K : zK} {T : Int}
theorem mKf_ok (hO : mOk K) {r : Nat} {k f : Int} (hk : 0 ≤ k ∧ k ≤ 7) (hf : 0 ≤ f ∧ f ≤ 9) : mOk (mKf K r k f) := by
  refine ⟨hO.1, hO.2.1, fun j hj => ?_, fun j hj => ?_, hO.2.2.2.2.1, hO.2.2.2.2.2⟩
  · show 0 ≤ (if j = r then k else K.2.2.1 j) ∧ (if j = r then k else K.2.2.1 j) ≤ 7
    split
    · exact hk
    · exact hO.2.2.1 j hj
  · show 0 ≤ (if j = r then f else K.2.2.2.1 j) ∧ (if j = r then f else K.2.2.2.1 j) ≤ 9
    split
    · exact hf
    · exact hO.2.2.2.1 j hj
theorem AbsC_kf (h : AbsC σ 6 K) {r : Nat} (k f : Int) : AbsC (zup (zup σ 7 r k) 8 r f) 6 (mKf K r k f) := by
  obtain ⟨a, b, e1, e2, e3, e4, e5⟩ := h
  refine ⟨?_, ?_, fun j hj => ?_, fun j hj => ?_, fun j hj => ?_, ?_, ?_⟩
  · rw [zup_ne (by decide), zup_ne (by decide)]; exact a
  · rw [zup_ne (by decide), zup_ne (by decide)]; exact b
  · show (zup (zup σ 7 r k) 8 r f) 7 j = if j = r then k else K.2.2.1 j
    rw [zup_ne (by decide)]
    by_cases e : j = r
    · subst e; rw [zup_at, if_pos rfl]
    · rw [zup_ix e, if_neg e]; exact e1 j hj
  · show (zup (zup σ 7 r k) 8 r f) 8 j = if j = r then f else K.2.2.2.1 j
    by_cases e : j = r
    · subst e; rw [zup_at, if_pos rfl]
    · rw [zup_ix e, if_neg e, zup_ne (by decide)]; exact e2 j hj
  · show (zup (zup σ 7 r k) 8 r f) 9 j = _
    rw [zup_ne (by decide), zup_ne (by decide)]; exact e3 j hj
  · rw [zup_ne (by decide), zup_ne (by decide)]; exact e4
  · rw [zup_ne (by decide), zup_ne (by decide)]; exact e5
theorem s_would (d : Nat) (h : zSysK K T σ) {i : Nat} (hi : i < 8) {n : Nat} (hn : σ (20 + 2 * i) 4 = n) (hn2 : n ≤ 100) (h3 : 0 ≤ σ (20 + 2 * i) 3 ∧ σ (20 + 2 * i) 3 ≤ 2) {w : Nat → Int} (hw : σ (20 + 2 * i + 1) = w) (hwr : ∀ j, j < 100 → R32 (w j)) {l : Int} (hl : mleast (σ (20 + 2 * i) 3) = l) {r : Nat} (hr : r < K.1) {k f : Int} (hk : 0 ≤ k ∧ k ≤ 7) (hf : 0 ≤ f ∧ f ≤ 9) : ∃ σ1, zc (d + 4) mX2_wouldTipAsTold [zR (some 0), zR (some (20 + 2 * i)), zI r, zI k, zI f] σ = some (some (zI (mtold (mKf K r k f) w l r n 0)), σ1) ∧ zScr zSc σ σ1 := by
  have hO := h.2.2.1
  have hp := hO.1
  have hq := zSh_of i hi
  have hO' := mKf_ok hO (r := r) hk hf
  have hlr := mleast_rng (σ (20 + 2 * i) 3)
  rw [hl] at hlr
  generalize hK : mKf K r k f = K' at hO'
  have lp : ∀ (m j : Nat) (fl : Int) (τ : zS), j + m = n → zScr zSc σ τ → AbsC τ 6 (mrounds (j - 1) K') → (fl = 1 ∨ fl = 0 ∧ mfix (mrounds (j - 1) K')) → ∃ τ', zq (d + 4) mX2_wouldTipAsTold 38 [some (zR (some 0)), some (zR (some (20 + 2 * i))), some (zI r), none, none, some (zI fl), some (zI j)] [] τ = some (some (zI (mtold K' w l r m j)), τ') ∧ zScr zSc τ τ' := by
    intro m
    induction m with
    | zero =>
      intro j fl τ hj hs hA hfl
      have f1 : τ (20 + 2 * i) = σ (20 + 2 * i) := hs.1 _ (zSc_sh i hi).1 (by omega)
      refine ⟨τ, ?_, zScr_rf _ _⟩
      rw [b_X2_wouldTipAsTold_38 _ _ _ _ hq, f1, hn, show j = n from by omega]
      simp (disch := omega) only [nrm_id, zix, ↓reduceIte, if_true, if_false, true_and, and_true, false_and, and_false, not_true_eq_false, not_false_eq_true, Int.reduceAdd, Int.reduceSub, Int.reduceMul, ↓if_pos, ↓if_neg, Option.bind_some, Option.toList_some, Option.toList_none, List.append_nil, List.cons_append, List.nil_append, znat, znat1, zpm1, zcm1, zof0, zof1, zof2, zof3, zofa0, zofa1, mtold]
    | succ m ih =>
      intro j fl τ hj hs hA hfl
      have st : ∃ (τ1 : zS) (fl' : Int), zq (d + 4) mX2_wouldTipAsTold 38 [some (zR (some 0)), some (zR (some (20 + 2 * i))), some (zI r), none, none, some (zI fl), some (zI j)] [] τ = zq (d + 4) mX2_wouldTipAsTold 75 [some (zR (some 0)), some (zR (some (20 + 2 * i))), some (zI r), none, none, some (zI fl'), some (zI j)] [] τ1 ∧ AbsC τ1 6 (mrounds j K') ∧ zScr zSc τ τ1 ∧ (fl' = 1 ∨ fl' = 0 ∧ mfix (mrounds j K')) := by
        have f1 : τ (20 + 2 * i) = σ (20 + 2 * i) := hs.1 _ (zSc_sh i hi).1 (by omega)
        by_cases j0 : j = 0
        · subst j0
          refine ⟨τ, fl, ?_, hA, zScr_rf _ _, hfl⟩
          rw [b_X2_wouldTipAsTold_38 _ _ _ _ hq, f1, hn]
          simp (disch := omega) only [nrm_id, zix, ↓reduceIte, if_true, if_false, true_and, and_true, false_and, and_false, not_true_eq_false, not_false_eq_true, Int.reduceAdd, Int.reduceSub, Int.reduceMul, ↓if_pos, ↓if_neg, Option.bind_some, Option.toList_some, Option.toList_none, List.append_nil, List.cons_append, List.nil_append, znat, znat1, zpm1, zcm1, zof0, zof1, zof2, zof3, zofa0, zofa1]
        · have e2 : mrounds j K' = mrounds 1 (mrounds (j - 1) K') := by
            conv => lhs; rw [show j = (j - 1) + 1 from by omega, mrounds_succ]
            rfl
          rcases hfl with rfl | ⟨rfl, hfx⟩
          · obtain ⟨τ1, g1, g2, g3⟩ := s_goOn d zCo6 hA (mrounds_ok hO' (j - 1)) (n := 1) (by omega)
            rw [← e2] at g2
            by_cases hfx : mfix (mrounds (j - 1) K')
            · have e3 : mstill (mrounds (j - 1) K') 1 = 0 := by simp [mstill, hfx]
              have g1' : zc (d + 3) mX0_goOn [zR (some 6), zI 1] τ = some (some (zI 0), τ1) := by rw [e3] at g1; exact g1
              refine ⟨τ1, 0, ?_, g2, zScr_of g3 (by simp [zSc]) (by simp), Or.inr ⟨rfl, ?_⟩⟩
              · rw [b_X2_wouldTipAsTold_38 _ _ _ _ hq, f1, hn]
                simp (disch := omega) only [nrm_id, zix, ↓reduceIte, if_true, if_false, true_and, and_true, false_and, and_false, not_true_eq_false, not_false_eq_true, Int.reduceAdd, Int.reduceSub, Int.reduceMul, ↓if_pos, ↓if_neg, Option.bind_some, Option.toList_some, Option.toList_none, List.append_nil, List.cons_append, List.nil_append, znat, znat1, zpm1, zcm1, zof0, zof1, zof2, zof3, zofa0, zofa1, g1', b_X2_wouldTipAsTold_65 _ _ _ _ _ hq, b_X2_wouldTipAsTold_73 _ _ _ _ hq]
              · rw [e2]
                show mfix (mround (mrounds (j - 1) K'))
                rw [mfix_eq hfx]; exact hfx
            · have e3 : mstill (mrounds (j - 1) K') 1 = 1 := by simp [mstill, hfx]
              have g1' : zc (d + 3) mX0_goOn [zR (some 6), zI 1] τ = some (some (zI 1), τ1) := by rw [e3] at g1; exact g1
              refine ⟨τ1, 1, ?_, g2, zScr_of g3 (by simp [zSc]) (by simp), Or.inl rfl⟩
              rw [b_X2_wouldTipAsTold_38 _ _ _ _ hq, f1, hn]
              simp (disch := omega) only [nrm_id, zix, ↓reduceIte, if_true, if_false, true_and, and_true, false_and, and_false, not_true_eq_false, not_false_eq_true, Int.reduceAdd, Int.reduceSub, Int.reduceMul, ↓if_pos, ↓if_neg, Option.bind_some, Option.toList_some, Option.toList_none, List.append_nil, List.cons_append, List.nil_append, znat, znat1, zpm1, zcm1, zof0, zof1, zof2, zof3, zofa0, zofa1, g1', b_X2_wouldTipAsTold_65 _ _ _ _ _ hq, b_X2_wouldTipAsTold_73 _ _ _ _ hq]
          · have e3 : mrounds j K' = mrounds (j - 1) K' := by rw [e2]; exact mfix_rounds hfx 1
            refine ⟨τ, 0, ?_, by rw [e3]; exact hA, zScr_rf _ _, Or.inr ⟨rfl, by rw [e3]; exact hfx⟩⟩
            rw [b_X2_wouldTipAsTold_38 _ _ _ _ hq, f1, hn]
            simp (disch := omega) only [nrm_id, zix, ↓reduceIte, if_true, if_false, true_and, and_true, false_and, and_false, not_true_eq_false, not_false_eq_true, Int.reduceAdd, Int.reduceSub, Int.reduceMul, ↓if_pos, ↓if_neg, Option.bind_some, Option.toList_some, Option.toList_none, List.append_nil, List.cons_append, List.nil_append, znat, znat1, zpm1, zcm1, zof0, zof1, zof2, zof3, zofa0, zofa1]
      obtain ⟨τ1, fl', st1, st2, st3, st4⟩ := st
      have hs1 := zScr_tr hs st3
      have f1 : τ1 (20 + 2 * i) = σ (20 + 2 * i) := hs1.1 _ (zSc_sh i hi).1 (by omega)
      have f2 : τ1 (20 + 2 * i + 1) = w := by rw [hs1.1 _ (zSc_sh i hi).2 (by omega)]; exact hw
      have v12 := hwr j (by omega)
      have sk := s_isSkipped (σ := τ1) (d + 2) hq (j := j) (by rw [f1]; omega) (by rw [f1]; omega) (by rw [f1]; exact h3) (by rw [f2]; exact v12)
      rw [f1, f2, hl] at sk
      obtain ⟨v1, v2⟩ := v12
      have hpK : K'.1 = K.1 := by rw [← hK]
      have t9 : τ1 9 r = (mrounds j K').2.2.2.2.1 r := st2.2.2.2.2.1 r (by omega)
      have tr := (mrounds_ok hO' j).2.2.2.2.1 r (by omega)
      unfold mtold
      by_cases q1 : w j = l
      · obtain ⟨τ2, k1, k2⟩ := ih (j + 1) fl' τ1 (by omega) hs1 st2 st4
        refine ⟨τ2, st1.trans ?_, zScr_tr st3 k2⟩
        rw [if_pos (Or.inl q1), b_X2_wouldTipAsTold_75 _ _ _ _ hq]
        rw [if_pos q1] at sk
        simp (disch := omega) only [nrm_id, zix, ↓reduceIte, if_true, if_false, true_and, and_true, false_and, and_false, not_true_eq_false, not_false_eq_true, Int.reduceAdd, Int.reduceSub, Int.reduceMul, ↓if_pos, ↓if_neg, Option.bind_some, Option.toList_some, Option.toList_none, List.append_nil, List.cons_append, List.nil_append, znat, znat1, zpm1, zcm1, zof0, zof1, zof2, zof3, zofa0, zofa1, sk, b_X2_wouldTipAsTold_81 _ _ _ _ _ hq, b_X2_wouldTipAsTold_105 _ _ _ _ hq]
        exact k1
      · rw [if_neg q1] at sk
        by_cases q2 : w j = (mrounds j K').2.2.2.2.1 r
        · obtain ⟨τ2, k1, k2⟩ := ih (j + 1) fl' τ1 (by omega) hs1 st2 st4
          refine ⟨τ2, st1.trans ?_, zScr_tr st3 k2⟩
          rw [if_pos (Or.inr q2), b_X2_wouldTipAsTold_75 _ _ _ _ hq]
          simp (disch := omega) only [nrm_id, zix, ↓reduceIte, if_true, if_false, true_and, and_true, false_and, and_false, not_true_eq_false, not_false_eq_true, Int.reduceAdd, Int.reduceSub, Int.reduceMul, ↓if_pos, ↓if_neg, Option.bind_some, Option.toList_some, Option.toList_none, List.append_nil, List.cons_append, List.nil_append, znat, znat1, zpm1, zcm1, zof0, zof1, zof2, zof3, zofa0, zofa1, sk, b_X2_wouldTipAsTold_81 _ _ _ _ _ hq, f2, t9, b_X2_wouldTipAsTold_105 _ _ _ _ hq]
          exact k1
        · refine ⟨τ1, st1.trans ?_, st3⟩
          rw [if_neg (fun z => z.elim q1 q2), b_X2_wouldTipAsTold_75 _ _ _ _ hq]
          simp (disch := omega) only [nrm_id, zix, ↓reduceIte, if_true, if_false, true_and, and_true, false_and, and_false, not_true_eq_false, not_false_eq_true, Int.reduceAdd, Int.reduceSub, Int.reduceMul, ↓if_pos, ↓if_neg, Option.bind_some, Option.toList_some, Option.toList_none, List.append_nil, List.cons_append, List.nil_append, znat, znat1, zpm1, zcm1, zof0, zof1, zof2, zof3, zofa0, zofa1, sk, b_X2_wouldTipAsTold_81 _ _ _ _ _ hq, f2, t9]
  obtain ⟨σ1, a1, a2, -, a3⟩ := s_copyFrom (d + 2) zCo6 zCo1 (by decide) h.1
  have hs := zScr_of (qs := zSc) a3 (by simp [zSc]) (by simp)
  have hs2 : zScr zSc σ1 (zup (zup σ1 7 r k) 8 r f) := zScr_tr (zScr_of (ps := [7]) (zFr_up (by simp)) (by simp [zSc]) (by simp)) (zScr_of (ps := [8]) (zFr_up (by simp)) (by simp [zSc]) (by simp))
  obtain ⟨σ2, k1, k2⟩ := lp n 0 1 (zup (zup σ1 7 r k) 8 r f) (by omega) (zScr_tr hs hs2) (by rw [← hK]; exact AbsC_kf a2 k f) (Or.inl rfl)
  refine ⟨σ2, ?_, zScr_tr (zScr_tr hs hs2) k2⟩
  rw [e_X2_wouldTipAsTold _ _ _ _ hq]
  simp (disch := omega) only [nrm_id, zix, ↓reduceIte, if_true, if_false, true_and, and_true, false_and, and_false, not_true_eq_false, not_false_eq_true, Int.reduceAdd, Int.reduceSub, Int.reduceMul, ↓if_pos, ↓if_neg, Option.bind_some, Option.toList_some, Option.toList_none, List.append_nil, List.cons_append, List.nil_append, znat, znat1, zpm1, zcm1, zof0, zof1, zof2, zof3, zofa0, zofa1, a1, b_X2_wouldTipAsTold_11 _ _ _ _ hq]
  exact k1
end SYS17
