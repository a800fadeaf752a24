section GOON
variable {c : Nat} {σ : zS} {K : zK}
theorem s_goOn (d : Nat) (hc : zCo c) (h : AbsC σ c K) (hO : mOk K) {n : Nat} (hn : n < 1000) : ∃ σ' : zS, zc (d + 3) mX0_goOn [zR (some c), zI n] σ = some (some (zI ((mstill K n : Nat) : Int)), σ') ∧ AbsC σ' c (mrounds n K) ∧ zFr [c + 3, c + 4] σ σ' := by
  have hp := hO.1
  have l1 : ∀ (m i : Nat) (σ : zS), i + m = K.1 → AbsC σ c K → (∀ r, r < i → σ (c + 4) r = mcan K r) → ∃ σ' : zS, zq (d + 3) mX0_goOn 2 [some (zR (some c)), some (zI n), some (zI i), none] [] σ = zq (d + 3) mX0_goOn 34 [some (zR (some c)), some (zI n), some (zI (mN K.2.1)), some (zI 0)] [] σ' ∧ AbsC σ' c K ∧ (∀ r, r < K.1 → σ' (c + 4) r = mcan K r) ∧ zFr [c + 4] σ σ' := by
    intro m
    induction m with
    | zero =>
      intro i σ hi hA hl
      refine ⟨σ, ?_, hA, fun r hr => hl r (by omega), zFr_rf _ _⟩
      rw [b_X0_goOn_2 _ _ _ hc, hA.1]
      simp (disch := omega) only [nrm_id, zix, ↓reduceIte, if_true, if_false, true_and, and_true, false_and, and_false, not_true_eq_false, not_false_eq_true, Int.reduceAdd, Int.reduceSub, Int.reduceMul, ↓if_pos, ↓if_neg, Option.bind_some, Option.toList_some, Option.toList_none, List.append_nil, List.cons_append, List.nil_append, znat, znat1, zpm1, zcm1, zof0, zof1, zof2, zof3, zofa0, zofa1, s_isNight _ hc hA hO, b_X0_goOn_31 _ _ _ _ hc]
    | succ m ih =>
      intro i σ hi hA hl
      rw [b_X0_goOn_2 _ _ _ hc, hA.1]
      simp (disch := omega) only [nrm_id, zix, ↓reduceIte, if_true, if_false, true_and, and_true, false_and, and_false, not_true_eq_false, not_false_eq_true, Int.reduceAdd, Int.reduceSub, Int.reduceMul, ↓if_pos, ↓if_neg, Option.bind_some, Option.toList_some, Option.toList_none, List.append_nil, List.cons_append, List.nil_append, znat, znat1, zpm1, zcm1, zof0, zof1, zof2, zof3, zofa0, zofa1, s_canAt _ hc hA hO (show i < K.1 from by omega), b_X0_goOn_20 _ _ _ _ _ hc]
      obtain ⟨σ', g1, g2, g3, g4⟩ := ih (i + 1) (zup σ (c + 4) i (mcan K i)) (by omega) (AbsC_fr hA (zup_ne (by omega)) (zup_ne (by omega)) (zup_ne (by omega)) (zup_ne (by omega))) (fun r hr => by
        by_cases e : r = i
        · subst e; rw [zup_at]
        · rw [zup_ix e]; exact hl r (by omega))
      exact ⟨σ', g1, g2, g3, zFr_tr (zFr_up (by simp)) g4⟩
  have l2 : ∀ (m j : Nat) (K' : zK) (σ : zS), j + m = n → mOk K' → K'.1 = K.1 → K'.2.1 = K.2.1 → (∀ r, mcan K' r = mcan K r) → AbsC σ c K' → (∀ r, r < K.1 → σ (c + 4) r = mcan K r) → ∃ σ' : zS, zq (d + 3) mX0_goOn 34 [some (zR (some c)), some (zI n), some (zI (mN K.2.1)), some (zI j)] [] σ = some (some (zI ((j : Int) + (mstill K' m : Nat))), σ') ∧ AbsC σ' c (mrounds m K') ∧ zFr [c + 3] σ σ' := by
    intro m
    induction m with
    | zero =>
      intro j K' σ hj hO' e1 e2 e3 hA hl
      refine ⟨σ, ?_, hA, zFr_rf _ _⟩
      rw [b_X0_goOn_34 _ _ _ _ hc, show j = n from by omega]
      simp (disch := omega) only [nrm_id, zix, ↓reduceIte, if_true, if_false, true_and, and_true, false_and, and_false, not_true_eq_false, not_false_eq_true, Int.reduceAdd, Int.reduceSub, Int.reduceMul, ↓if_pos, ↓if_neg, Option.bind_some, Option.toList_some, Option.toList_none, List.append_nil, List.cons_append, List.nil_append, znat, znat1, zpm1, zcm1, zof0, zof1, zof2, zof3, zofa0, zofa1]
      simp [mstill]
    | succ m ih =>
      intro j K' σ hj hO' e1 e2 e3 hA hl
      obtain ⟨σ1, v, g1, g2, g3, g4, g5⟩ := s_stirs d hc hO' hA (fun r hr => by rw [hl r (by omega), e3])
      rw [e2] at g1
      rw [b_X0_goOn_34 _ _ _ _ hc]
      by_cases q : mfix K'
      · have hv : v = 0 := g5.mpr q
        subst hv
        refine ⟨σ1, ?_, ?_, g3⟩
        · simp (disch := omega) only [nrm_id, zix, ↓reduceIte, if_true, if_false, true_and, and_true, false_and, and_false, not_true_eq_false, not_false_eq_true, Int.reduceAdd, Int.reduceSub, Int.reduceMul, ↓if_pos, ↓if_neg, Option.bind_some, Option.toList_some, Option.toList_none, List.append_nil, List.cons_append, List.nil_append, znat, znat1, zpm1, zcm1, zof0, zof1, zof2, zof3, zofa0, zofa1, g1, b_X0_goOn_44 _ _ _ _ _ hc]
          simp [mstill, q]
        · rw [mfix_rounds q]
          rw [mfix_eq q] at g2
          exact g2
      · have hv : v = 1 := by
          rcases g4 with e | e
          · exact absurd (g5.mp e) q
          · exact e
        subst hv
        obtain ⟨σ2, k1, k2, k3⟩ := ih (j + 1) (mround K') σ1 (by omega) (mround_ok hO') e1 e2 e3 g2 (fun r hr => by rw [g3 _ (by simp)]; exact hl r hr)
        refine ⟨σ2, ?_, k2, zFr_tr g3 k3⟩
        simp (disch := omega) only [nrm_id, zix, ↓reduceIte, if_true, if_false, true_and, and_true, false_and, and_false, not_true_eq_false, not_false_eq_true, Int.reduceAdd, Int.reduceSub, Int.reduceMul, ↓if_pos, ↓if_neg, Option.bind_some, Option.toList_some, Option.toList_none, List.append_nil, List.cons_append, List.nil_append, znat, znat1, zpm1, zcm1, zof0, zof1, zof2, zof3, zofa0, zofa1, g1, b_X0_goOn_44 _ _ _ _ _ hc]
        refine Eq.trans k1 ?_
        simp only [mstill, q, if_false]
        congr 4
        push_cast
        omega
  obtain ⟨σ1, g1, g2, g3, g4⟩ := l1 K.1 0 σ (by omega) h (fun r hr => by omega)
  obtain ⟨σ2, k1, k2, k3⟩ := l2 n 0 K σ1 (by omega) hO rfl rfl (fun _ => rfl) g2 g3
  refine ⟨σ2, ?_, k2, zFr_tr (zFr_mono g4 (by simp)) (zFr_mono k3 (by simp))⟩
  rw [e_X0_goOn _ _ hc]
  refine Eq.trans g1 (Eq.trans k1 ?_)
  congr 4
  omega
theorem s_fill (d : Nat) {a n : Nat} (ha : zkd a = 4) (hn : zln a = n) (h8 : n < 1000) (v : Int) (σ : zS) : ∃ σ' : zS, zc d mJ7_fill_53178 [zR (some a), zI v] σ = some (none, σ') ∧ (∀ r, r < n → σ' a r = v) ∧ zFr [a] σ σ' := by
  have lp : ∀ (m i : Nat) (σ : zS), i + m = n → (∀ r, r < i → σ a r = v) → ∃ σ' : zS, zq d mJ7_fill_53178 5 [some (zR (some a)), some (zI v), some (zI i), some (zI ((n : Nat) : Int))] [] σ = some (none, σ') ∧ (∀ r, r < n → σ' a r = v) ∧ zFr [a] σ σ' := by
    intro m
    induction m with
    | zero =>
      intro i σ hi hl
      refine ⟨σ, ?_, fun r hr => hl r (by omega), zFr_rf _ _⟩
      rw [b_J7_fill_53178_5 _ _ _ _ ha hn]
      simp (disch := omega) only [nrm_id, zix, ↓reduceIte, if_true, if_false, true_and, and_true, false_and, and_false, not_true_eq_false, not_false_eq_true, Int.reduceAdd, Int.reduceSub, Int.reduceMul, ↓if_pos, ↓if_neg, Option.bind_some, Option.toList_some, Option.toList_none, List.append_nil, List.cons_append, List.nil_append, znat, znat1, zpm1, zcm1, zof0, zof1, zof2, zof3, zofa0, zofa1]
    | succ m ih =>
      intro i σ hi hl
      rw [b_J7_fill_53178_5 _ _ _ _ ha hn]
      simp (disch := omega) only [nrm_id, zix, ↓reduceIte, if_true, if_false, true_and, and_true, false_and, and_false, not_true_eq_false, not_false_eq_true, Int.reduceAdd, Int.reduceSub, Int.reduceMul, ↓if_pos, ↓if_neg, Option.bind_some, Option.toList_some, Option.toList_none, List.append_nil, List.cons_append, List.nil_append, znat, znat1, zpm1, zcm1, zof0, zof1, zof2, zof3, zofa0, zofa1]
      obtain ⟨σ', g1, g2, g3⟩ := ih (i + 1) (zup σ a i v) (by omega) (fun r hr => by
        by_cases e : r = i
        · subst e; rw [zup_at]
        · rw [zup_ix e]; exact hl r (by omega))
      exact ⟨σ', g1, g2, zFr_tr (zFr_up (by simp)) g3⟩
  obtain ⟨σ', g1, g2, g3⟩ := lp n 0 σ (by omega) (fun r hr => by omega)
  exact ⟨σ', by rw [e_J7_fill_53178 _ _ ha hn]; exact g1, g2, g3⟩
theorem s_sitUp (d : Nat) (hc : zCo c) (h : AbsC σ c K) : ∃ σ' : zS, zc (d + 1) mX0_sitUp [zR (some c)] σ = some (none, σ') ∧ AbsC σ' c (Kst K (fun _ => 0)) ∧ zFr [c + 3] σ σ' := by
  obtain ⟨σ', g1, g2, g3⟩ := s_fill d (zCo_a3 hc) (zCo_n3 hc) (by omega) 0 σ
  refine ⟨σ', ?_, ?_, g3⟩
  · rw [e_X0_sitUp _ hc]
    simp (disch := omega) only [nrm_id, zix, ↓reduceIte, if_true, if_false, true_and, and_true, false_and, and_false, not_true_eq_false, not_false_eq_true, Int.reduceAdd, Int.reduceSub, Int.reduceMul, ↓if_pos, ↓if_neg, Option.bind_some, Option.toList_some, Option.toList_none, List.append_nil, List.cons_append, List.nil_append, znat, znat1, zpm1, zcm1, zof0, zof1, zof2, zof3, zofa0, zofa1, g1, b_X0_sitUp_8 _ hc]
  · obtain ⟨a, b, e1, e2, e3, e4, e5⟩ := h
    have q : ∀ x, x ≠ c + 3 → σ' x = σ x := fun x hx => g3 x (by simpa using hx)
    refine ⟨by rw [q _ (by omega)]; exact a, by rw [q _ (by omega)]; exact b, fun r hr => by rw [q _ (by omega)]; exact e1 r hr, fun r hr => by rw [q _ (by omega)]; exact e2 r hr, fun r hr => g2 r hr, by rw [q _ (by omega)]; exact e4, by rw [q _ (by omega)]; exact e5⟩
end GOON
