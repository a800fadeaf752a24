section SYS19
variable {σ : zS} {K : zK} {T : Int}
theorem r_isTold (d : Nat) (hO : mOk K) (hA : AbsM σ 38 K) {i : Nat} (hi : i < 8) {n : Nat} {s : Int} (h48 : σ 48 i = s) (h49 : σ 49 i = n) (hn2 : n ≤ 100) (h3 : 0 ≤ s ∧ s ≤ 2) {w : Nat → Int} (hw : ∀ j, j < 100 → σ 50 (100 * i + j) = w j) (hwr : ∀ j, j < 100 → R32 (w j)) {l : Int} (hl : mleast s = l) {r : Nat} (hr : r < 8) : ∃ σ1, zc (d + 3) mX3_isTold [zR (some 36), zI i, zI r] σ = some (some (zI (mtold K w l r n 0)), σ1) ∧ zScr zSc σ σ1 := by
  have hlr := mleast_rng s
  rw [hl] at hlr
  have lp : ∀ (m j : Nat) (τ : zS), j + m = n → zScr zSc σ τ → AbsM τ 38 (mrounds j K) → ∃ τ', zq (d + 3) mX3_isTold 2 [some (zR (some 36)), some (zI i), some (zI r), some (zI j), none] [] τ = some (some (zI (mtold K w l r m j)), τ') ∧ zScr zSc τ τ' := by
    intro m
    induction m with
    | zero =>
      intro j τ hj hs hA
      have f49 : τ 49 = σ 49 := hs.1 49 (by decide) (by decide)
      refine ⟨τ, ?_, zScr_rf _ _⟩
      rw [b_X3_isTold_2, f49]
      simp (disch := omega) only [nrm_id, zix, ↓reduceIte, if_true, if_false, true_and, and_true, false_and, and_false, not_true_eq_false, not_false_eq_true, Int.reduceAdd, Int.reduceSub, Int.reduceMul, ↓if_pos, ↓if_neg, Option.bind_some, Option.toList_some, Option.toList_none, List.append_nil, List.cons_append, List.nil_append, znat, znat1, zpm1, zcm1, zof0, zof1, zof2, zof3, zofa0, zofa1, h49, mtold]
    | succ m ih =>
      intro j τ hj hs hA
      have f48 : τ 48 = σ 48 := hs.1 48 (by decide) (by decide)
      have f49 : τ 49 = σ 49 := hs.1 49 (by decide) (by decide)
      have f50 : τ 50 = σ 50 := hs.1 50 (by decide) (by decide)
      obtain ⟨v1, v2⟩ := hwr j (by omega)
      have v0 := hw j (by omega)
      have lo := fun d => r_leastOf (σ := τ) d h3
      rw [hl] at lo
      have t5 : τ 38 (5 + 4 * r) = (mrounds j K).2.2.2.2.1 r := hA.2.2.2.2.1 r hr
      have tr := (mrounds_ok hO j).2.2.2.2.1 r hr
      obtain ⟨τ2, b1, b2, -, b3⟩ := r_round d zAr38 hA (mrounds_ok hO j) (B := 0) (by omega)
      rw [mrtS_0] at b2
      have b2' : AbsM τ2 38 (mrounds (j + 1) K) := by rw [mrounds_succ]; exact b2
      have hs2 := zScr_of (qs := zSc) b3 (by simp [zSc]) (by simp)
      unfold mtold
      by_cases q1 : w j = l
      · obtain ⟨τ3, k1, k2⟩ := ih (j + 1) τ2 (by omega) (zScr_tr hs hs2) b2'
        refine ⟨τ3, ?_, zScr_tr hs2 k2⟩
        rw [if_pos (Or.inl q1), b_X3_isTold_2, f48, f49, f50]
        simp (disch := omega) only [nrm_id, zix, ↓reduceIte, if_true, if_false, true_and, and_true, false_and, and_false, not_true_eq_false, not_false_eq_true, Int.reduceAdd, Int.reduceSub, Int.reduceMul, ↓if_pos, ↓if_neg, Option.bind_some, Option.toList_some, Option.toList_none, List.append_nil, List.cons_append, List.nil_append, znat, znat1, zpm1, zcm1, zof0, zof1, zof2, zof3, zofa0, zofa1, h49, h48, zof50, v0, lo, b_X3_isTold_36, b_X3_isTold_56, b1, b_X3_isTold_65]
        exact k1
      · by_cases q2 : w j = (mrounds j K).2.2.2.2.1 r
        · obtain ⟨τ3, k1, k2⟩ := ih (j + 1) τ2 (by omega) (zScr_tr hs hs2) b2'
          refine ⟨τ3, ?_, zScr_tr hs2 k2⟩
          rw [if_pos (Or.inr q2), b_X3_isTold_2, f48, f49, f50]
          simp (disch := omega) only [nrm_id, zix, ↓reduceIte, if_true, if_false, true_and, and_true, false_and, and_false, not_true_eq_false, not_false_eq_true, Int.reduceAdd, Int.reduceSub, Int.reduceMul, ↓if_pos, ↓if_neg, Option.bind_some, Option.toList_some, Option.toList_none, List.append_nil, List.cons_append, List.nil_append, znat, znat1, zpm1, zcm1, zof0, zof1, zof2, zof3, zofa0, zofa1, h49, h48, zof50, v0, lo, b_X3_isTold_36, r_of, b_X3_isTold_50, t5, b_X3_isTold_56, b1, b_X3_isTold_65]
          exact k1
        · refine ⟨τ, ?_, zScr_rf _ _⟩
          rw [if_neg (fun z => z.elim q1 q2), b_X3_isTold_2, f48, f49, f50]
          simp (disch := omega) only [nrm_id, zix, ↓reduceIte, if_true, if_false, true_and, and_true, false_and, and_false, not_true_eq_false, not_false_eq_true, Int.reduceAdd, Int.reduceSub, Int.reduceMul, ↓if_pos, ↓if_neg, Option.bind_some, Option.toList_some, Option.toList_none, List.append_nil, List.cons_append, List.nil_append, znat, znat1, zpm1, zcm1, zof0, zof1, zof2, zof3, zofa0, zofa1, h49, h48, zof50, v0, lo, b_X3_isTold_36, r_of, b_X3_isTold_50, t5]
  obtain ⟨σ2, k1, k2⟩ := lp n 0 σ (by omega) (zScr_rf _ _) hA
  refine ⟨σ2, ?_, k2⟩
  rw [e_X3_isTold]
  exact k1
end SYS19
