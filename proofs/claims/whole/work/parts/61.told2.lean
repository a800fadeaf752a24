section SYS20
variable {σ : zS} {K : zK} {T : Int}
theorem r_kinds (d : Nat) (h : zSysK K T σ) {i : Nat} (hi : i < 8) {n : Nat} {s : Int} (h48 : σ 48 i = s) (h49 : σ 49 i = n) (hn2 : n ≤ 100) (h3 : 0 ≤ s ∧ s ≤ 2) {w : Nat → Int} (hw : ∀ j, j < 100 → σ 50 (100 * i + j) = w j) (hwr : ∀ j, j < 100 → R32 (w j)) {l : Int} (hl : mleast s = l) {r : Nat} (hr : r < K.1) : ∃ σ1, zq (d + 4) mX3_whatIs 41 [some (zR (some 36)), some (zI i), some (zI r), some (zI 0), none, some (zI 0), some (zI 0)] [] σ = some (some (zI (mset (fun k : Nat => mtold (mKf K r (k : Int) (K.2.2.2.1 r)) w l r n 0) 8)), σ1) ∧ zScr zSc σ σ1 := by
  have hO := h.2.2.1
  have hp := hO.1
  obtain ⟨g, hg⟩ : ∃ g : Nat → Int, g = fun k : Nat => mtold (mKf K r (k : Int) (K.2.2.2.1 r)) w l r n 0 := ⟨_, rfl⟩
  rw [← hg]
  have hgk : ∀ k : Nat, g k = mtold (mKf K r (k : Int) (K.2.2.2.1 r)) w l r n 0 := fun k => by rw [hg]
  have lp : ∀ (m k : Nat) (τ : zS), k + m = 8 → zSysK K T τ → zScr zSc σ τ → ∃ τ', zq (d + 4) mX3_whatIs 41 [some (zR (some 36)), some (zI i), some (zI r), some (zI 0), none, some (zI (mset g k)), some (zI k)] [] τ = some (some (zI (mset g 8)), τ') ∧ zScr zSc τ τ' := by
    intro m
    induction m with
    | zero =>
      intro k τ hk hS hs
      refine ⟨τ, ?_, zScr_rf _ _⟩
      rw [b_X3_whatIs_41, show k = 8 from by omega]
      simp (disch := omega) only [nrm_id, zix, ↓reduceIte, if_true, if_false, true_and, and_true, false_and, and_false, not_true_eq_false, not_false_eq_true, Int.reduceAdd, Int.reduceSub, Int.reduceMul, ↓if_pos, ↓if_neg, Option.bind_some, Option.toList_some, Option.toList_none, List.append_nil, List.cons_append, List.nil_append, znat, znat1, zpm1, zcm1, zof0, zof1, zof2, zof3, zofa0, zofa1, b_X3_whatIs_54]
    | succ m ih =>
      intro k τ hk hS hs
      obtain ⟨τ1, a1, a2, a3⟩ := r_copies (d + 3) zAr37 zAr38 τ
      have hs1 := zScr_of (qs := zSc) a3 (by simp [zSc]) (by simp)
      have hs2 : zScr zSc τ1 (zup τ1 38 (3 + 4 * r) k) := zScr_of (ps := [38]) (zFr_up (by simp)) (by simp [zSc]) (by simp)
      have hs3 := zScr_tr (zScr_tr hs hs1) hs2
      have hA : AbsM (zup τ1 38 (3 + 4 * r) k) 38 (mKf K r (k : Int) (K.2.2.2.1 r)) := by
        refine AbsM_eq (AbsM_kind (AbsM_copy hS.2.1 a2) (r := r) (v := (k : Int))) ⟨rfl, rfl, fun _ _ => rfl, fun j _ => ?_, fun _ _ => rfl, fun _ _ => rfl⟩
        show K.2.2.2.1 j = if j = r then K.2.2.2.1 r else K.2.2.2.1 j
        by_cases e : j = r
        · subst e; rw [if_pos rfl]
        · rw [if_neg e]
      obtain ⟨τ2, g1, g2⟩ := r_isTold d (mKf_ok hO (r := r) (k := (k : Int)) (f := K.2.2.2.1 r) (by omega) (hO.2.2.2.1 r (by omega))) hA hi (n := n) (s := s) (by rw [hs3.1 48 (by decide) (by decide)]; exact h48) (by rw [hs3.1 49 (by decide) (by decide)]; exact h49) hn2 h3 (w := w) (by rw [hs3.1 50 (by decide) (by decide)]; exact hw) hwr (l := l) hl (r := r) (by omega)
      have hs4 := zScr_tr (zScr_tr hs1 hs2) g2
      obtain ⟨τ3, k1, k2⟩ := ih (k + 1) τ2 (by omega) (zSys_scr hS hs4) (zScr_tr hs hs4)
      refine ⟨τ3, ?_, zScr_tr hs4 k2⟩
      have mr := mset_rng g k (by omega)
      rw [← hgk k] at g1
      rw [b_X3_whatIs_41]
      rcases (hgk k).symm ▸ mtold_01 (mKf K r (k : Int) (K.2.2.2.1 r)) w l r n 0 with z | z
      · rw [z] at g1
        rw [mset_t z] at k1
        simp (disch := omega) only [nrm_id, zix, ↓reduceIte, if_true, if_false, true_and, and_true, false_and, and_false, not_true_eq_false, not_false_eq_true, Int.reduceAdd, Int.reduceSub, Int.reduceMul, ↓if_pos, ↓if_neg, Option.bind_some, Option.toList_some, Option.toList_none, List.append_nil, List.cons_append, List.nil_append, znat, znat1, zpm1, zcm1, zof0, zof1, zof2, zof3, zofa0, zofa1, b_X3_whatIs_54, a1, b_X3_whatIs_68, r_of, b_X3_whatIs_77, g1, b_X3_whatIs_88, b_X3_whatIs_99, zor_00 mr]
        exact k1
      · rw [z] at g1
        rw [mset_f z] at k1
        simp (disch := omega) only [nrm_id, zix, ↓reduceIte, if_true, if_false, true_and, and_true, false_and, and_false, not_true_eq_false, not_false_eq_true, Int.reduceAdd, Int.reduceSub, Int.reduceMul, ↓if_pos, ↓if_neg, Option.bind_some, Option.toList_some, Option.toList_none, List.append_nil, List.cons_append, List.nil_append, znat, znat1, zpm1, zcm1, zof0, zof1, zof2, zof3, zofa0, zofa1, b_X3_whatIs_54, a1, b_X3_whatIs_68, r_of, b_X3_whatIs_77, g1, b_X3_whatIs_88, b_X3_whatIs_99]
        exact k1
  obtain ⟨σ2, k1, k2⟩ := lp 8 0 σ (by omega) h (zScr_rf _ _)
  exact ⟨σ2, k1, k2⟩
theorem r_figures (d : Nat) (h : zSysK K T σ) {i : Nat} (hi : i < 8) {n : Nat} {s : Int} (h48 : σ 48 i = s) (h49 : σ 49 i = n) (hn2 : n ≤ 100) (h3 : 0 ≤ s ∧ s ≤ 2) {w : Nat → Int} (hw : ∀ j, j < 100 → σ 50 (100 * i + j) = w j) (hwr : ∀ j, j < 100 → R32 (w j)) {l : Int} (hl : mleast s = l) {r : Nat} (hr : r < K.1) : ∃ σ1, zq (d + 4) mX3_whatIs 41 [some (zR (some 36)), some (zI i), some (zI r), some (zI 1), none, some (zI 0), some (zI 0)] [] σ = some (some (zI (mset (fun k : Nat => mtold (mKf K r (K.2.2.1 r) (k : Int)) w l r n 0) 10)), σ1) ∧ zScr zSc σ σ1 := by
  have hO := h.2.2.1
  have hp := hO.1
  obtain ⟨g, hg⟩ : ∃ g : Nat → Int, g = fun k : Nat => mtold (mKf K r (K.2.2.1 r) (k : Int)) w l r n 0 := ⟨_, rfl⟩
  rw [← hg]
  have hgk : ∀ k : Nat, g k = mtold (mKf K r (K.2.2.1 r) (k : Int)) w l r n 0 := fun k => by rw [hg]
  have lp : ∀ (m k : Nat) (τ : zS), k + m = 10 → zSysK K T τ → zScr zSc σ τ → ∃ τ', zq (d + 4) mX3_whatIs 41 [some (zR (some 36)), some (zI i), some (zI r), some (zI 1), none, some (zI (mset g k)), some (zI k)] [] τ = some (some (zI (mset g 10)), τ') ∧ zScr zSc τ τ' := by
    intro m
    induction m with
    | zero =>
      intro k τ hk hS hs
      refine ⟨τ, ?_, zScr_rf _ _⟩
      rw [b_X3_whatIs_41, show k = 10 from by omega]
      simp (disch := omega) only [nrm_id, zix, ↓reduceIte, if_true, if_false, true_and, and_true, false_and, and_false, not_true_eq_false, not_false_eq_true, Int.reduceAdd, Int.reduceSub, Int.reduceMul, ↓if_pos, ↓if_neg, Option.bind_some, Option.toList_some, Option.toList_none, List.append_nil, List.cons_append, List.nil_append, znat, znat1, zpm1, zcm1, zof0, zof1, zof2, zof3, zofa0, zofa1, b_X3_whatIs_54]
    | succ m ih =>
      intro k τ hk hS hs
      obtain ⟨τ1, a1, a2, a3⟩ := r_copies (d + 3) zAr37 zAr38 τ
      have hs1 := zScr_of (qs := zSc) a3 (by simp [zSc]) (by simp)
      have hs2 : zScr zSc τ1 (zup τ1 38 (4 + 4 * r) k) := zScr_of (ps := [38]) (zFr_up (by simp)) (by simp [zSc]) (by simp)
      have hs3 := zScr_tr (zScr_tr hs hs1) hs2
      have hA : AbsM (zup τ1 38 (4 + 4 * r) k) 38 (mKf K r (K.2.2.1 r) (k : Int)) := by
        refine AbsM_eq (AbsM_fig (AbsM_copy hS.2.1 a2) (r := r) (v := (k : Int))) ⟨rfl, rfl, fun j _ => ?_, fun _ _ => rfl, fun _ _ => rfl, fun _ _ => rfl⟩
        show K.2.2.1 j = if j = r then K.2.2.1 r else K.2.2.1 j
        by_cases e : j = r
        · subst e; rw [if_pos rfl]
        · rw [if_neg e]
      obtain ⟨τ2, g1, g2⟩ := r_isTold d (mKf_ok hO (r := r) (k := K.2.2.1 r) (f := (k : Int)) (hO.2.2.1 r (by omega)) (by omega)) hA hi (n := n) (s := s) (by rw [hs3.1 48 (by decide) (by decide)]; exact h48) (by rw [hs3.1 49 (by decide) (by decide)]; exact h49) hn2 h3 (w := w) (by rw [hs3.1 50 (by decide) (by decide)]; exact hw) hwr (l := l) hl (r := r) (by omega)
      have hs4 := zScr_tr (zScr_tr hs1 hs2) g2
      obtain ⟨τ3, k1, k2⟩ := ih (k + 1) τ2 (by omega) (zSys_scr hS hs4) (zScr_tr hs hs4)
      refine ⟨τ3, ?_, zScr_tr hs4 k2⟩
      have mr := mset_rng g k (by omega)
      rw [← hgk k] at g1
      rw [b_X3_whatIs_41]
      rcases (hgk k).symm ▸ mtold_01 (mKf K r (K.2.2.1 r) (k : Int)) w l r n 0 with z | z
      · rw [z] at g1
        rw [mset_t z] at k1
        simp (disch := omega) only [nrm_id, zix, ↓reduceIte, if_true, if_false, true_and, and_true, false_and, and_false, not_true_eq_false, not_false_eq_true, Int.reduceAdd, Int.reduceSub, Int.reduceMul, ↓if_pos, ↓if_neg, Option.bind_some, Option.toList_some, Option.toList_none, List.append_nil, List.cons_append, List.nil_append, znat, znat1, zpm1, zcm1, zof0, zof1, zof2, zof3, zofa0, zofa1, b_X3_whatIs_54, a1, b_X3_whatIs_68, r_of, b_X3_whatIs_77, g1, b_X3_whatIs_88, b_X3_whatIs_99, zor_00 mr]
        exact k1
      · rw [z] at g1
        rw [mset_f z] at k1
        simp (disch := omega) only [nrm_id, zix, ↓reduceIte, if_true, if_false, true_and, and_true, false_and, and_false, not_true_eq_false, not_false_eq_true, Int.reduceAdd, Int.reduceSub, Int.reduceMul, ↓if_pos, ↓if_neg, Option.bind_some, Option.toList_some, Option.toList_none, List.append_nil, List.cons_append, List.nil_append, znat, znat1, zpm1, zcm1, zof0, zof1, zof2, zof3, zofa0, zofa1, b_X3_whatIs_54, a1, b_X3_whatIs_68, r_of, b_X3_whatIs_77, g1, b_X3_whatIs_88, b_X3_whatIs_99]
        exact k1
  obtain ⟨σ2, k1, k2⟩ := lp 10 0 σ (by omega) h (zScr_rf _ _)
  exact ⟨σ2, k1, k2⟩
end SYS20
