section SYS29
variable {σ : zS} {K : zK} {T : Int}
theorem s_initSit (d : Nat) (x : Int) : ∀ (m i : Nat) (τ : zS), i + m = 6 → (∀ j, j < i → τ 17 j = (j : Int)) → ∃ τ', zq d mX2_findBestSitting 2 [some (zR (some 0)), some (zI x), some (zI i), none, none, none] [] τ = zq d mX2_findBestSitting 31 [some (zR (some 0)), some (zI x), some (zI 0), some (zI 1), some (zI 0), none] [] τ' ∧ (∀ j, j < 6 → τ' 17 j = (j : Int)) ∧ zFr [17] τ τ' := by
  intro m
  induction m with
  | zero =>
    intro i τ hi hl
    refine ⟨τ, ?_, fun j hj => hl j (by omega), zFr_rf _ _⟩
    rw [b_X2_findBestSitting_2]
    simp (disch := omega) only [nrm_id, zix, ↓reduceIte, if_true, if_false, true_and, and_true, false_and, and_false, not_true_eq_false, not_false_eq_true, Int.reduceAdd, Int.reduceSub, Int.reduceMul, ↓if_pos, ↓if_neg, Option.bind_some, Option.toList_some, Option.toList_none, List.append_nil, List.cons_append, List.nil_append, znat, znat1, zpm1, zcm1, zof0, zof1, zof2, zof3, zofa0, zofa1]
  | succ m ih =>
    intro i τ hi hl
    obtain ⟨τ', g1, g2, g3⟩ := ih (i + 1) (zup τ 17 i i) (by omega) (fun j hj => by
      by_cases e : j = i
      · subst e; rw [zup_at]
      · rw [zup_ix e]; exact hl j (by omega))
    refine ⟨τ', ?_, g2, zFr_tr (zFr_up (by simp)) g3⟩
    rw [b_X2_findBestSitting_2]
    simp (disch := omega) only [nrm_id, zix, ↓reduceIte, if_true, if_false, true_and, and_true, false_and, and_false, not_true_eq_false, not_false_eq_true, Int.reduceAdd, Int.reduceSub, Int.reduceMul, ↓if_pos, ↓if_neg, Option.bind_some, Option.toList_some, Option.toList_none, List.append_nil, List.cons_append, List.nil_append, znat, znat1, zpm1, zcm1, zof0, zof1, zof2, zof3, zofa0, zofa1]
    exact g1
theorem s_bestLoop (d : Nat) (hp6 : K.1 ≤ 6) {n : Nat} (hn : n < 1000) : ∀ (L : List Nat) (c i : Nat) (s : Int × Nat) (most : Int) (τ : zS), mchk K.1 c L = true → i + L.length + 1 ≤ 720 → zSysK K T τ → (∀ j, j < 6 → τ 17 j = (mar K.1 c j : Int)) → ((i = 0 ∧ s.1 = -1000000000) ∨ (i ≠ 0 ∧ most = s.1 ∧ (-400 ≤ s.1 ∧ s.1 ≤ 400) ∧ ∀ j, j < 6 → τ 18 j = (mar K.1 s.2 j : Int))) → ∃ τ', zq (d + 5) mX2_findBestSitting 31 [some (zR (some 0)), some (zI n), some (zI most), some (zI 1), some (zI i), none] [] τ = some (some (zI (mfo (mJo K n) s (c :: L)).1), τ') ∧ (∀ j, j < 6 → τ' 18 j = (mar K.1 (mfo (mJo K n) s (c :: L)).2 j : Int)) ∧ zScr zSc τ τ' := by
  intro L
  induction L with
  | nil =>
    intro c i s most τ hc hi hS ha hs
    have hi' : i + 1 ≤ 720 := by simpa using hi
    have hJ := mJo_rng hS.2.2.1 n c
    have h10 : τ 1 0 = (K.1 : Int) := hS.1.1
    obtain ⟨τ1, b1, b2⟩ := s_joySitting d hS hp6 hn ha
    have hc0 : mtn (mar K.1 c) (K.1 - 1) = 0 := of_decide_eq_true hc
    have hlt : ∀ i, i < 6 → mar K.1 c i < 8 := fun i hi => mar_lt hi
    by_cases up : i = 0 ∨ s.1 < mJo K n c
    · have e : mfo (mJo K n) s [c] = (mJo K n c, c) := by
        show (if mJo K n c ≤ s.1 then s else (mJo K n c, c)) = _
        rw [if_neg]
        rcases hs with hs | hs
        · omega
        · rcases up with up | up
          · exact absurd up hs.1
          · omega
      have hcp : ∀ j, j < 6 → zcpy τ1 17 0 18 0 6 18 j = (mar K.1 c j : Int) := fun j hj => by rw [zcpy_0 hj, b2 17 (by simp)]; exact ha j hj
      have nx := s_nextN (σ := zcpy τ1 17 0 18 0 6) (d + 3) hp6 (a := mar K.1 c) (fun j hj => by rw [zcpy_ne (by decide), b2 17 (by simp)]; exact ha j hj) hlt hc0
      have e10 : zcpy τ1 17 0 18 0 6 1 0 = (K.1 : Int) := by rw [zcpy_ne (by decide), b2 1 (by simp)]; exact h10
      refine ⟨zcpy τ1 17 0 18 0 6, ?_, fun j hj => by rw [e]; exact hcp j hj, zScr_tr (zScr_of b2 (by simp [zSc]) (by simp)) (zScr_of (ps := [18]) (fun q hq => zcpy_ne (by simpa using hq)) (by simp [zSc]) (by simp))⟩
      rw [e, b_X2_findBestSitting_31]
      have e48 : zq (d + 5) mX2_findBestSitting 48 [some (zR (some 0)), some (zI n), some (zI most), some (zI 1), some (zI i), none] [zI (mJo K n c)] τ1 = zq (d + 5) mX2_findBestSitting 61 [some (zR (some 0)), some (zI n), none, none, some (zI i), some (zI (mJo K n c))] [] τ1 := by
        rw [b_X2_findBestSitting_48]
        by_cases q : i = 0
        · simp (disch := omega) only [nrm_id, zix, ↓reduceIte, if_true, if_false, true_and, and_true, false_and, and_false, not_true_eq_false, not_false_eq_true, Int.reduceAdd, Int.reduceSub, Int.reduceMul, ↓if_pos, ↓if_neg, Option.bind_some, Option.toList_some, Option.toList_none, List.append_nil, List.cons_append, List.nil_append, znat, znat1, zpm1, zcm1, zof0, zof1, zof2, zof3, zofa0, zofa1]
        · rcases hs with hs | hs
          · exact absurd hs.1 q
          · have hm := hs.2.1
            have hr := hs.2.2.1
            have up2 : s.1 < mJo K n c := up.resolve_left q
            clear hs up
            simp (disch := omega) only [nrm_id, zix, ↓reduceIte, if_true, if_false, true_and, and_true, false_and, and_false, not_true_eq_false, not_false_eq_true, Int.reduceAdd, Int.reduceSub, Int.reduceMul, ↓if_pos, ↓if_neg, Option.bind_some, Option.toList_some, Option.toList_none, List.append_nil, List.cons_append, List.nil_append, znat, znat1, zpm1, zcm1, zof0, zof1, zof2, zof3, zofa0, zofa1]
      simp (disch := omega) only [nrm_id, zix, ↓reduceIte, if_true, if_false, true_and, and_true, false_and, and_false, not_true_eq_false, not_false_eq_true, Int.reduceAdd, Int.reduceSub, Int.reduceMul, ↓if_pos, ↓if_neg, Option.bind_some, Option.toList_some, Option.toList_none, List.append_nil, List.cons_append, List.nil_append, znat, znat1, zpm1, zcm1, zof0, zof1, zof2, zof3, zofa0, zofa1, b1, e48, b_X2_findBestSitting_61, b_X2_findBestSitting_82, e10, nx, b_X2_findBestSitting_93]
      rw [b_X2_findBestSitting_31]
      by_cases q : 720 ≤ i + 1 <;> simp (disch := omega) only [nrm_id, zix, ↓reduceIte, if_true, if_false, true_and, and_true, false_and, and_false, not_true_eq_false, not_false_eq_true, Int.reduceAdd, Int.reduceSub, Int.reduceMul, ↓if_pos, ↓if_neg, Option.bind_some, Option.toList_some, Option.toList_none, List.append_nil, List.cons_append, List.nil_append, znat, znat1, zpm1, zcm1, zof0, zof1, zof2, zof3, zofa0, zofa1]
    · have q0 : i ≠ 0 := fun z => up (Or.inl z)
      have q1 : mJo K n c ≤ s.1 := by have := fun z => up (Or.inr z); omega
      obtain ⟨-, hm, hr, h18⟩ := hs.resolve_left (fun z => q0 z.1)
      have e : mfo (mJo K n) s [c] = s := if_pos q1
      have nx := s_nextN (σ := τ1) (d + 3) hp6 (a := mar K.1 c) (fun j hj => by rw [b2 17 (by simp)]; exact ha j hj) hlt hc0
      have e10 : τ1 1 0 = (K.1 : Int) := by rw [b2 1 (by simp)]; exact h10
      refine ⟨τ1, ?_, fun j hj => by rw [e, b2 18 (by simp)]; exact h18 j hj, zScr_of b2 (by simp [zSc]) (by simp)⟩
      clear up hs
      rw [e, b_X2_findBestSitting_31]
      simp (disch := omega) only [nrm_id, zix, ↓reduceIte, if_true, if_false, true_and, and_true, false_and, and_false, not_true_eq_false, not_false_eq_true, Int.reduceAdd, Int.reduceSub, Int.reduceMul, ↓if_pos, ↓if_neg, Option.bind_some, Option.toList_some, Option.toList_none, List.append_nil, List.cons_append, List.nil_append, znat, znat1, zpm1, zcm1, zof0, zof1, zof2, zof3, zofa0, zofa1, b1, b_X2_findBestSitting_48, b_X2_findBestSitting_82, e10, nx, b_X2_findBestSitting_93]
      rw [b_X2_findBestSitting_31, hm]
      by_cases q : 720 ≤ i + 1 <;> simp (disch := omega) only [nrm_id, zix, ↓reduceIte, if_true, if_false, true_and, and_true, false_and, and_false, not_true_eq_false, not_false_eq_true, Int.reduceAdd, Int.reduceSub, Int.reduceMul, ↓if_pos, ↓if_neg, Option.bind_some, Option.toList_some, Option.toList_none, List.append_nil, List.cons_append, List.nil_append, znat, znat1, zpm1, zcm1, zof0, zof1, zof2, zof3, zofa0, zofa1]
  | cons c' L ih =>
    intro c i s most τ hc hi hS ha hs
    have hi' : i + (L.length + 1) + 1 ≤ 720 := hi
    have hJ := mJo_rng hS.2.2.1 n c
    have h10 : τ 1 0 = (K.1 : Int) := hS.1.1
    obtain ⟨τ1, b1, b2⟩ := s_joySitting d hS hp6 hn ha
    have hc2 : (decide (mtn (mar K.1 c) (K.1 - 1) ≠ 0) && (((List.range 6).all fun i => mnx K.1 (mar K.1 c) (mtn (mar K.1 c) (K.1 - 1) - 1) i == mar K.1 c' i) && mchk K.1 c' L)) = true := hc
    rw [Bool.and_eq_true, Bool.and_eq_true] at hc2
    obtain ⟨z1, z2, hcL⟩ := hc2
    have hc0 : mtn (mar K.1 c) (K.1 - 1) = (mtn (mar K.1 c) (K.1 - 1) - 1) + 1 := by have := of_decide_eq_true z1; omega
    have hcn : ∀ i, i < 6 → mnx K.1 (mar K.1 c) (mtn (mar K.1 c) (K.1 - 1) - 1) i = mar K.1 c' i := fun i hi => eq_of_beq (List.all_eq_true.mp z2 i (List.mem_range.mpr hi))
    have hlt : ∀ i, i < 6 → mar K.1 c i < 8 := fun i hi => mar_lt hi
    by_cases up : i = 0 ∨ s.1 < mJo K n c
    · have e : mfo (mJo K n) s (c :: c' :: L) = mfo (mJo K n) (mJo K n c, c) (c' :: L) := by
        show mfo (mJo K n) (if mJo K n c ≤ s.1 then s else (mJo K n c, c)) (c' :: L) = _
        rw [if_neg]
        rcases hs with hs | hs
        · omega
        · rcases up with up | up
          · exact absurd up hs.1
          · omega
      have hcp : ∀ j, j < 6 → zcpy τ1 17 0 18 0 6 18 j = (mar K.1 c j : Int) := fun j hj => by rw [zcpy_0 hj, b2 17 (by simp)]; exact ha j hj
      obtain ⟨τ2, nx, n2, n3⟩ := s_nextY (σ := zcpy τ1 17 0 18 0 6) (d + 3) hp6 (a := mar K.1 c) (fun j hj => by rw [zcpy_ne (by decide), b2 17 (by simp)]; exact ha j hj) hlt hc0
      have e10 : zcpy τ1 17 0 18 0 6 1 0 = (K.1 : Int) := by rw [zcpy_ne (by decide), b2 1 (by simp)]; exact h10
      have hsc : zScr zSc τ τ2 := zScr_tr (zScr_tr (zScr_of b2 (by simp [zSc]) (by simp)) (zScr_of (ps := [18]) (fun q hq => zcpy_ne (by simpa using hq)) (by simp [zSc]) (by simp))) (zScr_of n3 (by simp [zSc]) (by simp))
      obtain ⟨τ3, k1, k2, k3⟩ := ih c' (i + 1) (mJo K n c, c) (mJo K n c) τ2 hcL (by omega) (zSys_scr hS hsc) (fun j hj => by rw [n2 j hj, hcn j hj]) (Or.inr ⟨by omega, rfl, hJ, fun j hj => by rw [n3 18 (by simp)]; exact hcp j hj⟩)
      refine ⟨τ3, ?_, fun j hj => by rw [e]; exact k2 j hj, zScr_tr hsc k3⟩
      rw [e, b_X2_findBestSitting_31]
      have e48 : zq (d + 5) mX2_findBestSitting 48 [some (zR (some 0)), some (zI n), some (zI most), some (zI 1), some (zI i), none] [zI (mJo K n c)] τ1 = zq (d + 5) mX2_findBestSitting 61 [some (zR (some 0)), some (zI n), none, none, some (zI i), some (zI (mJo K n c))] [] τ1 := by
        rw [b_X2_findBestSitting_48]
        by_cases q : i = 0
        · simp (disch := omega) only [nrm_id, zix, ↓reduceIte, if_true, if_false, true_and, and_true, false_and, and_false, not_true_eq_false, not_false_eq_true, Int.reduceAdd, Int.reduceSub, Int.reduceMul, ↓if_pos, ↓if_neg, Option.bind_some, Option.toList_some, Option.toList_none, List.append_nil, List.cons_append, List.nil_append, znat, znat1, zpm1, zcm1, zof0, zof1, zof2, zof3, zofa0, zofa1]
        · rcases hs with hs | hs
          · exact absurd hs.1 q
          · have hm := hs.2.1
            have hr := hs.2.2.1
            have up2 : s.1 < mJo K n c := up.resolve_left q
            clear hs up
            simp (disch := omega) only [nrm_id, zix, ↓reduceIte, if_true, if_false, true_and, and_true, false_and, and_false, not_true_eq_false, not_false_eq_true, Int.reduceAdd, Int.reduceSub, Int.reduceMul, ↓if_pos, ↓if_neg, Option.bind_some, Option.toList_some, Option.toList_none, List.append_nil, List.cons_append, List.nil_append, znat, znat1, zpm1, zcm1, zof0, zof1, zof2, zof3, zofa0, zofa1]
      clear hs up
      simp (disch := omega) only [nrm_id, zix, ↓reduceIte, if_true, if_false, true_and, and_true, false_and, and_false, not_true_eq_false, not_false_eq_true, Int.reduceAdd, Int.reduceSub, Int.reduceMul, ↓if_pos, ↓if_neg, Option.bind_some, Option.toList_some, Option.toList_none, List.append_nil, List.cons_append, List.nil_append, znat, znat1, zpm1, zcm1, zof0, zof1, zof2, zof3, zofa0, zofa1, b1, e48, b_X2_findBestSitting_61, b_X2_findBestSitting_82, e10, nx, b_X2_findBestSitting_93]
      exact k1
    · have q0 : i ≠ 0 := fun z => up (Or.inl z)
      have q1 : mJo K n c ≤ s.1 := by have := fun z => up (Or.inr z); omega
      obtain ⟨-, hm, hr, h18⟩ := hs.resolve_left (fun z => q0 z.1)
      have e : mfo (mJo K n) s (c :: c' :: L) = mfo (mJo K n) s (c' :: L) := by
        show mfo (mJo K n) (if mJo K n c ≤ s.1 then s else (mJo K n c, c)) (c' :: L) = _
        rw [if_pos q1]
      obtain ⟨τ2, nx, n2, n3⟩ := s_nextY (σ := τ1) (d + 3) hp6 (a := mar K.1 c) (fun j hj => by rw [b2 17 (by simp)]; exact ha j hj) hlt hc0
      have e10 : τ1 1 0 = (K.1 : Int) := by rw [b2 1 (by simp)]; exact h10
      have hsc : zScr zSc τ τ2 := zScr_tr (zScr_of b2 (by simp [zSc]) (by simp)) (zScr_of n3 (by simp [zSc]) (by simp))
      obtain ⟨τ3, k1, k2, k3⟩ := ih c' (i + 1) s most τ2 hcL (by omega) (zSys_scr hS hsc) (fun j hj => by rw [n2 j hj, hcn j hj]) (Or.inr ⟨by omega, hm, hr, fun j hj => by rw [n3 18 (by simp), b2 18 (by simp)]; exact h18 j hj⟩)
      refine ⟨τ3, ?_, fun j hj => by rw [e]; exact k2 j hj, zScr_tr hsc k3⟩
      clear hs up
      rw [e, b_X2_findBestSitting_31]
      simp (disch := omega) only [nrm_id, zix, ↓reduceIte, if_true, if_false, true_and, and_true, false_and, and_false, not_true_eq_false, not_false_eq_true, Int.reduceAdd, Int.reduceSub, Int.reduceMul, ↓if_pos, ↓if_neg, Option.bind_some, Option.toList_some, Option.toList_none, List.append_nil, List.cons_append, List.nil_append, znat, znat1, zpm1, zcm1, zof0, zof1, zof2, zof3, zofa0, zofa1, b1, b_X2_findBestSitting_48, b_X2_findBestSitting_82, e10, nx, b_X2_findBestSitting_93]
      exact k1
theorem mfo_ge (J : Nat → Int) : ∀ (L : List Nat) (s : Int × Nat), s.1 ≤ (mfo J s L).1 := by
  intro L
  induction L with
  | nil => intro s; exact Int.le_refl _
  | cons c L ih =>
    intro s
    refine Int.le_trans ?_ (ih _)
    split
    · exact Int.le_refl _
    · show s.1 ≤ J c
      omega
def mbo (K : zK) (n : Nat) : Int × Nat := mfo (mJo K n) (-1000000000, 0) (mtab K.1)
theorem mbo_rng (hO : mOk K) (hp6 : K.1 ≤ 6) (n : Nat) : -400 ≤ (mbo K n).1 := by
  have h := mJo_rng hO n ((mtab K.1).headD 0)
  unfold mbo
  rw [mtab_cons (by omega)]
  show -400 ≤ (mfo (mJo K n) (if mJo K n ((mtab K.1).headD 0) ≤ -1000000000 then (-1000000000, 0) else (mJo K n ((mtab K.1).headD 0), (mtab K.1).headD 0)) (mtab K.1).tail).1
  rw [if_neg (by omega)]
  exact Int.le_trans h.1 (mfo_ge (mJo K n) _ _)
theorem s_findBest (d : Nat) (h : zSysK K T σ) (hp6 : K.1 ≤ 6) {n : Nat} (hn : n < 1000) : ∃ σ', zc (d + 5) mX2_findBestSitting [zR (some 0), zI n] σ = some (some (zI (mbo K n).1), σ') ∧ (∀ j, j < 6 → σ' 18 j = (mar K.1 (mbo K n).2 j : Int)) ∧ zScr zSc σ σ' := by
  obtain ⟨σ1, a1, a2, a3⟩ := s_initSit (d + 5) n 6 0 σ (by omega) (fun j hj => by omega)
  have hsc : zScr zSc σ σ1 := zScr_of a3 (by simp [zSc]) (by simp)
  have hc := mtab_chk K.1 (by omega)
  have hl := (mtab_len K.1 (by omega)).1
  rw [mtab_cons (by omega)] at hl
  have hl2 : (mtab K.1).tail.length + 1 ≤ 720 := hl
  obtain ⟨σ2, b1, b2, b3⟩ := s_bestLoop d hp6 hn (mtab K.1).tail ((mtab K.1).headD 0) 0 (-1000000000, 0) 0 σ1 hc (by omega) (zSys_scr h hsc) (fun j hj => by rw [a2 j hj, mtab_hd K.1 (by omega) j hj]) (Or.inl ⟨rfl, rfl⟩)
  rw [← mtab_cons (by omega)] at b1 b2
  refine ⟨σ2, ?_, b2, zScr_tr hsc b3⟩
  rw [e_X2_findBestSitting]
  exact Eq.trans a1 b1
end SYS29
