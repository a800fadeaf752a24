def mswp (g : Nat → Nat → Int) (p : Nat) : Nat → Nat → Int → Int → Int
  | 0, _, f, _ => f
  | n + 1, a, f, b => mswp g p n (a + 1) (mbst (g a) (fun j => 10 * (a : Int) + j) (p - (a + 1)) (a + 1) f b).1 (mbst (g a) (fun j => 10 * (a : Int) + j) (p - (a + 1)) (a + 1) f b).2
theorem mbst_rng {g h : Nat → Int} {L H : Int} (n i : Nat) (f b : Int) (hb : L ≤ b ∧ b ≤ H) (hg : ∀ j, i ≤ j → j < i + n → L ≤ g j ∧ g j ≤ H) : L ≤ (mbst g h n i f b).2 ∧ (mbst g h n i f b).2 ≤ H := by
  induction n generalizing i f b with
  | zero => exact hb
  | succ n ih =>
    unfold mbst
    split
    · exact ih (i + 1) f b hb (fun j h1 h2 => hg j (by omega) (by omega))
    · exact ih (i + 1) _ _ (hg i (by omega) (by omega)) (fun j h1 h2 => hg j (by omega) (by omega))
section SYS6
variable {σ : zS} {K : zK} {T : Int}
theorem mup_ok (hO : mOk K) : mOk (Kst K (fun _ => 0)) := ⟨hO.1, hO.2.1, hO.2.2.1, hO.2.2.2.1, fun r _ => ⟨Int.le_refl _, (by decide : (0 : Int) ≤ 10)⟩, fun r hr => ⟨(hO.2.2.2.2.2 r hr).1, (hO.2.2.2.2.2 r hr).2.1, fun _ => rfl⟩⟩
theorem s_joyFromUpright (d : Nat) (h : zSysK K T σ) {n : Nat} (hn : n < 1000) : ∃ σ1, zc (d + 4) mX2_joyFromUpright [zR (some 0), zI n] σ = some (some (zI (mjS (mrounds n (Kst K (fun _ => 0))))), σ1) ∧ zScr zSc σ σ1 := by
  obtain ⟨σ1, a1, a2, -, a3⟩ := s_copyFrom (d + 2) zCo6 zCo1 (by decide) h.1
  obtain ⟨σ2, c1, c2, c3⟩ := s_sitUp (d + 2) zCo6 a2
  have hO := mup_ok h.2.2.1
  obtain ⟨σ3, b1, b2, b3⟩ := s_goOn d zCo6 c2 hO hn
  refine ⟨σ3, ?_, zScr_tr (zScr_tr (zScr_of a3 (by simp [zSc]) (by simp)) (zScr_of c3 (by simp [zSc]) (by simp))) (zScr_of b3 (by simp [zSc]) (by simp))⟩
  rw [e_X2_joyFromUpright]
  simp (disch := omega) only [nrm_id, zix, ↓reduceIte, if_true, if_false, true_and, and_true, false_and, and_false, not_true_eq_false, not_false_eq_true, Int.reduceAdd, Int.reduceSub, Int.reduceMul, ↓if_pos, ↓if_neg, Option.bind_some, Option.toList_some, Option.toList_none, List.append_nil, List.cons_append, List.nil_append, znat, znat1, zpm1, zcm1, zof0, zof1, zof2, zof3, zofa0, zofa1, a1, b_X2_joyFromUpright_11, c1, b_X2_joyFromUpright_18, b1, b_X2_joyFromUpright_26, zC_joy _ b2 (mrounds_ok hO n), b_X2_joyFromUpright_34]
theorem s_joyOfChange (d : Nat) (h : zSysK K T σ) {x y n : Nat} (hx : x < K.1) (hy : y < K.1) (hxy : x ≠ y) (hn : n < 1000) : ∃ σ1, zc (d + 4) mX2_joyOfChange [zR (some 0), zI x, zI y, zI n] σ = some (some (zI (mjS (mrounds n (mchg K x y)))), σ1) ∧ zScr zSc σ σ1 := by
  have hp := h.2.2.1.1
  obtain ⟨σ1, a1, a2, -, a3⟩ := s_copyFrom (d + 2) zCo6 zCo1 (by decide) h.1
  obtain ⟨σ2, c1, c2, -, c3⟩ := s_changePlaces d zCo6 a2 h.2.2.1 hx hy hxy
  have hO : mOk (mchg K x y) := mchg_ok h.2.2.1 (by omega) (by omega)
  obtain ⟨σ3, b1, b2, b3⟩ := s_goOn d zCo6 c2 hO hn
  refine ⟨σ3, ?_, zScr_tr (zScr_tr (zScr_of a3 (by simp [zSc]) (by simp)) (zScr_of c3 (by simp [zSc]) (by simp))) (zScr_of b3 (by simp [zSc]) (by simp))⟩
  rw [e_X2_joyOfChange]
  simp (disch := omega) only [nrm_id, zix, ↓reduceIte, if_true, if_false, true_and, and_true, false_and, and_false, not_true_eq_false, not_false_eq_true, Int.reduceAdd, Int.reduceSub, Int.reduceMul, ↓if_pos, ↓if_neg, Option.bind_some, Option.toList_some, Option.toList_none, List.append_nil, List.cons_append, List.nil_append, znat, znat1, zpm1, zcm1, zof0, zof1, zof2, zof3, zofa0, zofa1, a1, b_X2_joyOfChange_11, c1, b_X2_joyOfChange_20, b1, b_X2_joyOfChange_29, zC_joy _ b2 (mrounds_ok hO n), b_X2_joyOfChange_37]
theorem r_chg (d : Nat) (h : zSysK K T σ) {x y n : Nat} (hx : x < K.1) (hy : y < K.1) (hxy : x ≠ y) (hn : n < 1000) : ∃ σ1 σ2 σ3, zc (d + 3) mX3_copies [zR (some 37), zR (some 38)] σ = some (none, σ1) ∧ zc (d + 3) mX3_changes [zR (some 38), zI x, zI y] σ1 = some (none, σ2) ∧ zc (d + 3) mX3_roundsOn [zR (some 36), zR (some 38), zI n] σ2 = some (none, σ3) ∧ AbsM σ3 38 (mrounds n (mchg K x y)) ∧ zScr zSc σ σ3 ∧ mOk (mrounds n (mchg K x y)) := by
  have hp := h.2.2.1.1
  have hO : mOk (mchg K x y) := mchg_ok h.2.2.1 (by omega) (by omega)
  obtain ⟨σ1, a1, a2, a3⟩ := r_copies (d + 3) zAr37 zAr38 σ
  obtain ⟨σ2, b1, b2, -, b3⟩ := r_changes (d + 1) zAr38 (AbsM_copy h.2.1 a2) (x := x) (y := y) (by omega) (by omega) hxy
  obtain ⟨σ3, c1, c2, -, c3⟩ := r_roundsOn d zAr38 b2 hO hn
  exact ⟨σ1, σ2, σ3, a1, b1, c1, c2, zScr_tr (zScr_tr (zScr_of a3 (by simp [zSc]) (by simp)) (zScr_of b3 (by simp [zSc]) (by simp))) (zScr_of c3 (by simp [zSc]) (by simp)), mrounds_ok hO n⟩
theorem p_swap (h : zSysK K T σ) {x : Int} (hx : R32 x) : zP mX2_swap mX3_swap [zI x] σ := by
  have h0 := h
  obtain ⟨hC, hM, hO, hT1, hT2, hT, -, -⟩ := h
  have hp := hO.1
  obtain ⟨x1, x2⟩ := hx
  by_cases q : 0 ≤ x ∧ x ≤ 60
  · obtain ⟨n, rfl⟩ := Int.eq_ofNat_of_zero_le q.1
    have hgr : ∀ a j : Nat, a < K.1 → j < K.1 → -400 ≤ mjS (mrounds n (mchg K a j)) ∧ mjS (mrounds n (mchg K a j)) ≤ 400 := fun a j ha hj => mjS_rng (mrounds_ok (mchg_ok hO (by omega) (by omega)) n)
    refine zP_read h0 (zI (mswp (fun a j => mjS (mrounds n (mchg K a j))) K.1 K.1 0 (-4) (mjS (mrounds n (Kst K (fun _ => 0)))))) (fun d => ?_) (fun d τ hτ => ?_)
    · have li : ∀ (a : Nat), a < K.1 → ∀ (m i : Nat) (f b : Int) (τ : zS), i + m = K.1 → a < i → zSysK K T τ → (-400 ≤ b ∧ b ≤ 400) → ∃ τ', zq (d + 20) mX2_swap 39 [some (zR (some 0)), some (zI n), some (zI b), some (zI f), some (zI a), some (zI i), none] [] τ = zq (d + 20) mX2_swap 21 [some (zR (some 0)), some (zI n), some (zI (mbst (fun j => mjS (mrounds n (mchg K a j))) (fun j => 10 * (a : Int) + j) m i f b).2), some (zI (mbst (fun j => mjS (mrounds n (mchg K a j))) (fun j => 10 * (a : Int) + j) m i f b).1), some (zI ((a : Int) + 1)), none, none] [] τ' ∧ zScr zSc τ τ' := by
        intro a ha m
        induction m with
        | zero =>
          intro i f b τ hi hai hS hb
          refine ⟨τ, ?_, zScr_rf _ _⟩
          rw [b_X2_swap_39, hS.1.1, show i = K.1 from by omega]
          simp (disch := omega) only [nrm_id, zix, ↓reduceIte, if_true, if_false, true_and, and_true, false_and, and_false, not_true_eq_false, not_false_eq_true, Int.reduceAdd, Int.reduceSub, Int.reduceMul, ↓if_pos, ↓if_neg, Option.bind_some, Option.toList_some, Option.toList_none, List.append_nil, List.cons_append, List.nil_append, znat, znat1, zpm1, zcm1, zof0, zof1, zof2, zof3, zofa0, zofa1, mbst]
        | succ m ih =>
          intro i f b τ hi hai hS hb
          have hg := hgr a i ha (by omega)
          obtain ⟨τ1, g1, g3⟩ := s_joyOfChange (d + 15) hS (x := a) (y := i) (n := n) ha (by omega) (by omega) (by omega)
          have hS1 := zSys_scr hS g3
          unfold mbst
          by_cases hc : mjS (mrounds n (mchg K a i)) ≤ b
          · obtain ⟨τ2, k1, k2⟩ := ih (i + 1) f b τ1 (by omega) (by omega) hS1 hb
            refine ⟨τ2, ?_, zScr_tr g3 k2⟩
            rw [b_X2_swap_39, hS.1.1]
            simp (disch := omega) only [nrm_id, zix, ↓reduceIte, if_true, if_false, true_and, and_true, false_and, and_false, not_true_eq_false, not_false_eq_true, Int.reduceAdd, Int.reduceSub, Int.reduceMul, ↓if_pos, ↓if_neg, Option.bind_some, Option.toList_some, Option.toList_none, List.append_nil, List.cons_append, List.nil_append, znat, znat1, zpm1, zcm1, zof0, zof1, zof2, zof3, zofa0, zofa1, g1, b_X2_swap_60, b_X2_swap_80]
            exact k1
          · obtain ⟨τ2, k1, k2⟩ := ih (i + 1) (10 * (a : Int) + i) (mjS (mrounds n (mchg K a i))) τ1 (by omega) (by omega) hS1 hg
            refine ⟨τ2, ?_, zScr_tr g3 k2⟩
            rw [b_X2_swap_39, hS.1.1]
            simp (disch := omega) only [nrm_id, zix, ↓reduceIte, if_true, if_false, true_and, and_true, false_and, and_false, not_true_eq_false, not_false_eq_true, Int.reduceAdd, Int.reduceSub, Int.reduceMul, ↓if_pos, ↓if_neg, Option.bind_some, Option.toList_some, Option.toList_none, List.append_nil, List.cons_append, List.nil_append, znat, znat1, zpm1, zcm1, zof0, zof1, zof2, zof3, zofa0, zofa1, g1, b_X2_swap_60, b_X2_swap_80]
            exact k1
      have lo : ∀ (m a : Nat) (f b : Int) (τ : zS), a + m = K.1 → zSysK K T τ → (-400 ≤ b ∧ b ≤ 400) → ∃ τ', zq (d + 20) mX2_swap 21 [some (zR (some 0)), some (zI n), some (zI b), some (zI f), some (zI a), none, none] [] τ = some (some (zI (mswp (fun a j => mjS (mrounds n (mchg K a j))) K.1 m a f b)), τ') ∧ zScr zSc τ τ' := by
        intro m
        induction m with
        | zero =>
          intro a f b τ ha hS hb
          refine ⟨τ, ?_, zScr_rf _ _⟩
          rw [b_X2_swap_21, hS.1.1, show a = K.1 from by omega]
          simp (disch := omega) only [nrm_id, zix, ↓reduceIte, if_true, if_false, true_and, and_true, false_and, and_false, not_true_eq_false, not_false_eq_true, Int.reduceAdd, Int.reduceSub, Int.reduceMul, ↓if_pos, ↓if_neg, Option.bind_some, Option.toList_some, Option.toList_none, List.append_nil, List.cons_append, List.nil_append, znat, znat1, zpm1, zcm1, zof0, zof1, zof2, zof3, zofa0, zofa1, mswp]
        | succ m ih =>
          intro a f b τ ha hS hb
          obtain ⟨τ1, g1, g2⟩ := li a (by omega) (K.1 - (a + 1)) (a + 1) f b τ (by omega) (by omega) hS hb
          obtain ⟨τ2, k1, k2⟩ := ih (a + 1) _ _ τ1 (by omega) (zSys_scr hS g2) (mbst_rng (h := fun j => 10 * (a : Int) + j) (K.1 - (a + 1)) (a + 1) f b hb (fun j h1 h2 => hgr a j (by omega) (by omega)))
          refine ⟨τ2, ?_, zScr_tr g2 k2⟩
          rw [b_X2_swap_21, hS.1.1]
          simp (disch := omega) only [nrm_id, zix, ↓reduceIte, if_true, if_false, true_and, and_true, false_and, and_false, not_true_eq_false, not_false_eq_true, Int.reduceAdd, Int.reduceSub, Int.reduceMul, ↓if_pos, ↓if_neg, Option.bind_some, Option.toList_some, Option.toList_none, List.append_nil, List.cons_append, List.nil_append, znat, znat1, zpm1, zcm1, zof0, zof1, zof2, zof3, zofa0, zofa1]
          exact g1.trans k1
      obtain ⟨σ1, g1, g3⟩ := s_joyFromUpright (d + 15) h0 (n := n) (by omega)
      obtain ⟨σ2, k1, k2⟩ := lo K.1 0 (-4) _ σ1 (by omega) (zSys_scr h0 g3) (mjS_rng (mrounds_ok (mup_ok hO) n))
      refine ⟨σ2, ?_, zScr_tr g3 k2⟩
      rw [e_X2_swap, s_isMind _ _ x1 x2]
      simp (disch := omega) only [nrm_id, zix, ↓reduceIte, if_true, if_false, true_and, and_true, false_and, and_false, not_true_eq_false, not_false_eq_true, Int.reduceAdd, Int.reduceSub, Int.reduceMul, ↓if_pos, ↓if_neg, Option.bind_some, Option.toList_some, Option.toList_none, List.append_nil, List.cons_append, List.nil_append, znat, znat1, zpm1, zcm1, zof0, zof1, zof2, zof3, zofa0, zofa1, b_X2_swap_4, g1, b_X2_swap_14]
      exact k1
    · have li : ∀ (a : Nat), a < K.1 → ∀ (m i : Nat) (f b : Int) (τ : zS), i + m = K.1 → a < i → zSysK K T τ → (-400 ≤ b ∧ b ≤ 400) → ∃ τ', zq (d + 20) mX3_swap 70 [some (zR (some 36)), some (zI n), some (zI f), some (zI b), some (zI a), some (zI i)] [] τ = zq (d + 20) mX3_swap 53 [some (zR (some 36)), some (zI n), some (zI (mbst (fun j => mjS (mrounds n (mchg K a j))) (fun j => 10 * (a : Int) + j) m i f b).1), some (zI (mbst (fun j => mjS (mrounds n (mchg K a j))) (fun j => 10 * (a : Int) + j) m i f b).2), some (zI ((a : Int) + 1)), none] [] τ' ∧ zScr zSc τ τ' := by
        intro a ha m
        induction m with
        | zero =>
          intro i f b τ hi hai hS hb
          refine ⟨τ, ?_, zScr_rf _ _⟩
          rw [b_X3_swap_70, hS.2.1.1, show i = K.1 from by omega]
          simp (disch := omega) only [nrm_id, zix, ↓reduceIte, if_true, if_false, true_and, and_true, false_and, and_false, not_true_eq_false, not_false_eq_true, Int.reduceAdd, Int.reduceSub, Int.reduceMul, ↓if_pos, ↓if_neg, Option.bind_some, Option.toList_some, Option.toList_none, List.append_nil, List.cons_append, List.nil_append, znat, znat1, zpm1, zcm1, zof0, zof1, zof2, zof3, zofa0, zofa1, mbst]
        | succ m ih =>
          intro i f b τ hi hai hS hb
          have hg := hgr a i ha (by omega)
          obtain ⟨τ1, τ2, τ3, a1, a2, a3, g2, g3, g4⟩ := r_chg (d + 16) hS (x := a) (y := i) (n := n) ha (by omega) (by omega) (by omega)
          have hS1 := zSys_scr hS g3
          unfold mbst
          by_cases hc : mjS (mrounds n (mchg K a i)) ≤ b
          · obtain ⟨τ4, k1, k2⟩ := ih (i + 1) f b τ3 (by omega) (by omega) hS1 hb
            refine ⟨τ4, ?_, zScr_tr g3 k2⟩
            rw [b_X3_swap_70, hS.2.1.1]
            simp (disch := omega) only [nrm_id, zix, ↓reduceIte, if_true, if_false, true_and, and_true, false_and, and_false, not_true_eq_false, not_false_eq_true, Int.reduceAdd, Int.reduceSub, Int.reduceMul, ↓if_pos, ↓if_neg, Option.bind_some, Option.toList_some, Option.toList_none, List.append_nil, List.cons_append, List.nil_append, znat, znat1, zpm1, zcm1, zof0, zof1, zof2, zof3, zofa0, zofa1, a1, b_X3_swap_92, a2, b_X3_swap_103, a3, b_X3_swap_112, zM_joy _ g2 g4, b_X3_swap_119, b_X3_swap_143]
            exact k1
          · obtain ⟨τ4, k1, k2⟩ := ih (i + 1) (10 * (a : Int) + i) (mjS (mrounds n (mchg K a i))) τ3 (by omega) (by omega) hS1 hg
            refine ⟨τ4, ?_, zScr_tr g3 k2⟩
            rw [b_X3_swap_70, hS.2.1.1]
            simp (disch := omega) only [nrm_id, zix, ↓reduceIte, if_true, if_false, true_and, and_true, false_and, and_false, not_true_eq_false, not_false_eq_true, Int.reduceAdd, Int.reduceSub, Int.reduceMul, ↓if_pos, ↓if_neg, Option.bind_some, Option.toList_some, Option.toList_none, List.append_nil, List.cons_append, List.nil_append, znat, znat1, zpm1, zcm1, zof0, zof1, zof2, zof3, zofa0, zofa1, a1, b_X3_swap_92, a2, b_X3_swap_103, a3, b_X3_swap_112, zM_joy _ g2 g4, b_X3_swap_119, b_X3_swap_142, b_X3_swap_143]
            exact k1
      have lo : ∀ (m a : Nat) (f b : Int) (τ : zS), a + m = K.1 → zSysK K T τ → (-400 ≤ b ∧ b ≤ 400) → ∃ τ', zq (d + 20) mX3_swap 53 [some (zR (some 36)), some (zI n), some (zI f), some (zI b), some (zI a), none] [] τ = some (some (zI (mswp (fun a j => mjS (mrounds n (mchg K a j))) K.1 m a f b)), τ') ∧ zScr zSc τ τ' := by
        intro m
        induction m with
        | zero =>
          intro a f b τ ha hS hb
          refine ⟨τ, ?_, zScr_rf _ _⟩
          rw [b_X3_swap_53, hS.2.1.1, show a = K.1 from by omega]
          simp (disch := omega) only [nrm_id, zix, ↓reduceIte, if_true, if_false, true_and, and_true, false_and, and_false, not_true_eq_false, not_false_eq_true, Int.reduceAdd, Int.reduceSub, Int.reduceMul, ↓if_pos, ↓if_neg, Option.bind_some, Option.toList_some, Option.toList_none, List.append_nil, List.cons_append, List.nil_append, znat, znat1, zpm1, zcm1, zof0, zof1, zof2, zof3, zofa0, zofa1, mswp]
        | succ m ih =>
          intro a f b τ ha hS hb
          obtain ⟨τ1, g1, g2⟩ := li a (by omega) (K.1 - (a + 1)) (a + 1) f b τ (by omega) (by omega) hS hb
          obtain ⟨τ2, k1, k2⟩ := ih (a + 1) _ _ τ1 (by omega) (zSys_scr hS g2) (mbst_rng (h := fun j => 10 * (a : Int) + j) (K.1 - (a + 1)) (a + 1) f b hb (fun j h1 h2 => hgr a j (by omega) (by omega)))
          refine ⟨τ2, ?_, zScr_tr g2 k2⟩
          rw [b_X3_swap_53, hS.2.1.1]
          simp (disch := omega) only [nrm_id, zix, ↓reduceIte, if_true, if_false, true_and, and_true, false_and, and_false, not_true_eq_false, not_false_eq_true, Int.reduceAdd, Int.reduceSub, Int.reduceMul, ↓if_pos, ↓if_neg, Option.bind_some, Option.toList_some, Option.toList_none, List.append_nil, List.cons_append, List.nil_append, znat, znat1, zpm1, zcm1, zof0, zof1, zof2, zof3, zofa0, zofa1]
          exact g1.trans k1
      obtain ⟨σ1, a1, a2, a3⟩ := r_copies (d + 19) zAr37 zAr38 τ
      obtain ⟨σ2, b1, b2, -, b3⟩ := r_upright (d + 18) zAr38 (AbsM_copy hτ.2.1 a2)
      obtain ⟨σ3, c1, c2, -, c3⟩ := r_roundsOn (d + 16) zAr38 b2 (mup_ok hO) (n := n) (by omega)
      have g3 : zScr zSc τ σ3 := zScr_tr (zScr_tr (zScr_of a3 (by simp [zSc]) (by simp)) (zScr_of b3 (by simp [zSc]) (by simp))) (zScr_of c3 (by simp [zSc]) (by simp))
      have g4 := mrounds_ok (mup_ok hO) n
      obtain ⟨σ4, k1, k2⟩ := lo K.1 0 (-4) _ σ3 (by omega) (zSys_scr hτ g3) (mjS_rng g4)
      refine ⟨σ4, ?_, zScr_tr g3 k2⟩
      rw [e_X3_swap]
      simp (disch := omega) only [nrm_id, zix, ↓reduceIte, if_true, if_false, true_and, and_true, false_and, and_false, not_true_eq_false, not_false_eq_true, Int.reduceAdd, Int.reduceSub, Int.reduceMul, ↓if_pos, ↓if_neg, Option.bind_some, Option.toList_some, Option.toList_none, List.append_nil, List.cons_append, List.nil_append, znat, znat1, zpm1, zcm1, zof0, zof1, zof2, zof3, zofa0, zofa1, r_isIn, b_X3_swap_7, a1, b_X3_swap_23, b1, b_X3_swap_30, c1, b_X3_swap_39, zM_joy _ c2 g4, b_X3_swap_49]
      exact k1
  · refine zP_same h0 (zI (-1)) (fun d => ?_) (fun d => ?_)
    · rw [e_X2_swap, s_isMind _ _ x1 x2]
      simp (disch := omega) only [nrm_id, zix, ↓reduceIte, if_true, if_false, true_and, and_true, false_and, and_false, not_true_eq_false, not_false_eq_true, Int.reduceAdd, Int.reduceSub, Int.reduceMul, ↓if_pos, ↓if_neg, Option.bind_some, Option.toList_some, Option.toList_none, List.append_nil, List.cons_append, List.nil_append, znat, znat1, zpm1, zcm1, zof0, zof1, zof2, zof3, zofa0, zofa1, b_X2_swap_4]
    · rw [e_X3_swap]
      simp (disch := omega) only [nrm_id, zix, ↓reduceIte, if_true, if_false, true_and, and_true, false_and, and_false, not_true_eq_false, not_false_eq_true, Int.reduceAdd, Int.reduceSub, Int.reduceMul, ↓if_pos, ↓if_neg, Option.bind_some, Option.toList_some, Option.toList_none, List.append_nil, List.cons_append, List.nil_append, znat, znat1, zpm1, zcm1, zof0, zof1, zof2, zof3, zofa0, zofa1, r_isIn, b_X3_swap_7]
end SYS6
