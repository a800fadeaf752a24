section SYS27
variable {σ : zS} {K : zK} {T : Int}
theorem r_lookSets (d : Nat) (hp : K.1 ≤ 8) {t v : Nat} (ht : 2 ≤ t ∧ t ≤ 20) (hv : v ≤ 80) {a : Int} (ha : a = 0 ∨ a = 1) {A c g0 : Nat} (hA : mal (my K) (K.1 - 1) = A) (hc : mct (my K) K.1 = c) (hg0 : nsum (mlg K t v) (A + 1) = g0) (hg : g0 < 2 ^ 48) : ∀ (m S : Nat) (τ : zS), S + m = A + 1 → zSysK K T τ → ∃ τ', zq (d + 20) mX3_looksRound 117 [some (zR (some 36)), some (zI t), some (zI v), some (zI a), some (zI (A : Int)), some (zJ ((nsum (mlg K t v) S : Nat) : Int)), none, some (zJ ((t ^ c : Nat) : Int)), none, some (zI S), none, none, none] [] τ = some (some (zJ (mpart g0 (t ^ c) a)), τ') ∧ zScr zSc τ τ' := by
  have hA2 : A < 2 ^ (K.1 - 1) := hA ▸ mal_lt (my K) (K.1 - 1)
  have hA3 : A < 256 := Nat.lt_of_lt_of_le hA2 (show (2 : Nat) ^ (K.1 - 1) ≤ 2 ^ 8 from Nat.pow_le_pow_right (by decide) (by omega))
  have hA4 : A < 2 ^ K.1 := Nat.lt_of_lt_of_le hA2 (Nat.pow_le_pow_right (by decide) (by omega))
  have hc8 : c ≤ 8 := by have := mct_le8 (my_01 K) K.1; omega
  have hpc : mpop (A : Int) = (c : Int) := by rw [← hA, ← hc]; exact mA_pop K hp
  have hpw := mpow8 (t := t) (c := c) (by omega) ht.2 hc8
  have ha2 : nrm a = a := nrm_id (by omega) (by omega)
  intro m
  induction m with
  | zero =>
    intro S τ hS hτ
    have hS' : S = A + 1 := by omega
    subst hS'
    have rp := r_partOf (σ := τ) (d + 18) (a := g0) (b := t ^ c) (by omega) (by omega) ha
    refine ⟨τ, ?_, zScr_rf _ _⟩
    rw [b_X3_looksRound_117, hg0]
    simp (disch := omega) only [nrm_id, zix, ↓reduceIte, if_true, if_false, true_and, and_true, false_and, and_false, not_true_eq_false, not_false_eq_true, Int.reduceAdd, Int.reduceSub, Int.reduceMul, ↓if_pos, ↓if_neg, Option.bind_some, Option.toList_some, Option.toList_none, List.append_nil, List.cons_append, List.nil_append, znat, znat1, zpm1, zcm1, zof0, zof1, zof2, zof3, zofa0, zofa1, rp, b_X3_looksRound_229]
  | succ m ih =>
    intro S τ hS hτ
    have hS2 : S < 2 ^ K.1 := by omega
    have hz : nrm (zand (S : Int) (zxor (A : Int) (-1))) = zand (S : Int) (zxor (A : Int) (-1)) := nrm_id (Int32.le_toInt _) (Int32.toInt_lt _)
    by_cases sub : zand (S : Int) (zxor (A : Int) (-1)) = 0
    · have hsub : ∀ j, j < K.1 → S.testBit j = true → my K j = 1 := fun j _ hj => by
        have h1 := (mzand_sub (by omega) hA3).mp sub j hj
        rw [← hA, mal_bit] at h1
        exact (of_decide_eq_true h1).2
      obtain ⟨τ1, a1, a2, a3⟩ := r_copies (d + 19) zAr37 zAr38 τ
      obtain ⟨τ2, b1, b2, -, b3⟩ := r_round (d + 17) zAr38 (AbsM_copy hτ.2.1 a2) hτ.2.2.1 (B := (S : Int)) (by omega)
      have hsc : zScr zSc τ τ2 := zScr_tr (zScr_of a3 (by simp [zSc]) (by simp)) (zScr_of b3 (by simp [zSc]) (by simp))
      have tp := zM_tips (d + 18) b2 (mlk_ok hτ.2.2.1 (S : Int))
      rw [mlk_sum hτ.2.2.1] at tp
      have tr : mst (mTn K) S K.1 ≤ 80 := by
        have h1 := mtS_rng (mlk_ok hτ.2.2.1 (S : Int))
        rw [mlk_sum hτ.2.2.1] at h1
        omega
      have bs := r_bits (σ := τ2) (d + 19) (S := (S : Int)) (by omega) (by omega)
      have hcS : mpop (S : Int) = ((mct (mtb S) K.1 : Nat) : Int) := by
        rw [mpop_ct S (by omega)]
        have e : (8 : Nat) = K.1 + (8 - K.1) := by omega
        rw [e, mct_ge S hS2]
      rw [hcS] at bs
      have hle : mct (mtb S) K.1 ≤ c := by rw [← hc]; exact mct_le hsub
      have wt := r_lookWeight (σ := τ2) (d + 18) (b := mct (mtb S) K.1) (S := S) hA3 hpc hc8 ht (v : Int) a ((nsum (mlg K t v) S : Nat) : Int) ((t ^ c : Nat) : Int) tp (c - mct (mtb S) K.1) (mct (mtb S) K.1) (by omega) (Nat.le_refl _)
      rw [Nat.sub_self, Nat.pow_zero] at wt
      have wt' : zq (d + 20) mX3_looksRound 168 [some (zR (some 36)), some (zI t), some (zI v), some (zI a), some (zI (A : Int)), some (zJ ((nsum (mlg K t v) S : Nat) : Int)), none, some (zJ ((t ^ c : Nat) : Int)), none, some (zI (S : Int)), some (zJ 1), none, some (zI ((mct (mtb S) K.1 : Nat) : Int))] [] τ2 = _ := wt
      have ew := mwt_sub (S := S) (t := t) (my_01 K) (i := K.1) hsub
      rw [hc] at ew
      obtain ⟨τ3, k1, k2⟩ := ih (S + 1) τ2 (by omega) (zSys_scr hτ hsc)
      refine ⟨τ3, ?_, zScr_tr hsc k2⟩
      rw [nsum_s, Int.natCast_add] at k1
      rw [b_X3_looksRound_117, hz]
      simp (disch := omega) only [nrm_id, zix, ↓reduceIte, if_true, if_false, true_and, and_true, false_and, and_false, not_true_eq_false, not_false_eq_true, Int.reduceAdd, Int.reduceSub, Int.reduceMul, ↓if_pos, ↓if_neg, Option.bind_some, Option.toList_some, Option.toList_none, List.append_nil, List.cons_append, List.nil_append, znat, znat1, zpm1, zcm1, zof0, zof1, zof2, zof3, zofa0, zofa1, sub, a1, b_X3_looksRound_148, b1, b_X3_looksRound_158, bs, b_X3_looksRound_166]
      refine Eq.trans wt' ?_
      rw [b_X3_looksRound_202]
      by_cases q : mst (mTn K) S K.1 < v + 1
      · have eg : mlg K t v S = (t - 1) ^ (c - mct (mtb S) K.1) := by unfold mlg; rw [if_pos q, ew]
        rw [eg] at k1
        simp (disch := omega) only [nrm_id, zix, ↓reduceIte, if_true, if_false, true_and, and_true, false_and, and_false, not_true_eq_false, not_false_eq_true, Int.reduceAdd, Int.reduceSub, Int.reduceMul, ↓if_pos, ↓if_neg, Option.bind_some, Option.toList_some, Option.toList_none, List.append_nil, List.cons_append, List.nil_append, znat, znat1, zpm1, zcm1, zof0, zof1, zof2, zof3, zofa0, zofa1, b_X3_looksRound_212, b_X3_looksRound_215]
        exact k1
      · have eg : mlg K t v S = 0 := by unfold mlg; rw [if_neg q]
        rw [eg] at k1
        simp (disch := omega) only [nrm_id, zix, ↓reduceIte, if_true, if_false, true_and, and_true, false_and, and_false, not_true_eq_false, not_false_eq_true, Int.reduceAdd, Int.reduceSub, Int.reduceMul, ↓if_pos, ↓if_neg, Option.bind_some, Option.toList_some, Option.toList_none, List.append_nil, List.cons_append, List.nil_append, znat, znat1, zpm1, zcm1, zof0, zof1, zof2, zof3, zofa0, zofa1, b_X3_looksRound_212, b_X3_looksRound_215]
        exact k1
    · have eg : mlg K t v S = 0 := by
        have hn : ¬ ∀ j, S.testBit j = true → A.testBit j = true := fun z => sub ((mzand_sub (by omega) hA3).mpr z)
        obtain ⟨j, hj⟩ := Classical.not_forall.mp hn
        obtain ⟨j1, j2⟩ := Classical.not_imp.mp hj
        have hjp : j < K.1 := by
          by_cases q : j < K.1
          · exact q
          · rw [Nat.testBit_lt_two_pow (Nat.lt_of_lt_of_le hS2 (Nat.pow_le_pow_right (by decide) (by omega)))] at j1
            exact absurd j1 Bool.false_ne_true
        have hyj : my K j ≠ 1 := fun e => by
          rw [← hA, ← (my_last K rfl).1, mal_bit] at j2
          exact j2 (decide_eq_true ⟨hjp, e⟩)
        unfold mlg
        rw [mwt_no j1 hyj hjp]
        split <;> rfl
      obtain ⟨τ3, k1, k2⟩ := ih (S + 1) τ (by omega) hτ
      refine ⟨τ3, ?_, k2⟩
      rw [nsum_s, eg, Nat.add_zero] at k1
      rw [b_X3_looksRound_117, hz]
      simp (disch := omega) only [nrm_id, zix, ↓reduceIte, if_true, if_false, true_and, and_true, false_and, and_false, not_true_eq_false, not_false_eq_true, Int.reduceAdd, Int.reduceSub, Int.reduceMul, ↓if_pos, ↓if_neg, Option.bind_some, Option.toList_some, Option.toList_none, List.append_nil, List.cons_append, List.nil_append, znat, znat1, zpm1, zcm1, zof0, zof1, zof2, zof3, zofa0, zofa1, sub, b_X3_looksRound_215]
      exact k1
theorem p_looksRound (h : zSysK K T σ) {x y w : Int} (hx : R32 x) (hy : R32 y) (hw : R32 w) : zP mX2_looksRound mX3_looksRound [zI x, zI y, zI w] σ := by
  have h0 := h
  obtain ⟨hC, hM, hO, hT1, hT2, hT, -, -⟩ := h
  have hp := hO.1
  obtain ⟨x1, x2⟩ := hx
  obtain ⟨y1, y2⟩ := hy
  obtain ⟨w1, w2⟩ := hw
  by_cases q : (2 ≤ x ∧ x ≤ 20) ∧ (0 ≤ y ∧ y ≤ 80) ∧ (0 ≤ w ∧ w ≤ 1)
  · obtain ⟨t, rfl⟩ := Int.eq_ofNat_of_zero_le (show 0 ≤ x by omega)
    obtain ⟨v, rfl⟩ := Int.eq_ofNat_of_zero_le q.2.1.1
    have hw01 : w = 0 ∨ w = 1 := by omega
    have ht : 2 ≤ t ∧ t ≤ 20 := by omega
    have hv : v ≤ 80 := by omega
    have hu20 : ∀ i, i < 8 → mup1 (my K) i + mwp1 (my K) t i ≤ 20 := fun i _ => by
      unfold mup1 mwp1
      split <;> omega
    have hFle := mF_le (u := mup1 (my K)) (w := mwp1 (my K) t) (T := mTn K) hu20 K.1 hp (v + 1)
    have h20 : (20 : Nat) ^ K.1 ≤ 25600000000 := Nat.le_trans (Nat.pow_le_pow_right (by decide) hp) (by decide)
    have hc8 : mct (my K) K.1 ≤ 8 := by have := mct_le8 (my_01 K) K.1; omega
    have hpw := mpow8 (t := t) (c := mct (my K) K.1) (by omega) ht.2 hc8
    refine zP_read h0 (zJ (mpart (mF (mup1 (my K)) (mwp1 (my K) t) (mTn K) K.1 (v + 1)) (t ^ mct (my K) K.1) w)) (fun d => ?_) (fun d τ hτ => ?_)
    · obtain ⟨σ1, a1, a2, a3, a4⟩ := s_thinkN (d + 15) h0 (n := 1) (by decide)
      have a1' : zc (d + 19) mX2_thinkOn [zR (some 0), zI 1] σ = some (none, σ1) := a1
      have hA : AbsC σ1 6 (mround K) := a2
      obtain ⟨σ2, b1, b2, b3⟩ := s_fillJ (d + 19) σ1
      have hW0 : ∀ x, x < 81 → zup σ2 19 0 1 19 x = (mW (mup1 (my K)) (mwp1 (my K) t) (mTn K) 0 x : Int) := fun x hx => by
        show zup σ2 19 0 1 19 x = ((if x = 0 then 1 else 0 : Nat) : Int)
        by_cases e : x = 0
        · subst e; rw [zup_at]; rfl
        · rw [zup_ix e, b2 x hx, if_neg e]; rfl
      have hA2 : AbsC (zup σ2 19 0 1) 6 (mround K) := AbsC_fr hA (by rw [zup_ne (by decide), b3 _ (by simp)]) (by rw [zup_ne (by decide), b3 _ (by simp)]) (by rw [zup_ne (by decide), b3 _ (by simp)]) (by rw [zup_ne (by decide), b3 _ (by simp)])
      obtain ⟨σ3, c1, c2, c3⟩ := s_lookRows (d + 18) hO ht (v : Int) w K.1 0 _ (by omega) hA2 hW0
      have c1' : zq (d + 20) mX2_looksRound 60 [some (zR (some 0)), some (zI t), some (zI v), some (zI w), some (zJ 1), none, some (zI 0), none, none] [] (zup σ2 19 0 1) = _ := c1
      have hs := s_lookSums (σ := σ3) (d + 18) c2 hv (b := t ^ mct (my K) K.1) (by omega) hpw.2 (by rw [mWF]; omega) hw01 (v + 1) 0 (by omega)
      have hs' : zq (d + 20) mX2_looksRound 140 [some (zR (some 0)), none, some (zI v), some (zI w), some (zJ ((t ^ mct (my K) K.1 : Nat) : Int)), none, some (zJ 0), none, some (zI 0)] [] σ3 = _ := hs
      rw [mWF] at hs'
      refine ⟨σ3, ?_, zScr_tr a3 (zScr_of (ps := [19]) (zFr_tr b3 (zFr_tr (zFr_up (by simp)) c3)) (by simp [zSc]) (by simp))⟩
      rw [e_X2_looksRound]
      simp (disch := omega) only [nrm_id, zix, ↓reduceIte, if_true, if_false, true_and, and_true, false_and, and_false, not_true_eq_false, not_false_eq_true, Int.reduceAdd, Int.reduceSub, Int.reduceMul, ↓if_pos, ↓if_neg, Option.bind_some, Option.toList_some, Option.toList_none, List.append_nil, List.cons_append, List.nil_append, znat, znat1, zpm1, zcm1, zof0, zof1, zof2, zof3, zofa0, zofa1, a1', b_X2_looksRound_39, b1, b_X2_looksRound_47, Int.toNat_zero]
      exact c1'.trans hs'
    · have al := r_lookAll (σ := τ) (d + 18) hτ.2.1 hO (t : Int) (v : Int) w (K.1 - 1) 0 (by omega)
      have al' : zq (d + 20) mX3_looksRound 39 [some (zR (some 36)), some (zI t), some (zI v), some (zI w), some (zI 0), some (zI 0), none, none, none, none, none, none, none] [] τ = _ := al
      have hA3 : mal (my K) (K.1 - 1) < 256 := Nat.lt_of_lt_of_le (mal_lt _ _) (show (2 : Nat) ^ (K.1 - 1) ≤ 2 ^ 8 from Nat.pow_le_pow_right (by decide) (by omega))
      have bl := r_lookBelow (σ := τ) (d + 18) hA3 (mA_pop K hp) hc8 ht (v : Int) w 0 (mct (my K) K.1) 0 (by omega)
      have bl' : zq (d + 20) mX3_looksRound 91 [some (zR (some 36)), some (zI t), some (zI v), some (zI w), some (zI ((mal (my K) (K.1 - 1) : Nat) : Int)), some (zJ 0), none, some (zJ 1), none, some (zI 0), none, none, none] [] τ = _ := bl
      obtain ⟨σ2, k1, k2⟩ := r_lookSets d hp ht hv hw01 rfl rfl (mlg_all hp t v) (by omega) (mal (my K) (K.1 - 1) + 1) 0 τ (by omega) hτ
      have k1' : zq (d + 20) mX3_looksRound 117 [some (zR (some 36)), some (zI t), some (zI v), some (zI w), some (zI ((mal (my K) (K.1 - 1) : Nat) : Int)), some (zJ 0), none, some (zJ ((t ^ mct (my K) K.1 : Nat) : Int)), none, some (zI 0), none, none, none] [] τ = _ := k1
      refine ⟨σ2, ?_, k2⟩
      rw [e_X3_looksRound]
      simp (disch := omega) only [nrm_id, zix, ↓reduceIte, if_true, if_false, true_and, and_true, false_and, and_false, not_true_eq_false, not_false_eq_true, Int.reduceAdd, Int.reduceSub, Int.reduceMul, ↓if_pos, ↓if_neg, Option.bind_some, Option.toList_some, Option.toList_none, List.append_nil, List.cons_append, List.nil_append, znat, znat1, zpm1, zcm1, zof0, zof1, zof2, zof3, zofa0, zofa1, r_isIn, b_X3_looksRound_7, b_X3_looksRound_17, b_X3_looksRound_26]
      exact al'.trans (bl'.trans k1')
  · refine zP_same h0 (zJ 1000000001) (fun d => ?_) (fun d => ?_)
    · rw [e_X2_looksRound]
      by_cases q1 : x < 2
      · simp (disch := omega) only [nrm_id, zix, ↓reduceIte, if_true, if_false, true_and, and_true, false_and, and_false, not_true_eq_false, not_false_eq_true, Int.reduceAdd, Int.reduceSub, Int.reduceMul, ↓if_pos, ↓if_neg, Option.bind_some, Option.toList_some, Option.toList_none, List.append_nil, List.cons_append, List.nil_append, znat, znat1, zpm1, zcm1, zof0, zof1, zof2, zof3, zofa0, zofa1]
      · by_cases q2 : 20 < x
        · simp (disch := omega) only [nrm_id, zix, ↓reduceIte, if_true, if_false, true_and, and_true, false_and, and_false, not_true_eq_false, not_false_eq_true, Int.reduceAdd, Int.reduceSub, Int.reduceMul, ↓if_pos, ↓if_neg, Option.bind_some, Option.toList_some, Option.toList_none, List.append_nil, List.cons_append, List.nil_append, znat, znat1, zpm1, zcm1, zof0, zof1, zof2, zof3, zofa0, zofa1]
        · by_cases q3 : y < 0
          · simp (disch := omega) only [nrm_id, zix, ↓reduceIte, if_true, if_false, true_and, and_true, false_and, and_false, not_true_eq_false, not_false_eq_true, Int.reduceAdd, Int.reduceSub, Int.reduceMul, ↓if_pos, ↓if_neg, Option.bind_some, Option.toList_some, Option.toList_none, List.append_nil, List.cons_append, List.nil_append, znat, znat1, zpm1, zcm1, zof0, zof1, zof2, zof3, zofa0, zofa1]
          · by_cases q4 : 80 < y
            · simp (disch := omega) only [nrm_id, zix, ↓reduceIte, if_true, if_false, true_and, and_true, false_and, and_false, not_true_eq_false, not_false_eq_true, Int.reduceAdd, Int.reduceSub, Int.reduceMul, ↓if_pos, ↓if_neg, Option.bind_some, Option.toList_some, Option.toList_none, List.append_nil, List.cons_append, List.nil_append, znat, znat1, zpm1, zcm1, zof0, zof1, zof2, zof3, zofa0, zofa1]
            · by_cases q5 : w < 0 <;> simp (disch := omega) only [nrm_id, zix, ↓reduceIte, if_true, if_false, true_and, and_true, false_and, and_false, not_true_eq_false, not_false_eq_true, Int.reduceAdd, Int.reduceSub, Int.reduceMul, ↓if_pos, ↓if_neg, Option.bind_some, Option.toList_some, Option.toList_none, List.append_nil, List.cons_append, List.nil_append, znat, znat1, zpm1, zcm1, zof0, zof1, zof2, zof3, zofa0, zofa1]
    · rw [e_X3_looksRound, r_isIn _ _ ⟨x1, x2⟩ (by omega) (by omega)]
      by_cases q1 : 2 ≤ x ∧ x ≤ 20
      · by_cases q2 : 0 ≤ y ∧ y ≤ 80
        · simp (disch := omega) only [nrm_id, zix, ↓reduceIte, if_true, if_false, true_and, and_true, false_and, and_false, not_true_eq_false, not_false_eq_true, Int.reduceAdd, Int.reduceSub, Int.reduceMul, ↓if_pos, ↓if_neg, Option.bind_some, Option.toList_some, Option.toList_none, List.append_nil, List.cons_append, List.nil_append, znat, znat1, zpm1, zcm1, zof0, zof1, zof2, zof3, zofa0, zofa1, b_X3_looksRound_7, r_isIn, b_X3_looksRound_17, b_X3_looksRound_26]
        · simp (disch := omega) only [nrm_id, zix, ↓reduceIte, if_true, if_false, true_and, and_true, false_and, and_false, not_true_eq_false, not_false_eq_true, Int.reduceAdd, Int.reduceSub, Int.reduceMul, ↓if_pos, ↓if_neg, Option.bind_some, Option.toList_some, Option.toList_none, List.append_nil, List.cons_append, List.nil_append, znat, znat1, zpm1, zcm1, zof0, zof1, zof2, zof3, zofa0, zofa1, b_X3_looksRound_7, r_isIn, b_X3_looksRound_17]
      · simp (disch := omega) only [nrm_id, zix, ↓reduceIte, if_true, if_false, true_and, and_true, false_and, and_false, not_true_eq_false, not_false_eq_true, Int.reduceAdd, Int.reduceSub, Int.reduceMul, ↓if_pos, ↓if_neg, Option.bind_some, Option.toList_some, Option.toList_none, List.append_nil, List.cons_append, List.nil_append, znat, znat1, zpm1, zcm1, zof0, zof1, zof2, zof3, zofa0, zofa1, b_X3_looksRound_7]
end SYS27
