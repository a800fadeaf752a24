theorem mRd_scr {τ τ' : zS} (h : mRd τ τ') : zScr [42] τ τ' := ⟨fun q h1 h2 => h.1 q (by simpa using h1) h2, h.2 5 (by decide)⟩
section SYS36
variable {σ : zS} {K : zK} {T : Int}
theorem r_pass1 (d : Nat) {i n : Nat} {w : Nat → Int} (hi : i < 8) (hn : n ≤ 100) (hb : ∀ j, j < 100 → -128 ≤ w j ∧ w j ≤ 127) : ∀ (f a x : Nat) (τ : zS), n < a + f → a < n → x + f ≤ 300 → mTx τ i n w a → ∃ (τ' : zS) (x4 : Int) (x3 : Nat) (p : Nat), zq (d + 3) mX3_coach 41 [some (zR (some 36)), none, none, some (zI x), some (zI 0), none, none, none] [] τ = zq (d + 3) mX3_coach 77 [some (zR (some 36)), none, none, some (zI x3), some (zI x4), none, none, none] [] τ' ∧ mRd τ τ' ∧ mTx τ' i n w p ∧ ((mtx (mby w n) n f a).2 = -1 → x4 = 0 ∧ x3 = x + (mtx (mby w n) n f a).1) ∧ ((mtx (mby w n) n f a).2 ≠ -1 → x4 = -1000 - (mtx (mby w n) n f a).2) := by
  intro f
  induction f with
  | zero => intro a x τ h1 h2; omega
  | succ f ih =>
    intro a x τ h1 h2 hx hT
    obtain ⟨τ1, ok, k1, k2, k3⟩ := r_reads d hT hi hn hb (by omega)
    rcases k3 with ⟨z1, z2, z3, -⟩ | ⟨z1, z2, z3⟩
    · rw [z1] at k1
      have hen := mwf_men z2
      have hm := mtx_y (f := f) h2 z2
      have h6 := z3.2.2.1
      have h8 := z3.2.1
      by_cases q : men (mby w n) a + 1 < n
      · obtain ⟨τ', x4, x3, p, l1, l2, l3, l4, l5⟩ := ih (men (mby w n) a + 1) (x + 1) τ1 (by unfold men at *; omega) q (by omega) z3
        refine ⟨τ', x4, x3, p, ?_, mRd_tr k2 l2, l3, fun e => ?_, fun e => ?_⟩
        · rw [b_X3_coach_41]
          simp (disch := omega) only [nrm_id, zix, ↓reduceIte, if_true, if_false, true_and, and_true, false_and, and_false, not_true_eq_false, not_false_eq_true, Int.reduceAdd, Int.reduceSub, Int.reduceMul, ↓if_pos, ↓if_neg, Option.bind_some, Option.toList_some, Option.toList_none, List.append_nil, List.cons_append, List.nil_append, znat, znat1, zpm1, zcm1, zof0, zof1, zof2, zof3, zofa0, zofa1, k1, b_X3_coach_45, b_X3_coach_58, h6, h8]
          exact l1
        · rw [hm] at e ⊢
          have := l4 e
          exact ⟨this.1, by show x3 = x + ((mtx (mby w n) n f (men (mby w n) a + 1)).1 + 1); omega⟩
        · rw [hm] at e ⊢
          exact l5 e
      · have he := mtx_e (b := mby w n) (f := f) (show n ≤ men (mby w n) a + 1 by omega)
        refine ⟨τ1, 0, x + 1, _, ?_, k2, z3, fun e => ?_, fun e => ?_⟩
        · rw [b_X3_coach_41]
          simp (disch := omega) only [nrm_id, zix, ↓reduceIte, if_true, if_false, true_and, and_true, false_and, and_false, not_true_eq_false, not_false_eq_true, Int.reduceAdd, Int.reduceSub, Int.reduceMul, ↓if_pos, ↓if_neg, Option.bind_some, Option.toList_some, Option.toList_none, List.append_nil, List.cons_append, List.nil_append, znat, znat1, zpm1, zcm1, zof0, zof1, zof2, zof3, zofa0, zofa1, k1, b_X3_coach_45, b_X3_coach_58, h6, h8]
          rfl
        · rw [hm, he]
          exact ⟨rfl, rfl⟩
        · rw [hm, he] at e
          exact absurd rfl e
    · rw [z1] at k1
      have hm := mtx_n (f := f) h2 z2
      have h6 := z3.2.2.1
      have hp := mep_rng (mby w n) a
      have hnr := mnd_rng (mby w n a)
      have hl : men (mby w n) a ≤ a + 4 := by unfold men; omega
      have hfp : mfp (mby w n) a ≤ a + 4 := by unfold mfp; split <;> omega
      refine ⟨τ1, -1000 - (mfp (mby w n) a : Int), x + 1, _, ?_, k2, z3, fun e => ?_, fun e => ?_⟩
      · rw [b_X3_coach_41]
        simp (disch := omega) only [nrm_id, zix, ↓reduceIte, if_true, if_false, true_and, and_true, false_and, and_false, not_true_eq_false, not_false_eq_true, Int.reduceAdd, Int.reduceSub, Int.reduceMul, ↓if_pos, ↓if_neg, Option.bind_some, Option.toList_some, Option.toList_none, List.append_nil, List.cons_append, List.nil_append, znat, znat1, zpm1, zcm1, zof0, zof1, zof2, zof3, zofa0, zofa1, k1, b_X3_coach_45, b_X3_coach_58, h6]
        rfl
      · rw [hm] at e
        have e2 : ((mfp (mby w n) a : Nat) : Int) = -1 := e
        omega
      · rw [hm]
theorem r_pass2 (d : Nat) {i n : Nat} {w : Nat → Int} (hi : i < 8) (hn : n ≤ 100) (hb : ∀ j, j < 100 → -128 ≤ w j ∧ w j ≤ 127) (s0 : Nat → Int) (x : Nat) (hx : x ≤ 300) : ∀ (f a : Nat) (K : zK) (T : Int) (τ : zS), n < a + f → a ≤ 100 → (mtx (mby w n) n f a).2 = -1 → mTx τ i n w a → AbsM τ 37 K → mOk K → τ 37 2 = T → (0 ≤ T ∧ T ≤ 999) → (∀ j, j < 35 → τ 40 j = s0 j) → ∃ τ', zScr [37, 41, 42] τ τ' ∧ (∀ K' T' v, mrn (mby w n) n f a K T = (some (K', T'), v) → zq (d + 6) mX3_coach 93 [some (zR (some 36)), none, none, some (zI x), some (zI 0), none, none, none] [] τ = some (some (zI x), τ') ∧ AbsM τ' 37 K' ∧ τ' 37 2 = T') ∧ (∀ v, mrn (mby w n) n f a K T = (none, v) → zq (d + 6) mX3_coach 93 [some (zR (some 36)), none, none, some (zI x), some (zI 0), none, none, none] [] τ = some (some (zI v), τ') ∧ ∀ j, j < 35 → τ' 37 j = s0 j) := by
  intro f
  induction f with
  | zero =>
    intro a K T τ h1 h2 hm hT hA hO hTt hTr h40
    have h6 := hT.2.2.1
    have h8 := hT.2.1
    have he := mrn_e0 (b := mby w n) (f := 0) (K := K) (T := T) (show n ≤ a by omega)
    refine ⟨τ, zScr_rf _ _, fun K' T' v e => ?_, fun v e => ?_⟩
    · rw [he] at e
      obtain ⟨rfl, rfl⟩ := Prod.mk.inj (Option.some.inj (Prod.mk.inj e).1)
      refine ⟨?_, hA, hTt⟩
      rw [b_X3_coach_93]
      simp (disch := omega) only [nrm_id, zix, ↓reduceIte, if_true, if_false, true_and, and_true, false_and, and_false, not_true_eq_false, not_false_eq_true, Int.reduceAdd, Int.reduceSub, Int.reduceMul, ↓if_pos, ↓if_neg, Option.bind_some, Option.toList_some, Option.toList_none, List.append_nil, List.cons_append, List.nil_append, znat, znat1, zpm1, zcm1, zof0, zof1, zof2, zof3, zofa0, zofa1, h6, h8, b_X3_coach_161]
    · rw [he] at e
      exact absurd (Prod.mk.inj e).1 (by simp)
  | succ f ih =>
    intro a K T τ h1 h2 hm hT hA hO hTt hTr h40
    have h6 := hT.2.2.1
    have h8 := hT.2.1
    by_cases h0 : n ≤ a
    · have he := mrn_e0 (b := mby w n) (f := f + 1) (K := K) (T := T) h0
      refine ⟨τ, zScr_rf _ _, fun K' T' v e => ?_, fun v e => ?_⟩
      · rw [he] at e
        obtain ⟨rfl, rfl⟩ := Prod.mk.inj (Option.some.inj (Prod.mk.inj e).1)
        refine ⟨?_, hA, hTt⟩
        rw [b_X3_coach_93]
        simp (disch := omega) only [nrm_id, zix, ↓reduceIte, if_true, if_false, true_and, and_true, false_and, and_false, not_true_eq_false, not_false_eq_true, Int.reduceAdd, Int.reduceSub, Int.reduceMul, ↓if_pos, ↓if_neg, Option.bind_some, Option.toList_some, Option.toList_none, List.append_nil, List.cons_append, List.nil_append, znat, znat1, zpm1, zcm1, zof0, zof1, zof2, zof3, zofa0, zofa1, h6, h8, b_X3_coach_161]
      · rw [he] at e
        exact absurd (Prod.mk.inj e).1 (by simp)
    · obtain ⟨hf, hm2, -⟩ := mtx_ok (by omega) hm
      have hen := mwf_men hf
      obtain ⟨h, e1, e2, e3⟩ := r_here (d + 5) hT hi hn hb (by omega)
      have eh : h = mby w n a := by
        rcases e3 with e3 | e3
        · exact e3.1
        · have := mnd_case hf.1
          omega
      rw [eh] at e1
      obtain ⟨τ1, ok, k1, k2, k3⟩ := r_reads (d + 3) hT hi hn hb (by omega)
      rcases k3 with ⟨z1, -, z3, z4⟩ | ⟨-, z2, -⟩
      · rw [z1] at k1
        clear e3
        have hA1 : AbsM τ1 37 K := AbsM_fr hA (k2.1 37 (by decide) (by decide))
        rcases r_isDone d hA1 hO (by rw [k2.1 37 (by decide) (by decide)]; exact hTt) hTr hf z4 with ⟨K1, T1, τ2, ex, g1, g2, g3, g4⟩ | ⟨ex, τ2, g1, g4⟩
        · obtain ⟨hO1, hT1r⟩ := mexe_ok hO hTr (mwf_9 hf) ex
          have hT2 : mTx τ2 i n w (men (mby w n) a + 1) := by
            unfold mTx at z3 ⊢
            rw [g4 36 (by simp), g4 50 (by simp)]
            exact z3
          have h40' : ∀ j, j < 35 → τ2 40 j = s0 j := fun j hj => by rw [g4 40 (by simp), k2.1 40 (by decide) (by decide)]; exact h40 j hj
          have hsc : zScr [37, 41, 42] τ τ2 := zScr_tr (zScr_mono (mRd_scr k2) (by simp)) (zScr_of g4 (by simp) (by simp))
          obtain ⟨τ', l1, l2, l3⟩ := ih (men (mby w n) a + 1) K1 T1 τ2 (by unfold men at *; omega) (by omega) hm2 hT2 g2 hO1 g3 hT1r h40'
          have hst : zq (d + 6) mX3_coach 93 [some (zR (some 36)), none, none, some (zI x), some (zI 0), none, none, none] [] τ = zq (d + 6) mX3_coach 93 [some (zR (some 36)), none, none, some (zI x), some (zI 0), none, none, none] [] τ2 := by
            rw [b_X3_coach_93]
            simp (disch := omega) only [nrm_id, zix, ↓reduceIte, if_true, if_false, true_and, and_true, false_and, and_false, not_true_eq_false, not_false_eq_true, Int.reduceAdd, Int.reduceSub, Int.reduceMul, ↓if_pos, ↓if_neg, Option.bind_some, Option.toList_some, Option.toList_none, List.append_nil, List.cons_append, List.nil_append, znat, znat1, zpm1, zcm1, zof0, zof1, zof2, zof3, zofa0, zofa1, h6, h8, e1, b_X3_coach_119, k1, b_X3_coach_125, g1, b_X3_coach_133]
          rw [mrn_y (by omega) ex]
          refine ⟨τ', zScr_tr hsc l1, fun K' T' v e => ?_, fun v e => ?_⟩
          · obtain ⟨y1, y2⟩ := l2 K' T' v e
            exact ⟨hst.trans y1, y2⟩
          · obtain ⟨y1, y2⟩ := l3 v e
            exact ⟨hst.trans y1, y2⟩
        · obtain ⟨τ3, c1, c2, c3⟩ := r_copies (d + 5) (a := 40) (b := 37) (Or.inr (Or.inr (Or.inr rfl))) zAr37 τ2
          have hsc : zScr [37, 41, 42] τ τ3 := zScr_tr (zScr_mono (mRd_scr k2) (by simp)) (zScr_tr (zScr_of g4 (by simp) (by simp)) (zScr_of c3 (by simp) (by simp)))
          rw [mrn_n (by omega) ex]
          refine ⟨τ3, hsc, fun K' T' v e => ?_, fun v e => ?_⟩
          · exact absurd (Prod.mk.inj e).1 (by simp)
          · obtain rfl := (Prod.mk.inj e).2
            refine ⟨?_, fun j hj => by rw [c2 j hj, g4 40 (by simp), k2.1 40 (by decide) (by decide)]; exact h40 j hj⟩
            rw [b_X3_coach_93]
            simp (disch := omega) only [nrm_id, zix, ↓reduceIte, if_true, if_false, true_and, and_true, false_and, and_false, not_true_eq_false, not_false_eq_true, Int.reduceAdd, Int.reduceSub, Int.reduceMul, ↓if_pos, ↓if_neg, Option.bind_some, Option.toList_some, Option.toList_none, List.append_nil, List.cons_append, List.nil_append, znat, znat1, zpm1, zcm1, zof0, zof1, zof2, zof3, zofa0, zofa1, h6, h8, e1, b_X3_coach_119, k1, b_X3_coach_125, g1, b_X3_coach_133, c1, b_X3_coach_158]
            rw [b_X3_coach_93]
            simp (disch := omega) only [nrm_id, zix, ↓reduceIte, if_true, if_false, true_and, and_true, false_and, and_false, not_true_eq_false, not_false_eq_true, Int.reduceAdd, Int.reduceSub, Int.reduceMul, ↓if_pos, ↓if_neg, Option.bind_some, Option.toList_some, Option.toList_none, List.append_nil, List.cons_append, List.nil_append, znat, znat1, zpm1, zcm1, zof0, zof1, zof2, zof3, zofa0, zofa1, b_X3_coach_161]
      · exact absurd hf z2
theorem r_coach (d : Nat) (hA : AbsM σ 37 K) (hO : mOk K) (hT : σ 37 2 = T) (hTr : 0 ≤ T ∧ T ≤ 999) {i : Nat} (hi : i < 8) {w : Nat → Int} {n : Nat} (h45 : σ 45 i = 2) (h48 : σ 48 i = 0) (h49 : σ 49 i = n) (hn : n ≤ 100) (hw : ∀ j, j < 100 → σ 50 (100 * i + j) = w j) (hb : ∀ j, j < 100 → -128 ≤ w j ∧ w j ≤ 127) : ∃ σ', zc (d + 8) mX3_coach [zR (some 36), zI i] σ = some (some (zI (mco (mby w n) n K T).1), σ') ∧ zScr [37, 40, 41, 42] σ σ' ∧ ((mco (mby w n) n K T).2 = none → ∀ j, j < 35 → σ' 37 j = σ 37 j) ∧ (∀ s, (mco (mby w n) n K T).2 = some s → AbsM σ' 37 s.1 ∧ σ' 37 2 = s.2) := by
  have hwr := r_wrongRow (σ := σ) (d + 5) hi (o := 0) (by rw [h45]; exact Or.inr (Or.inr rfl)) (Or.inr rfl) (fun _ => by rw [h48]; decide)
  rw [h45, h48, if_neg (by decide), if_pos ⟨rfl, fun _ => rfl⟩] at hwr
  obtain ⟨σ0, h0⟩ : ∃ σ0, σ0 = zup (zup (zup σ 36 7 (100 * (i : Int))) 36 8 (n : Int)) 36 6 0 := ⟨_, rfl⟩
  have hT0 : mTx σ0 i n w 0 := by
    rw [h0]
    exact ⟨by rw [zup_ix (by decide), zup_ix (by decide), zup_at], by rw [zup_ix (by decide), zup_at], by rw [zup_at]; rfl, fun j hj => by rw [zup_ne (by decide), zup_ne (by decide), zup_ne (by decide)]; exact hw j hj⟩
  have hs0 : zScr [37, 40, 41, 42] σ σ0 := by
    rw [h0]
    exact ⟨fun q _ h36 => by rw [zup_ne h36, zup_ne h36, zup_ne h36], by rw [zup_ix (by decide), zup_ix (by decide), zup_ix (by decide)]⟩
  have hst : zc (d + 8) mX3_coach [zR (some 36), zI i] σ = zq (d + 8) mX3_coach 41 [some (zR (some 36)), none, none, some (zI 0), some (zI 0), none, none, none] [] σ0 := by
    rw [e_X3_coach, hwr]
    simp (disch := omega) only [nrm_id, zix, ↓reduceIte, if_true, if_false, true_and, and_true, false_and, and_false, not_true_eq_false, not_false_eq_true, Int.reduceAdd, Int.reduceSub, Int.reduceMul, ↓if_pos, ↓if_neg, Option.bind_some, Option.toList_some, Option.toList_none, List.append_nil, List.cons_append, List.nil_append, znat, znat1, zpm1, zcm1, zof0, zof1, zof2, zof3, zofa0, zofa1, b_X3_coach_6, zup_ne, h49]
    rw [h0]
  have tail : ∀ (τ : zS) (x : Nat) (x4 : Int) (p : Nat), mRd σ0 τ → mTx τ i n w p → ∃ τ', zq (d + 8) mX3_coach 77 [some (zR (some 36)), none, none, some (zI x), some (zI x4), none, none, none] [] τ = zq (d + 8) mX3_coach 93 [some (zR (some 36)), none, none, some (zI x), some (zI x4), none, none, none] [] τ' ∧ mTx τ' i n w 0 ∧ (∀ j, j < 35 → τ' 40 j = σ 37 j) ∧ τ' 37 = σ 37 ∧ zScr [37, 40, 41, 42] σ τ' := by
    intro τ x x4 p hR hTx
    obtain ⟨τ1, c1, c2, c3⟩ := r_copies (d + 7) (a := 37) (b := 40) zAr37 (Or.inr (Or.inr (Or.inr rfl))) τ
    have e37 : τ 37 = σ 37 := by rw [hR.1 37 (by decide) (by decide), h0, zup_ne (by decide), zup_ne (by decide), zup_ne (by decide)]
    have hTx1 : mTx τ1 i n w p := by
      unfold mTx at hTx ⊢
      rw [c3 36 (by simp), c3 50 (by simp)]
      exact hTx
    refine ⟨zup τ1 36 6 0, ?_, mTx_pl hTx1 rfl, fun j hj => by rw [zup_ne (by decide), c2 j hj, e37], by rw [zup_ne (by decide), c3 37 (by simp), e37], ?_⟩
    · rw [b_X3_coach_77]
      simp (disch := omega) only [nrm_id, zix, ↓reduceIte, if_true, if_false, true_and, and_true, false_and, and_false, not_true_eq_false, not_false_eq_true, Int.reduceAdd, Int.reduceSub, Int.reduceMul, ↓if_pos, ↓if_neg, Option.bind_some, Option.toList_some, Option.toList_none, List.append_nil, List.cons_append, List.nil_append, znat, znat1, zpm1, zcm1, zof0, zof1, zof2, zof3, zofa0, zofa1, c1, b_X3_coach_88]
    · exact zScr_tr hs0 (zScr_tr (zScr_mono (mRd_scr hR) (by simp)) (zScr_tr (zScr_of c3 (by simp) (by simp)) (zScr_mono (mRd_scr (mRd_pl τ1 0)) (by simp))))
  have fail : ∀ (τ : zS) (x : Nat) (x4 : Int), x4 ≠ 0 → -3000 ≤ x4 ∧ x4 ≤ 0 → zq (d + 8) mX3_coach 93 [some (zR (some 36)), none, none, some (zI x), some (zI x4), none, none, none] [] τ = some (some (zI x4), τ) := by
    intro τ x x4 hx hr
    rw [b_X3_coach_93]
    simp (disch := omega) only [nrm_id, zix, ↓reduceIte, if_true, if_false, true_and, and_true, false_and, and_false, not_true_eq_false, not_false_eq_true, Int.reduceAdd, Int.reduceSub, Int.reduceMul, ↓if_pos, ↓if_neg, Option.bind_some, Option.toList_some, Option.toList_none, List.append_nil, List.cons_append, List.nil_append, znat, znat1, zpm1, zcm1, zof0, zof1, zof2, zof3, zofa0, zofa1, b_X3_coach_161]
  by_cases n0 : n = 0
  · rw [mco_0 n0]
    obtain ⟨τ1, ok, k1, k2, k3⟩ := r_reads (d + 5) hT0 hi hn hb (by omega)
    have em : mby w n 0 = -1 := if_neg (by omega)
    have ed : mnd (mby w n 0) = -1 := by rw [em]; rfl
    rcases k3 with ⟨-, z2, -⟩ | ⟨z1, -, z3⟩
    · have := z2.1
      omega
    · rw [z1] at k1
      rw [show mfp (mby w n) 0 = 0 from if_pos (by omega)] at z3
      have h6 := z3.2.2.1
      obtain ⟨τ2, l1, -, l3, l4, l5⟩ := tail τ1 1 (-1000) 0 k2 z3
      refine ⟨τ2, ?_, l5, fun _ j hj => by rw [l4], fun s e => by cases e⟩
      rw [hst, b_X3_coach_41]
      simp (disch := omega) only [nrm_id, zix, ↓reduceIte, if_true, if_false, true_and, and_true, false_and, and_false, not_true_eq_false, not_false_eq_true, Int.reduceAdd, Int.reduceSub, Int.reduceMul, ↓if_pos, ↓if_neg, Option.bind_some, Option.toList_some, Option.toList_none, List.append_nil, List.cons_append, List.nil_append, znat, znat1, zpm1, zcm1, zof0, zof1, zof2, zof3, zofa0, zofa1, k1, b_X3_coach_45, b_X3_coach_58, h6]
      have l1' : zq (d + 8) mX3_coach 77 [some (zR (some 36)), none, none, some (zI 1), some (zI (-1000)), none, none, none] [] τ1 = _ := l1
      refine Eq.trans l1' ?_
      exact fail τ2 1 (-1000) (by decide) (by decide)
  · have hr := mtx_rng (mby w n) n 101 0
    obtain ⟨τ1, x4, x3, p, l1, l2, l3, l4, l5⟩ := r_pass1 (d + 5) hi hn hb 101 0 0 σ0 (by omega) (by omega) (by omega) hT0
    have l1' : zq (d + 8) mX3_coach 41 [some (zR (some 36)), none, none, some (zI 0), some (zI 0), none, none, none] [] σ0 = _ := l1
    by_cases m0 : (mtx (mby w n) n 101 0).2 = -1
    · obtain ⟨e4, e3⟩ := l4 m0
      rw [e4] at l1'
      obtain ⟨τ2, c1, c2, c3, c4, c5⟩ := tail τ1 x3 0 p l2 l3
      obtain ⟨τ3, g1, g2, g3⟩ := r_pass2 (d + 2) hi hn hb (fun j => σ 37 j) x3 (by omega) 101 0 K T τ2 (by omega) (by omega) m0 c2 (AbsM_fr hA c4) hO (by rw [c4]; exact hT) hTr c3
      have hsc : zScr [37, 40, 41, 42] σ τ3 := zScr_tr c5 (zScr_mono g1 (by simp))
      cases hr2 : mrn (mby w n) n 101 0 K T with
      | mk o v =>
        cases o with
        | none =>
          rw [mco_n n0 m0 hr2]
          obtain ⟨y1, y2⟩ := g3 v hr2
          refine ⟨τ3, ?_, hsc, fun _ => y2, fun s e => by cases e⟩
          exact hst.trans (l1'.trans (c1.trans y1))
        | some s =>
          rw [mco_y n0 m0 hr2]
          obtain ⟨y1, y2, y3⟩ := g2 s.1 s.2 v hr2
          refine ⟨τ3, ?_, hsc, fun e => (by cases e), fun s' e => ?_⟩
          · have ex3 : x3 = (mtx (mby w n) n 101 0).1 := by omega
            rw [ex3] at y1 c1 l1'
            exact hst.trans (l1'.trans (c1.trans y1))
          · obtain rfl := Option.some.inj e
            exact ⟨y2, y3⟩
    · have e4 := l5 m0
      rw [mco_f n0 m0]
      obtain ⟨τ2, c1, -, c3, c4, c5⟩ := tail τ1 x3 x4 p l2 l3
      refine ⟨τ2, ?_, c5, fun _ j _ => by rw [c4], fun s e => by cases e⟩
      rw [e4] at c1 l1'
      exact hst.trans (l1'.trans (c1.trans (fail τ2 x3 _ (by omega) (by omega))))
end SYS36
