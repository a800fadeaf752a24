section SYS30
variable {σ : zS} {K : zK} {T : Int}
def mRs (K : zK) (s : Int × Nat) (τ : zS) : Prop := τ 36 12 = s.1 ∧ (-1000000000 ≤ s.1 ∧ s.1 ≤ 400) ∧ (s.1 = -1000000000 ∨ ∀ j, j < K.1 → τ 44 j = (mdg s.2 j : Int))
theorem r_bestLine (d : Nat) : ∀ (m k : Nat) (τ : zS), k + m = 8 → (∀ j, j < k → τ 44 j = τ 43 j) → ∃ τ', zq d mX3_seats 134 [some (zR (some 36)), none, none, none, some (zI k)] [] τ = some (none, τ') ∧ (∀ j, j < 8 → τ' 44 j = τ 43 j) ∧ zFr [44] τ τ' := by
  intro m
  induction m with
  | zero =>
    intro k τ hk hl
    refine ⟨τ, ?_, fun j hj => hl j (by omega), zFr_rf _ _⟩
    rw [b_X3_seats_134]
    simp (disch := omega) only [nrm_id, zix, ↓reduceIte, if_true, if_false, true_and, and_true, false_and, and_false, not_true_eq_false, not_false_eq_true, Int.reduceAdd, Int.reduceSub, Int.reduceMul, ↓if_pos, ↓if_neg, Option.bind_some, Option.toList_some, Option.toList_none, List.append_nil, List.cons_append, List.nil_append, znat, znat1, zpm1, zcm1, zof0, zof1, zof2, zof3, zofa0, zofa1]
  | succ m ih =>
    intro k τ hk hl
    have e43 : ∀ j, zup τ 44 k (τ 43 k) 43 j = τ 43 j := fun j => by rw [zup_ne (by decide)]
    obtain ⟨τ', g1, g2, g3⟩ := ih (k + 1) (zup τ 44 k (τ 43 k)) (by omega) (fun j hj => by
      rw [e43]
      by_cases e : j = k
      · subst e; rw [zup_at]
      · rw [zup_ix e]; exact hl j (by omega))
    refine ⟨τ', ?_, fun j hj => by rw [g2 j hj, e43], zFr_tr (zFr_up (by simp)) g3⟩
    rw [b_X3_seats_134]
    simp (disch := omega) only [nrm_id, zix, ↓reduceIte, if_true, if_false, true_and, and_true, false_and, and_false, not_true_eq_false, not_false_eq_true, Int.reduceAdd, Int.reduceSub, Int.reduceMul, ↓if_pos, ↓if_neg, Option.bind_some, Option.toList_some, Option.toList_none, List.append_nil, List.cons_append, List.nil_append, znat, znat1, zpm1, zcm1, zof0, zof1, zof2, zof3, zofa0, zofa1]
    exact g1
theorem r_evalSeat (d : Nat) (h : zSysK K T σ) (hp6 : K.1 ≤ 6) {n : Nat} (hn : n < 1000) {pre : Nat} {s : Int × Nat} (hl : ∀ j, j < K.1 → σ 43 j = (mdg pre j : Int)) (hs : mRs K s σ) (r : Nat) : ∃ σ', zc (d + 5) mX3_seats [zR (some 36), zI r, zI 0, zI n] σ = some (none, σ') ∧ mRs K (if mJo K n pre ≤ s.1 then s else (mJo K n pre, pre)) σ' ∧ (∀ j, σ' 43 j = σ 43 j) ∧ zScr zSc σ σ' := by
  have h0 := h
  obtain ⟨hC, hM, hO, -⟩ := h
  have hp := hO.1
  have hJ := mJo_rng hO n pre
  obtain ⟨σ1, a1, a2, a3⟩ := r_copies (d + 4) zAr37 zAr38 σ
  have lp : ∀ (m k : Nat) (τ : zS), k + m = K.1 → zFr [38, 41] σ τ → AbsM τ 38 (K.1, K.2.1, fun j => if j < k then K.2.2.1 (mdg pre j) else K.2.2.1 j, fun j => if j < k then K.2.2.2.1 (mdg pre j) else K.2.2.2.1 j, K.2.2.2.2.1, K.2.2.2.2.2) → ∃ τ', zq (d + 5) mX3_seats 18 [some (zR (some 36)), none, none, some (zI n), some (zI k)] [] τ = some (none, τ') ∧ mRs K (if mJo K n pre ≤ s.1 then s else (mJo K n pre, pre)) τ' ∧ (∀ j, τ' 43 j = σ 43 j) ∧ zScr zSc σ τ' := by
    intro m
    induction m with
    | zero =>
      intro k τ hk hF hA
      have hk' : k = K.1 := by omega
      subst hk'
      have e37 : τ 37 0 = (K.1 : Int) := by rw [hF 37 (by simp)]; exact hM.1
      obtain ⟨τ1, b1, b2, -, b3⟩ := r_upright (d + 3) zAr38 hA
      have hA2 : AbsM τ1 38 (mprm K pre) := AbsM_eq b2 ⟨rfl, rfl, fun _ _ => rfl, fun _ _ => rfl, fun _ _ => rfl, fun _ _ => rfl⟩
      obtain ⟨τ2, c1, c2, -, c3⟩ := r_roundsOn (d + 1) zAr38 hA2 (mprm_ok hO pre) hn
      have hj : zc (d + 4) mX3_joyAll [zR (some 38)] τ2 = some (some (zI (mJo K n pre)), τ2) := zM_joy d c2 (mrounds_ok (mprm_ok hO pre) n)
      have hF2 : zFr [38, 41] σ τ2 := zFr_tr hF (zFr_tr (zFr_mono b3 (by simp)) c3)
      have e12 : τ2 36 12 = s.1 := by rw [hF2 36 (by simp)]; exact hs.1
      have hr1 := hs.2.1
      by_cases q : mJo K n pre ≤ s.1
      · refine ⟨τ2, ?_, ?_, fun j => by rw [hF2 43 (by simp)], zScr_of hF2 (by simp [zSc]) (by simp)⟩
        · rw [b_X3_seats_18, e37]
          simp (disch := omega) only [nrm_id, zix, ↓reduceIte, if_true, if_false, true_and, and_true, false_and, and_false, not_true_eq_false, not_false_eq_true, Int.reduceAdd, Int.reduceSub, Int.reduceMul, ↓if_pos, ↓if_neg, Option.bind_some, Option.toList_some, Option.toList_none, List.append_nil, List.cons_append, List.nil_append, znat, znat1, zpm1, zcm1, zof0, zof1, zof2, zof3, zofa0, zofa1, b1, b_X3_seats_96, c1, b_X3_seats_105, hj, b_X3_seats_112, e12]
        · rw [if_pos q]
          exact ⟨e12, hs.2.1, hs.2.2.imp id (fun z j hj => by rw [hF2 44 (by simp)]; exact z j hj)⟩
      · obtain ⟨τ3, g1, g2, g3⟩ := r_bestLine (d + 5) 8 0 (zup τ2 36 12 (mJo K n pre)) (by omega) (fun j hj => by omega)
        have g1' : zq (d + 5) mX3_seats 134 [some (zR (some 36)), none, none, none, some (zI 0)] [] (zup τ2 36 12 (mJo K n pre)) = some (none, τ3) := g1
        have e43 : ∀ j, τ3 43 j = σ 43 j := fun j => by rw [g3 43 (by simp), zup_ne (by decide), hF2 43 (by simp)]
        refine ⟨τ3, ?_, ?_, e43, zScr_tr (zScr_of hF2 (by simp [zSc]) (by simp)) (zScr_tr ⟨fun q _ h36 => zup_ne h36, zup_ix (by decide)⟩ (zScr_of g3 (by simp [zSc]) (by simp)))⟩
        · rw [b_X3_seats_18, e37]
          simp (disch := omega) only [nrm_id, zix, ↓reduceIte, if_true, if_false, true_and, and_true, false_and, and_false, not_true_eq_false, not_false_eq_true, Int.reduceAdd, Int.reduceSub, Int.reduceMul, ↓if_pos, ↓if_neg, Option.bind_some, Option.toList_some, Option.toList_none, List.append_nil, List.cons_append, List.nil_append, znat, znat1, zpm1, zcm1, zof0, zof1, zof2, zof3, zofa0, zofa1, b1, b_X3_seats_96, c1, b_X3_seats_105, hj, b_X3_seats_112, e12, b_X3_seats_128]
          exact g1'
        · rw [if_neg q]
          refine ⟨by rw [g3 36 (by simp), zup_at], by show -1000000000 ≤ mJo K n pre ∧ mJo K n pre ≤ 400; omega, Or.inr fun j hj => ?_⟩
          rw [g2 j (by omega), zup_ne (by decide), hF2 43 (by simp)]
          exact hl j hj
    | succ m ih =>
      intro k τ hk hF hA
      have e37 : τ 37 0 = (K.1 : Int) := by rw [hF 37 (by simp)]; exact hM.1
      have e43 : τ 43 k = (mdg pre k : Int) := by rw [hF 43 (by simp)]; exact hl k (by omega)
      have hdl := mdg_lt pre k
      have k1 : τ 37 (3 + 4 * mdg pre k) = K.2.2.1 (mdg pre k) := by rw [hF 37 (by simp)]; exact hM.2.2.1 _ hdl
      have k2 : τ 37 (4 + 4 * mdg pre k) = K.2.2.2.1 (mdg pre k) := by rw [hF 37 (by simp)]; exact hM.2.2.2.1 _ hdl
      have hA2 := AbsM_fig (AbsM_kind hA (r := k) (v := K.2.2.1 (mdg pre k))) (r := k) (v := K.2.2.2.1 (mdg pre k))
      obtain ⟨τ', g1, g2, g3, g4⟩ := ih (k + 1) (zup (zup τ 38 (3 + 4 * k) (K.2.2.1 (mdg pre k))) 38 (4 + 4 * k) (K.2.2.2.1 (mdg pre k))) (by omega) (zFr_tr hF (zFr_tr (zFr_up (by simp)) (zFr_up (by simp)))) (AbsM_eq hA2 ⟨rfl, rfl, fun j _ => by
        show (if j = k then K.2.2.1 (mdg pre k) else if j < k then K.2.2.1 (mdg pre j) else K.2.2.1 j) = if j < k + 1 then K.2.2.1 (mdg pre j) else K.2.2.1 j
        by_cases e : j = k
        · subst e; rw [if_pos rfl, if_pos (by omega)]
        · rw [if_neg e]
          by_cases e2 : j < k
          · rw [if_pos e2, if_pos (by omega)]
          · rw [if_neg e2, if_neg (by omega)], fun j _ => by
        show (if j = k then K.2.2.2.1 (mdg pre k) else if j < k then K.2.2.2.1 (mdg pre j) else K.2.2.2.1 j) = if j < k + 1 then K.2.2.2.1 (mdg pre j) else K.2.2.2.1 j
        by_cases e : j = k
        · subst e; rw [if_pos rfl, if_pos (by omega)]
        · rw [if_neg e]
          by_cases e2 : j < k
          · rw [if_pos e2, if_pos (by omega)]
          · rw [if_neg e2, if_neg (by omega)], fun _ _ => rfl, fun _ _ => rfl⟩)
      refine ⟨τ', ?_, g2, g3, g4⟩
      rw [b_X3_seats_18, e37]
      simp (disch := omega) only [nrm_id, zix, ↓reduceIte, if_true, if_false, true_and, and_true, false_and, and_false, not_true_eq_false, not_false_eq_true, Int.reduceAdd, Int.reduceSub, Int.reduceMul, ↓if_pos, ↓if_neg, Option.bind_some, Option.toList_some, Option.toList_none, List.append_nil, List.cons_append, List.nil_append, znat, znat1, zpm1, zcm1, zof0, zof1, zof2, zof3, zofa0, zofa1, r_of, b_X3_seats_39, e43, b_X3_seats_54, k1, zup_ne, b_X3_seats_66, b_X3_seats_81, k2]
      exact g1
  obtain ⟨σ2, k1, k2, k3, k4⟩ := lp K.1 0 σ1 (by omega) (zFr_mono a3 (by simp)) (AbsM_eq (AbsM_copy hM a2) ⟨rfl, rfl, fun j _ => by show K.2.2.1 j = if j < 0 then K.2.2.1 (mdg pre j) else K.2.2.1 j; rw [if_neg (Nat.not_lt_zero j)], fun j _ => by show K.2.2.2.1 j = if j < 0 then K.2.2.2.1 (mdg pre j) else K.2.2.2.1 j; rw [if_neg (Nat.not_lt_zero j)], fun _ _ => rfl, fun _ _ => rfl⟩)
  have k1' : zq (d + 5) mX3_seats 18 [some (zR (some 36)), none, none, some (zI n), some (zI 0)] [] σ1 = some (none, σ2) := k1
  refine ⟨σ2, ?_, k2, k3, k4⟩
  rw [e_X3_seats]
  simp (disch := omega) only [nrm_id, zix, ↓reduceIte, if_true, if_false, true_and, and_true, false_and, and_false, not_true_eq_false, not_false_eq_true, Int.reduceAdd, Int.reduceSub, Int.reduceMul, ↓if_pos, ↓if_neg, Option.bind_some, Option.toList_some, Option.toList_none, List.append_nil, List.cons_append, List.nil_append, znat, znat1, zpm1, zcm1, zof0, zof1, zof2, zof3, zofa0, zofa1, a1, b_X3_seats_15]
  exact k1'
theorem r_seats (hp6 : K.1 ≤ 6) {n : Nat} (hn : n < 1000) : ∀ (m D r left pre : Nat) (s : Int × Nat) (τ : zS), m + 5 ≤ D → r + m = K.1 → mpop (left : Int) = (m : Int) → left < 256 → pre < 8 ^ r → (∀ j, j < r → τ 43 j = (mdg pre j : Int)) → zSysK K T τ → mRs K s τ → ∃ τ', zc D mX3_seats [zR (some 36), zI r, zI left, zI n] τ = some (none, τ') ∧ mRs K (mfo (mJo K n) s (mall K.1 m r pre left)) τ' ∧ (∀ j, j < r → τ' 43 j = τ 43 j) ∧ zScr zSc τ τ' := by
  intro m
  induction m with
  | zero =>
    intro D r left pre s τ hD hr hm hleft hpre hl hS hs
    have hl0 := mpop_0 left hleft hm
    subst hl0
    obtain ⟨d, rfl⟩ : ∃ d, D = d + 5 := ⟨D - 5, by omega⟩
    obtain ⟨τ', g1, g2, g3, g4⟩ := r_evalSeat d hS hp6 hn (pre := pre) (fun j hj => hl j (by omega)) hs r
    exact ⟨τ', g1, g2, fun j _ => g3 j, g4⟩
  | succ m ih =>
    intro D r left pre s τ hD hr hm hleft hpre hl hS hs
    obtain ⟨d, rfl⟩ : ∃ d, D = d + 1 := ⟨D - 1, by omega⟩
    have hl0 : left ≠ 0 := fun e => by
      subst e
      have e0 : mpop ((0 : Nat) : Int) = 0 := by decide
      rw [e0] at hm
      omega
    have lp : ∀ (k q : Nat) (s : Int × Nat) (τ : zS), q + k = K.1 → (∀ j, j < r → τ 43 j = (mdg pre j : Int)) → zSysK K T τ → mRs K s τ → ∃ τ', zq (d + 1) mX3_seats 165 [some (zR (some 36)), some (zI r), some (zI left), some (zI n), some (zI q)] [] τ = some (none, τ') ∧ mRs K (mfo (mJo K n) s (mvq (fun q => if left.testBit q then mall K.1 m (r + 1) (pre + q * 8 ^ r) (left - 2 ^ q) else []) k q)) τ' ∧ (∀ j, j < r → τ' 43 j = τ 43 j) ∧ zScr zSc τ τ' := by
      intro k
      induction k with
      | zero =>
        intro q s τ hq hl hS hs
        have h37 : τ 37 0 = (K.1 : Int) := hS.2.1.1
        refine ⟨τ, ?_, hs, fun _ _ => rfl, zScr_rf _ _⟩
        rw [b_X3_seats_165, h37]
        simp (disch := omega) only [nrm_id, zix, ↓reduceIte, if_true, if_false, true_and, and_true, false_and, and_false, not_true_eq_false, not_false_eq_true, Int.reduceAdd, Int.reduceSub, Int.reduceMul, ↓if_pos, ↓if_neg, Option.bind_some, Option.toList_some, Option.toList_none, List.append_nil, List.cons_append, List.nil_append, znat, znat1, zpm1, zcm1, zof0, zof1, zof2, zof3, zofa0, zofa1]
      | succ k ihk =>
        intro q s τ hq hl hS hs
        have h37 : τ 37 0 = (K.1 : Int) := hS.2.1.1
        have hh := r_has (d) τ (B := (left : Int)) (by omega) (by omega) (r := q) (by omega)
        rw [mbit_test] at hh
        by_cases b : left.testBit q = true
        · rw [if_pos b] at hh
          obtain ⟨l1, l2⟩ := mleft_dec left hleft q (by omega) b
          obtain ⟨m1, m2, m3⟩ := mdg_add (q := q) hpre (by omega)
          have hsc0 : zScr zSc τ (zup τ 43 r q) := zScr_of (ps := [43]) (zFr_up (by simp)) (by simp [zSc]) (by simp)
          have hs0 : mRs K s (zup τ 43 r q) := ⟨by rw [zup_ne (by decide)]; exact hs.1, hs.2.1, hs.2.2.imp id (fun z j hj => by rw [zup_ne (by decide)]; exact z j hj)⟩
          obtain ⟨τ1, g1, g2, g3, g4⟩ := ih d (r + 1) (left - 2 ^ q) (pre + q * 8 ^ r) s (zup τ 43 r q) (by omega) (by omega) (by omega) (Nat.lt_of_le_of_lt (Nat.sub_le _ _) hleft) m3 (fun j hj => by
            by_cases e : j = r
            · subst e; rw [zup_at, m1]
            · rw [zup_ix e, m2 j (by omega)]; exact hl j (by omega)) (zSys_scr hS hsc0) hs0
          have e43 : ∀ j, j < r → τ1 43 j = τ 43 j := fun j hj => by rw [g3 j (by omega), zup_ix (by omega)]
          have hsc : zScr zSc τ τ1 := zScr_tr hsc0 g4
          obtain ⟨τ2, k1, k2, k3, k4⟩ := ihk (q + 1) _ τ1 (by omega) (fun j hj => by rw [e43 j hj]; exact hl j hj) (zSys_scr hS hsc) g2
          refine ⟨τ2, ?_, ?_, fun j hj => by rw [k3 j hj, e43 j hj], zScr_tr hsc k4⟩
          · have g1' : zc d mX3_seats [zR (some 36), zI ((r : Int) + 1), zI ((left - 2 ^ q : Nat) : Int), zI n] (zup τ 43 r q) = some (none, τ1) := g1
            rw [b_X3_seats_165, h37]
            simp (disch := omega) only [nrm_id, zix, ↓reduceIte, if_true, if_false, true_and, and_true, false_and, and_false, not_true_eq_false, not_false_eq_true, Int.reduceAdd, Int.reduceSub, Int.reduceMul, ↓if_pos, ↓if_neg, Option.bind_some, Option.toList_some, Option.toList_none, List.append_nil, List.cons_append, List.nil_append, znat, znat1, zpm1, zcm1, zof0, zof1, zof2, zof3, zofa0, zofa1, hh, b_X3_seats_182, l1, g1', b_X3_seats_212]
            exact k1
          · show mRs K (mfo (mJo K n) s ((if left.testBit q = true then mall K.1 m (r + 1) (pre + q * 8 ^ r) (left - 2 ^ q) else []) ++ mvq (fun q => if left.testBit q then mall K.1 m (r + 1) (pre + q * 8 ^ r) (left - 2 ^ q) else []) k (q + 1))) τ2
            rw [if_pos b, mfo_app]
            exact k2
        · rw [if_neg b] at hh
          obtain ⟨τ2, k1, k2, k3, k4⟩ := ihk (q + 1) s τ (by omega) hl hS hs
          refine ⟨τ2, ?_, ?_, k3, k4⟩
          · rw [b_X3_seats_165, h37]
            simp (disch := omega) only [nrm_id, zix, ↓reduceIte, if_true, if_false, true_and, and_true, false_and, and_false, not_true_eq_false, not_false_eq_true, Int.reduceAdd, Int.reduceSub, Int.reduceMul, ↓if_pos, ↓if_neg, Option.bind_some, Option.toList_some, Option.toList_none, List.append_nil, List.cons_append, List.nil_append, znat, znat1, zpm1, zcm1, zof0, zof1, zof2, zof3, zofa0, zofa1, hh, b_X3_seats_182, b_X3_seats_212]
            exact k1
          · show mRs K (mfo (mJo K n) s ((if left.testBit q = true then mall K.1 m (r + 1) (pre + q * 8 ^ r) (left - 2 ^ q) else []) ++ mvq (fun q => if left.testBit q then mall K.1 m (r + 1) (pre + q * 8 ^ r) (left - 2 ^ q) else []) k (q + 1))) τ2
            rw [if_neg b]
            exact k2
    obtain ⟨τ', g1, g2, g3, g4⟩ := lp K.1 0 s τ (by omega) hl hS hs
    have g1' : zq (d + 1) mX3_seats 165 [some (zR (some 36)), some (zI r), some (zI left), some (zI n), some (zI 0)] [] τ = some (none, τ') := g1
    refine ⟨τ', ?_, g2, g3, g4⟩
    rw [e_X3_seats]
    simp (disch := omega) only [nrm_id, zix, ↓reduceIte, if_true, if_false, true_and, and_true, false_and, and_false, not_true_eq_false, not_false_eq_true, Int.reduceAdd, Int.reduceSub, Int.reduceMul, ↓if_pos, ↓if_neg, Option.bind_some, Option.toList_some, Option.toList_none, List.append_nil, List.cons_append, List.nil_append, znat, znat1, zpm1, zcm1, zof0, zof1, zof2, zof3, zofa0, zofa1]
    exact g1'
theorem p_order (h : zSysK K T σ) {x y : Int} (hx : R32 x) (hy : R32 y) : zP mX2_order mX3_order [zI x, zI y] σ := by
  have h0 := h
  obtain ⟨hC, hM, hO, hT1, hT2, hT, -, -⟩ := h
  have hp := hO.1
  obtain ⟨x1, x2⟩ := hx
  obtain ⟨y1, y2⟩ := hy
  by_cases q : (0 ≤ x ∧ x ≤ 9) ∧ (-1 ≤ y ∧ y < K.1)
  · by_cases q6 : K.1 ≤ 6
    · obtain ⟨n, rfl⟩ := Int.eq_ofNat_of_zero_le q.1.1
      have hr := mbo_rng hO q6 n
      obtain ⟨v, hv⟩ : ∃ v : Int, v = if y < 0 then (mbo K n).1 else ((mdg (mbo K n).2 y.toNat : Nat) : Int) := ⟨_, rfl⟩
      refine zP_read h0 (zI v) (fun d => ?_) (fun d τ hτ => ?_)
      · obtain ⟨σ1, a1, a2, a3⟩ := s_findBest (d + 14) h0 q6 (n := n) (by omega)
        refine ⟨σ1, ?_, a3⟩
        rw [e_X2_order, hC.1]
        by_cases q1 : y < 0
        · rw [if_pos q1] at hv
          simp (disch := omega) only [nrm_id, zix, ↓reduceIte, if_true, if_false, true_and, and_true, false_and, and_false, not_true_eq_false, not_false_eq_true, Int.reduceAdd, Int.reduceSub, Int.reduceMul, ↓if_pos, ↓if_neg, Option.bind_some, Option.toList_some, Option.toList_none, List.append_nil, List.cons_append, List.nil_append, znat, znat1, zpm1, zcm1, zof0, zof1, zof2, zof3, zofa0, zofa1, a1, b_X2_order_49, hv]
        · rw [if_neg q1] at hv
          obtain ⟨r, rfl⟩ := Int.eq_ofNat_of_zero_le (show 0 ≤ y by omega)
          have e18 := a2 r (by omega)
          have em : mar K.1 (mbo K n).2 r = mdg (mbo K n).2 r := if_pos (by omega)
          rw [em] at e18
          rw [show ((r : Nat) : Int).toNat = r from rfl] at hv
          simp (disch := omega) only [nrm_id, zix, ↓reduceIte, if_true, if_false, true_and, and_true, false_and, and_false, not_true_eq_false, not_false_eq_true, Int.reduceAdd, Int.reduceSub, Int.reduceMul, ↓if_pos, ↓if_neg, Option.bind_some, Option.toList_some, Option.toList_none, List.append_nil, List.cons_append, List.nil_append, znat, znat1, zpm1, zcm1, zof0, zof1, zof2, zof3, zofa0, zofa1, a1, b_X2_order_49, e18, hv]
      · have hs0 : mRs K (-1000000000, 0) (zup τ 36 12 (-1000000000)) := ⟨zup_at, ⟨Int.le_refl _, (by decide : (-1000000000 : Int) ≤ 400)⟩, Or.inl rfl⟩
        have hsc0 : zScr zSc τ (zup τ 36 12 (-1000000000)) := ⟨fun q _ h36 => zup_ne h36, zup_ix (by decide)⟩
        have h2p : (2 : Nat) ^ K.1 ≤ 64 := Nat.le_trans (Nat.pow_le_pow_right (by decide) q6) (by decide)
        have h2q : 0 < (2 : Nat) ^ K.1 := Nat.pow_pos (by decide)
        obtain ⟨τ1, g1, g2, -, g4⟩ := r_seats q6 (n := n) (by omega) K.1 (d + 19) 0 (2 ^ K.1 - 1) 0 (-1000000000, 0) (zup τ 36 12 (-1000000000)) (by omega) (by omega) (mpop_all K.1 (by omega)) (by omega) (by decide) (fun j hj => by omega) (zSys_scr hτ hsc0) hs0
        rw [mtab_all K.1 (by omega)] at g2
        have g2' : mRs K (mbo K n) τ1 := g2
        have e2 : zshl 1 (K.1 : Int) - 1 = ((2 ^ K.1 - 1 : Nat) : Int) := by rw [zshl1 K.1 (by omega)]; omega
        have g1' : zc (d + 19) mX3_seats [zR (some 36), zI 0, zI ((2 ^ K.1 - 1 : Nat) : Int), zI n] (zup τ 36 12 (-1000000000)) = some (none, τ1) := g1
        have h37 : τ 37 0 = (K.1 : Int) := hτ.2.1.1
        refine ⟨τ1, ?_, zScr_tr hsc0 g4⟩
        rw [e_X3_order, r_isIn _ _ ⟨x1, x2⟩ (by omega) (by omega)]
        by_cases q1 : y < 0
        · have ey : y = -1 := by omega
          subst ey
          rw [if_pos q1] at hv
          have e12 := g2'.1
          simp (disch := omega) only [nrm_id, zix, ↓reduceIte, if_true, if_false, true_and, and_true, false_and, and_false, not_true_eq_false, not_false_eq_true, Int.reduceAdd, Int.reduceSub, Int.reduceMul, ↓if_pos, ↓if_neg, Option.bind_some, Option.toList_some, Option.toList_none, List.append_nil, List.cons_append, List.nil_append, znat, znat1, zpm1, zcm1, zof0, zof1, zof2, zof3, zofa0, zofa1, b_X3_order_7, b_X3_order_26, zup_ne, h37, e2, g1', b_X3_order_62, e12, hv]
        · rw [if_neg q1] at hv
          obtain ⟨r, rfl⟩ := Int.eq_ofNat_of_zero_le (show 0 ≤ y by omega)
          rw [show ((r : Nat) : Int).toNat = r from rfl] at hv
          have e44 := (g2'.2.2.resolve_left (by omega)) r (by omega)
          have hrow := r_isRowY (d + 18) hτ.2.1 hO (r := r) (by omega)
          simp (disch := omega) only [nrm_id, zix, ↓reduceIte, if_true, if_false, true_and, and_true, false_and, and_false, not_true_eq_false, not_false_eq_true, Int.reduceAdd, Int.reduceSub, Int.reduceMul, ↓if_pos, ↓if_neg, Option.bind_some, Option.toList_some, Option.toList_none, List.append_nil, List.cons_append, List.nil_append, znat, znat1, zpm1, zcm1, zof0, zof1, zof2, zof3, zofa0, zofa1, b_X3_order_7, hrow, b_X3_order_20, b_X3_order_26, zup_ne, h37, e2, g1', b_X3_order_62, e44, hv]
    · refine zP_same h0 (zI 1000000003) (fun d => ?_) (fun d => ?_)
      · rw [e_X2_order, hC.1]
        simp (disch := omega) only [nrm_id, zix, ↓reduceIte, if_true, if_false, true_and, and_true, false_and, and_false, not_true_eq_false, not_false_eq_true, Int.reduceAdd, Int.reduceSub, Int.reduceMul, ↓if_pos, ↓if_neg, Option.bind_some, Option.toList_some, Option.toList_none, List.append_nil, List.cons_append, List.nil_append, znat, znat1, zpm1, zcm1, zof0, zof1, zof2, zof3, zofa0, zofa1]
      · rw [e_X3_order, r_isIn _ _ ⟨x1, x2⟩ (by omega) (by omega)]
        by_cases q1 : y = -1
        · simp (disch := omega) only [nrm_id, zix, ↓reduceIte, if_true, if_false, true_and, and_true, false_and, and_false, not_true_eq_false, not_false_eq_true, Int.reduceAdd, Int.reduceSub, Int.reduceMul, ↓if_pos, ↓if_neg, Option.bind_some, Option.toList_some, Option.toList_none, List.append_nil, List.cons_append, List.nil_append, znat, znat1, zpm1, zcm1, zof0, zof1, zof2, zof3, zofa0, zofa1, b_X3_order_7, b_X3_order_26, hM.1]
        · obtain ⟨r, rfl⟩ := Int.eq_ofNat_of_zero_le (show 0 ≤ y by omega)
          have hrow := r_isRowY (d + 18) hM hO (r := r) (by omega)
          simp (disch := omega) only [nrm_id, zix, ↓reduceIte, if_true, if_false, true_and, and_true, false_and, and_false, not_true_eq_false, not_false_eq_true, Int.reduceAdd, Int.reduceSub, Int.reduceMul, ↓if_pos, ↓if_neg, Option.bind_some, Option.toList_some, Option.toList_none, List.append_nil, List.cons_append, List.nil_append, znat, znat1, zpm1, zcm1, zof0, zof1, zof2, zof3, zofa0, zofa1, b_X3_order_7, hrow, b_X3_order_20, b_X3_order_26, hM.1]
  · refine zP_same h0 (zI 1000000001) (fun d => ?_) (fun d => ?_)
    · rw [e_X2_order, hC.1]
      by_cases q1 : x < 0
      · simp (disch := omega) only [nrm_id, zix, ↓reduceIte, if_true, if_false, true_and, and_true, false_and, and_false, not_true_eq_false, not_false_eq_true, Int.reduceAdd, Int.reduceSub, Int.reduceMul, ↓if_pos, ↓if_neg, Option.bind_some, Option.toList_some, Option.toList_none, List.append_nil, List.cons_append, List.nil_append, znat, znat1, zpm1, zcm1, zof0, zof1, zof2, zof3, zofa0, zofa1]
      · by_cases q2 : 9 < x
        · simp (disch := omega) only [nrm_id, zix, ↓reduceIte, if_true, if_false, true_and, and_true, false_and, and_false, not_true_eq_false, not_false_eq_true, Int.reduceAdd, Int.reduceSub, Int.reduceMul, ↓if_pos, ↓if_neg, Option.bind_some, Option.toList_some, Option.toList_none, List.append_nil, List.cons_append, List.nil_append, znat, znat1, zpm1, zcm1, zof0, zof1, zof2, zof3, zofa0, zofa1]
        · by_cases q3 : y < -1
          · simp (disch := omega) only [nrm_id, zix, ↓reduceIte, if_true, if_false, true_and, and_true, false_and, and_false, not_true_eq_false, not_false_eq_true, Int.reduceAdd, Int.reduceSub, Int.reduceMul, ↓if_pos, ↓if_neg, Option.bind_some, Option.toList_some, Option.toList_none, List.append_nil, List.cons_append, List.nil_append, znat, znat1, zpm1, zcm1, zof0, zof1, zof2, zof3, zofa0, zofa1]
          · simp (disch := omega) only [nrm_id, zix, ↓reduceIte, if_true, if_false, true_and, and_true, false_and, and_false, not_true_eq_false, not_false_eq_true, Int.reduceAdd, Int.reduceSub, Int.reduceMul, ↓if_pos, ↓if_neg, Option.bind_some, Option.toList_some, Option.toList_none, List.append_nil, List.cons_append, List.nil_append, znat, znat1, zpm1, zcm1, zof0, zof1, zof2, zof3, zofa0, zofa1]
    · rw [e_X3_order, r_isIn _ _ ⟨x1, x2⟩ (by omega) (by omega)]
      by_cases q1 : 0 ≤ x ∧ x ≤ 9
      · have hrow := r_isRowN (d + 18) hM hO (x := y) ⟨y1, y2⟩ (by omega)
        simp (disch := omega) only [nrm_id, zix, ↓reduceIte, if_true, if_false, true_and, and_true, false_and, and_false, not_true_eq_false, not_false_eq_true, Int.reduceAdd, Int.reduceSub, Int.reduceMul, ↓if_pos, ↓if_neg, Option.bind_some, Option.toList_some, Option.toList_none, List.append_nil, List.cons_append, List.nil_append, znat, znat1, zpm1, zcm1, zof0, zof1, zof2, zof3, zofa0, zofa1, b_X3_order_7, hrow, b_X3_order_20]
      · simp (disch := omega) only [nrm_id, zix, ↓reduceIte, if_true, if_false, true_and, and_true, false_and, and_false, not_true_eq_false, not_false_eq_true, Int.reduceAdd, Int.reduceSub, Int.reduceMul, ↓if_pos, ↓if_neg, Option.bind_some, Option.toList_some, Option.toList_none, List.append_nil, List.cons_append, List.nil_append, znat, znat1, zpm1, zcm1, zof0, zof1, zof2, zof3, zofa0, zofa1, b_X3_order_7]
end SYS30
