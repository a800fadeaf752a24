def my (K : zK) (j : Nat) : Nat := if j + 1 < K.1 ∧ (K.2.2.1 (j + 1) = 3 ∨ K.2.2.1 (j + 1) = 6) then 1 else 0
def mTn (K : zK) (j : Nat) : Nat := ((mround K).2.2.2.2.1 j).toNat
theorem my_01 (K : zK) (j : Nat) : my K j = 0 ∨ my K j = 1 := by unfold my; split <;> omega
theorem mTn_is {K : zK} (hO : mOk K) {j : Nat} (hj : j < 8) : (mround K).2.2.2.2.1 j = (mTn K j : Int) ∧ mTn K j ≤ 10 := by
  have h := (mround_ok hO).2.2.2.2.1 j hj
  unfold mTn
  omega
theorem mct_le8 {y : Nat → Nat} (hy : ∀ j, y j = 0 ∨ y j = 1) : ∀ i, mct y i ≤ i := by
  intro i
  induction i with
  | zero => exact Nat.le_refl _
  | succ i ih => have := hy i; rw [mct_s]; omega
theorem mpow8 {t c : Nat} (h1 : 1 ≤ t) (h2 : t ≤ 20) (hc : c ≤ 8) : t ^ c ≤ 25600000000 ∧ t ^ c ≠ 0 := by
  refine ⟨Nat.le_trans (Nat.pow_le_pow_left h2 c) (Nat.le_trans (Nat.pow_le_pow_right (by decide) hc) (by decide)), ?_⟩
  have := Nat.pow_le_pow_left h1 c
  rw [Nat.one_pow] at this
  omega
section SYS25
variable {σ : zS} {K : zK} {T : Int}
theorem s_childBehind (d : Nat) (hO : mOk K) (hA : AbsC σ 6 (mround K)) {i : Nat} (hi : i < K.1) : zc (d + 1) mX0_childBehind [zR (some 6), zI i] σ = some (some (zI ((my K i : Nat) : Int)), σ) := by
  have hp := hO.1
  have hO2 := mround_ok hO
  rw [e_X0_childBehind _ _ zCo6]
  by_cases q : i + 1 < K.1
  · have r := s_isRowY d zCo6 hA hO2 (r := i + 1) q
    have r' : zc d mX0_isRow [zR (some 6), zI ((i : Int) + 1)] σ = some (some (zI 1), σ) := r
    have hk := hO.2.2.1 (i + 1) (by omega)
    have e1 := hA.2.2.1 (i + 1) (by omega)
    have e1' : σ (6 + 1) (i + 1) = K.2.2.1 (i + 1) := e1
    by_cases k3 : K.2.2.1 (i + 1) = 3
    · have em : my K i = 1 := if_pos ⟨q, Or.inl k3⟩
      rw [em]
      simp (disch := omega) only [nrm_id, zix, ↓reduceIte, if_true, if_false, true_and, and_true, false_and, and_false, not_true_eq_false, not_false_eq_true, Int.reduceAdd, Int.reduceSub, Int.reduceMul, ↓if_pos, ↓if_neg, Option.bind_some, Option.toList_some, Option.toList_none, List.append_nil, List.cons_append, List.nil_append, znat, znat1, zpm1, zcm1, zof0, zof1, zof2, zof3, zofa0, zofa1, r', b_X0_childBehind_7 _ _ _ zCo6, e1', k3, b_X0_childBehind_35]
      rfl
    · by_cases k6 : K.2.2.1 (i + 1) = 6
      · have em : my K i = 1 := if_pos ⟨q, Or.inr k6⟩
        rw [em]
        simp (disch := omega) only [nrm_id, zix, ↓reduceIte, if_true, if_false, true_and, and_true, false_and, and_false, not_true_eq_false, not_false_eq_true, Int.reduceAdd, Int.reduceSub, Int.reduceMul, ↓if_pos, ↓if_neg, Option.bind_some, Option.toList_some, Option.toList_none, List.append_nil, List.cons_append, List.nil_append, znat, znat1, zpm1, zcm1, zof0, zof1, zof2, zof3, zofa0, zofa1, r', b_X0_childBehind_7 _ _ _ zCo6, e1', k6, b_X0_childBehind_35]
        rfl
      · have em : my K i = 0 := if_neg (fun z => z.2.elim k3 k6)
        rw [em]
        simp (disch := omega) only [nrm_id, zix, ↓reduceIte, if_true, if_false, true_and, and_true, false_and, and_false, not_true_eq_false, not_false_eq_true, Int.reduceAdd, Int.reduceSub, Int.reduceMul, ↓if_pos, ↓if_neg, Option.bind_some, Option.toList_some, Option.toList_none, List.append_nil, List.cons_append, List.nil_append, znat, znat1, zpm1, zcm1, zof0, zof1, zof2, zof3, zofa0, zofa1, r', b_X0_childBehind_7 _ _ _ zCo6, e1']
        rfl
  · have r := s_isRowN (x := (i : Int) + 1) d zCo6 hA hO2 (by omega) (by omega) (fun z => q (by have := z.2; have e : (mround K).1 = K.1 := rfl; omega))
    have em : my K i = 0 := if_neg (fun z => q z.1)
    rw [em]
    simp (disch := omega) only [nrm_id, zix, ↓reduceIte, if_true, if_false, true_and, and_true, false_and, and_false, not_true_eq_false, not_false_eq_true, Int.reduceAdd, Int.reduceSub, Int.reduceMul, ↓if_pos, ↓if_neg, Option.bind_some, Option.toList_some, Option.toList_none, List.append_nil, List.cons_append, List.nil_append, znat, znat1, zpm1, zcm1, zof0, zof1, zof2, zof3, zofa0, zofa1, r, b_X0_childBehind_7 _ _ _ zCo6]
    rfl
theorem s_fillJ (d : Nat) (σ : zS) : ∃ σ' : zS, zc d mJ7_fill_d0a16 [zR (some 19), zJ 0] σ = some (none, σ') ∧ (∀ r, r < 81 → σ' 19 r = 0) ∧ zFr [19] σ σ' := by
  have ha : zkd 19 = 5 := rfl
  have hn : zln 19 = 81 := rfl
  have lp : ∀ (m i : Nat) (σ : zS), i + m = 81 → (∀ r, r < i → σ 19 r = 0) → ∃ σ' : zS, zq d mJ7_fill_d0a16 6 [some (zR (some 19)), some (zJ 0), none, some (zI i), some (zI ((81 : Nat) : Int))] [] σ = some (none, σ') ∧ (∀ r, r < 81 → σ' 19 r = 0) ∧ zFr [19] σ σ' := by
    intro m
    induction m with
    | zero =>
      intro i σ hi hl
      refine ⟨σ, ?_, fun r hr => hl r (by omega), zFr_rf _ _⟩
      rw [b_J7_fill_d0a16_6 _ _ _ _ ha hn]
      simp (disch := omega) only [nrm_id, zix, ↓reduceIte, if_true, if_false, true_and, and_true, false_and, and_false, not_true_eq_false, not_false_eq_true, Int.reduceAdd, Int.reduceSub, Int.reduceMul, ↓if_pos, ↓if_neg, Option.bind_some, Option.toList_some, Option.toList_none, List.append_nil, List.cons_append, List.nil_append, znat, znat1, zpm1, zcm1, zof0, zof1, zof2, zof3, zofa0, zofa1]
    | succ m ih =>
      intro i σ hi hl
      rw [b_J7_fill_d0a16_6 _ _ _ _ ha hn]
      simp (disch := omega) only [nrm_id, zix, ↓reduceIte, if_true, if_false, true_and, and_true, false_and, and_false, not_true_eq_false, not_false_eq_true, Int.reduceAdd, Int.reduceSub, Int.reduceMul, ↓if_pos, ↓if_neg, Option.bind_some, Option.toList_some, Option.toList_none, List.append_nil, List.cons_append, List.nil_append, znat, znat1, zpm1, zcm1, zof0, zof1, zof2, zof3, zofa0, zofa1]
      obtain ⟨σ', g1, g2, g3⟩ := ih (i + 1) (zup σ 19 i 0) (by omega) (fun r hr => by
        by_cases e : r = i
        · subst e; rw [zup_at]
        · rw [zup_ix e]; exact hl r (by omega))
      exact ⟨σ', g1, g2, zFr_tr (zFr_up (by simp)) g3⟩
  obtain ⟨σ', g1, g2, g3⟩ := lp 81 0 σ (by omega) (fun r hr => by omega)
  exact ⟨σ', by rw [e_J7_fill_d0a16 _ _ ha hn]; exact g1, g2, g3⟩
def mV (u w T : Nat) (W : Nat → Nat) (m x : Nat) : Nat := (if m ≤ x ∧ x + T ≤ 80 then u * W x else W x) + (if T ≤ x ∧ m ≤ x - T then w * W (x - T) else 0)
theorem zofs (m t : Nat) : ((m : Int) + (t : Int)).toNat = m + t := by omega
theorem mV_step {u w T : Nat} {W : Nat → Nat} {m : Nat} (hm : m + T ≤ 80) {τ : zS} (hτ : ∀ x, x < 81 → τ 19 x = (mV u w T W (m + 1) x : Int)) : ∀ x, x < 81 → zup (zup τ 19 m (τ 19 m * (u : Int))) 19 (m + T) (zup τ 19 m (τ 19 m * (u : Int)) 19 (m + T) + τ 19 m * (w : Int)) 19 x = (mV u w T W m x : Int) := by
  intro x hx
  have h0 : τ 19 m = (W m : Int) := by
    rw [hτ m (by omega)]
    unfold mV
    rw [if_neg (by omega), if_neg (by omega), Nat.add_zero]
  rw [h0]
  by_cases e : x = m + T
  · subst e
    rw [zup_at]
    by_cases e2 : T = 0
    · subst e2
      rw [Nat.add_zero, zup_at]
      unfold mV
      rw [if_pos (by omega), if_pos (by omega), Nat.sub_zero, Int.natCast_add, Int.natCast_mul, Int.natCast_mul, Int.mul_comm, Int.mul_comm (w : Int)]
    · rw [zup_ix (by omega), hτ _ (by omega)]
      unfold mV
      rw [show m + T - T = m from by omega, if_neg (show ¬ (T ≤ m + T ∧ m + 1 ≤ m) by omega), if_pos (show T ≤ m + T ∧ m ≤ m by omega)]
      by_cases q : m + T + T ≤ 80
      · rw [if_pos (by omega), if_pos (by omega), Nat.add_zero, Int.natCast_add, Int.natCast_mul w, Int.mul_comm (w : Int)]
      · rw [if_neg (by omega), if_neg (by omega), Nat.add_zero, Int.natCast_add, Int.natCast_mul w, Int.mul_comm (w : Int)]
  · rw [zup_ix e]
    by_cases e2 : x = m
    · subst e2
      rw [zup_at]
      unfold mV
      rw [if_pos (by omega), if_neg (by omega), Nat.add_zero, Int.natCast_mul, Int.mul_comm]
    · rw [zup_ix e2, hτ x hx]
      unfold mV
      have c1 : (m + 1 ≤ x ∧ x + T ≤ 80) = (m ≤ x ∧ x + T ≤ 80) := propext ⟨fun z => by omega, fun z => by omega⟩
      have c2 : (T ≤ x ∧ m + 1 ≤ x - T) = (T ≤ x ∧ m ≤ x - T) := propext ⟨fun z => by omega, fun z => by omega⟩
      simp only [c1, c2]
theorem s_addTip (d : Nat) {u w T : Nat} (hT : T ≤ 10) (hu : u ≤ 20) (hw : w ≤ 20) {W : Nat → Nat} (hW : ∀ x, x < 81 → σ 19 x = (W x : Int)) (hz : ∀ x, x < 81 → 80 < x + T → W x = 0) : ∃ σ', zc d mX2_addTip [zR (some 0), zI T, zI u, zI w] σ = some (none, σ') ∧ (∀ x, x < 81 → σ' 19 x = ((u * W x + w * (if T ≤ x then W (x - T) else 0) : Nat) : Int)) ∧ zFr [19] σ σ' := by
  have lp : ∀ (m : Nat) (τ : zS), m + T ≤ 81 → (∀ x, x < 81 → τ 19 x = (mV u w T W m x : Int)) → ∃ τ', zq d mX2_addTip 6 [some (zR (some 0)), some (zI T), some (zI u), some (zI w), some (zI ((m : Int) - 1)), none, none] [] τ = some (none, τ') ∧ (∀ x, x < 81 → τ' 19 x = (mV u w T W 0 x : Int)) ∧ zFr [19] τ τ' := by
    intro m
    induction m with
    | zero =>
      intro τ hm hτ
      refine ⟨τ, ?_, hτ, zFr_rf _ _⟩
      rw [b_X2_addTip_6]
      simp (disch := omega) only [nrm_id, zix, ↓reduceIte, if_true, if_false, true_and, and_true, false_and, and_false, not_true_eq_false, not_false_eq_true, Int.reduceAdd, Int.reduceSub, Int.reduceMul, ↓if_pos, ↓if_neg, Option.bind_some, Option.toList_some, Option.toList_none, List.append_nil, List.cons_append, List.nil_append, znat, znat1, zpm1, zcm1, zof0, zof1, zof2, zof3, zofa0, zofa1]
    | succ m ih =>
      intro τ hm hτ
      obtain ⟨τ', g1, g2, g3⟩ := ih _ (by omega) (mV_step (by omega) hτ)
      refine ⟨τ', ?_, g2, zFr_tr (zFr_tr (zFr_up (by simp)) (zFr_up (by simp))) g3⟩
      rw [b_X2_addTip_6]
      simp (disch := omega) only [nrm_id, zix, ↓reduceIte, if_true, if_false, true_and, and_true, false_and, and_false, not_true_eq_false, not_false_eq_true, Int.reduceAdd, Int.reduceSub, Int.reduceMul, ↓if_pos, ↓if_neg, Option.bind_some, Option.toList_some, Option.toList_none, List.append_nil, List.cons_append, List.nil_append, znat, znat1, zpm1, zcm1, zof0, zof1, zof2, zof3, zofa0, zofa1, zofs, zam1]
      exact g1
  obtain ⟨σ', g1, g2, g3⟩ := lp (81 - T) σ (by omega) (fun x hx => by
    rw [hW x hx]
    unfold mV
    rw [if_neg (by omega), if_neg (by omega), Nat.add_zero])
  refine ⟨σ', ?_, fun x hx => ?_, g3⟩
  · rw [e_X2_addTip, show (80 : Int) - (T : Int) = ((81 - T : Nat) : Int) - 1 from by omega]
    exact g1
  · rw [g2 x hx]
    unfold mV
    congr 1
    have c2 : (T ≤ x ∧ 0 ≤ x - T) = (T ≤ x) := propext ⟨fun z => z.1, fun z => ⟨z, by omega⟩⟩
    simp only [c2]
    by_cases q : x + T ≤ 80
    · rw [if_pos ⟨by omega, q⟩]
      by_cases q2 : T ≤ x
      · rw [if_pos q2, if_pos q2]
      · rw [if_neg q2, if_neg q2, Nat.mul_zero]
    · rw [if_neg (by omega), hz x hx (by omega), Nat.mul_zero]
      by_cases q2 : T ≤ x
      · rw [if_pos q2, if_pos q2]
      · rw [if_neg q2, if_neg q2, Nat.mul_zero]
theorem s_lookRows (d : Nat) (hO : mOk K) {t : Nat} (ht : 2 ≤ t ∧ t ≤ 20) (v a : Int) : ∀ (m i : Nat) (τ : zS), i + m = K.1 → AbsC τ 6 (mround K) → (∀ x, x < 81 → τ 19 x = (mW (mup1 (my K)) (mwp1 (my K) t) (mTn K) i x : Int)) → ∃ τ', zq (d + 2) mX2_looksRound 60 [some (zR (some 0)), some (zI t), some (zI v), some (zI a), some (zJ ((t ^ mct (my K) i : Nat) : Int)), none, some (zI i), none, none] [] τ = zq (d + 2) mX2_looksRound 140 [some (zR (some 0)), none, some (zI v), some (zI a), some (zJ ((t ^ mct (my K) K.1 : Nat) : Int)), none, some (zJ 0), none, some (zI 0)] [] τ' ∧ (∀ x, x < 81 → τ' 19 x = (mW (mup1 (my K)) (mwp1 (my K) t) (mTn K) K.1 x : Int)) ∧ zFr [19] τ τ' := by
  have hp := hO.1
  intro m
  induction m with
  | zero =>
    intro i τ hi hA hW
    have hi' : i = K.1 := by omega
    subst hi'
    refine ⟨τ, ?_, hW, zFr_rf _ _⟩
    have h0 : τ 6 0 = (K.1 : Int) := hA.1
    rw [b_X2_looksRound_60, h0]
    simp (disch := omega) only [nrm_id, zix, ↓reduceIte, if_true, if_false, true_and, and_true, false_and, and_false, not_true_eq_false, not_false_eq_true, Int.reduceAdd, Int.reduceSub, Int.reduceMul, ↓if_pos, ↓if_neg, Option.bind_some, Option.toList_some, Option.toList_none, List.append_nil, List.cons_append, List.nil_append, znat, znat1, zpm1, zcm1, zof0, zof1, zof2, zof3, zofa0, zofa1]
  | succ m ih =>
    intro i τ hi hA hW
    have h0 : τ 6 0 = (K.1 : Int) := hA.1
    have hti := mTn_is hO (j := i) (by omega)
    have e9 : τ 9 i = (mTn K i : Int) := (hA.2.2.2.2.1 i (by omega)).trans hti.1
    have hcb := s_childBehind d hO hA (i := i) (by omega)
    have hT10 : ∀ i, i < 8 → mTn K i ≤ 10 := fun i hi => (mTn_is hO hi).2
    have hz : ∀ x, x < 81 → 80 < x + mTn K i → mW (mup1 (my K)) (mwp1 (my K) t) (mTn K) i x = 0 := fun x _ hx => mW_zero hT10 i (by omega) x (by omega)
    rcases my_01 K i with e | e
    · have eu : mup1 (my K) i = 0 := if_neg (by omega)
      have ew : mwp1 (my K) t i = 1 := if_neg (by omega)
      obtain ⟨τ1, b1, b2, b3⟩ := s_addTip (d + 1) (u := 0) (w := 1) hti.2 (by omega) (by omega) hW hz
      have b1' : zc (d + 1) mX2_addTip [zR (some 0), zI ((mTn K i : Nat) : Int), zI 0, zI 1] τ = some (none, τ1) := b1
      obtain ⟨τ2, k1, k2, k3⟩ := ih (i + 1) τ1 (by omega) (AbsC_fr hA (b3 _ (by simp)) (b3 _ (by simp)) (b3 _ (by simp)) (b3 _ (by simp))) (fun x hx => by rw [b2 x hx, mW_s, eu, ew])
      refine ⟨τ2, ?_, k2, zFr_tr b3 k3⟩
      rw [mct_s, e, Nat.add_zero] at k1
      rw [e] at hcb
      rw [b_X2_looksRound_60, h0]
      simp (disch := omega) only [nrm_id, zix, ↓reduceIte, if_true, if_false, true_and, and_true, false_and, and_false, not_true_eq_false, not_false_eq_true, Int.reduceAdd, Int.reduceSub, Int.reduceMul, ↓if_pos, ↓if_neg, Option.bind_some, Option.toList_some, Option.toList_none, List.append_nil, List.cons_append, List.nil_append, znat, znat1, zpm1, zcm1, zof0, zof1, zof2, zof3, zofa0, zofa1, hcb, b_X2_looksRound_81, e9, b1', b_X2_looksRound_128]
      exact k1
    · have eu : mup1 (my K) i = 1 := if_pos e
      have ew : mwp1 (my K) t i = t - 1 := if_pos e
      obtain ⟨τ1, b1, b2, b3⟩ := s_addTip (d + 1) (u := 1) (w := t - 1) hti.2 (by omega) (by omega) hW hz
      have b1' : zc (d + 1) mX2_addTip [zR (some 0), zI ((mTn K i : Nat) : Int), zI 1, zI ((t : Int) - 1)] τ = some (none, τ1) := by
        rw [show (t : Int) - 1 = ((t - 1 : Nat) : Int) from by omega]
        exact b1
      obtain ⟨τ2, k1, k2, k3⟩ := ih (i + 1) τ1 (by omega) (AbsC_fr hA (b3 _ (by simp)) (b3 _ (by simp)) (b3 _ (by simp)) (b3 _ (by simp))) (fun x hx => by rw [b2 x hx, mW_s, eu, ew])
      refine ⟨τ2, ?_, k2, zFr_tr b3 k3⟩
      rw [mct_s, e, Nat.pow_succ, Int.natCast_mul] at k1
      rw [e] at hcb
      rw [b_X2_looksRound_60, h0]
      simp (disch := omega) only [nrm_id, zix, ↓reduceIte, if_true, if_false, true_and, and_true, false_and, and_false, not_true_eq_false, not_false_eq_true, Int.reduceAdd, Int.reduceSub, Int.reduceMul, ↓if_pos, ↓if_neg, Option.bind_some, Option.toList_some, Option.toList_none, List.append_nil, List.cons_append, List.nil_append, znat, znat1, zpm1, zcm1, zof0, zof1, zof2, zof3, zofa0, zofa1, hcb, b_X2_looksRound_81, e9, b1', b_X2_looksRound_109, b_X2_looksRound_128]
      exact k1
theorem s_lookSums (d : Nat) {W : Nat → Nat} (hW : ∀ x, x < 81 → σ 19 x = (W x : Int)) {v : Nat} (hv : v ≤ 80) {b : Nat} (hb : b < 2 ^ 48) (hb0 : b ≠ 0) (hs : nsum W (v + 1) < 2 ^ 48) {a : Int} (ha : a = 0 ∨ a = 1) : ∀ (m k : Nat), k + m = v + 1 → zq (d + 2) mX2_looksRound 140 [some (zR (some 0)), none, some (zI v), some (zI a), some (zJ (b : Int)), none, some (zJ ((nsum W k : Nat) : Int)), none, some (zI k)] [] σ = some (some (zJ (mpart (nsum W (v + 1)) b a)), σ) := by
  intro m
  induction m with
  | zero =>
    intro k hk
    have hk' : k = v + 1 := by omega
    subst hk'
    have sp := s_partOf (σ := σ) d hs hb hb0 ha
    rw [b_X2_looksRound_140]
    simp (disch := omega) only [nrm_id, zix, ↓reduceIte, if_true, if_false, true_and, and_true, false_and, and_false, not_true_eq_false, not_false_eq_true, Int.reduceAdd, Int.reduceSub, Int.reduceMul, ↓if_pos, ↓if_neg, Option.bind_some, Option.toList_some, Option.toList_none, List.append_nil, List.cons_append, List.nil_append, znat, znat1, zpm1, zcm1, zof0, zof1, zof2, zof3, zofa0, zofa1, sp, b_X2_looksRound_172]
  | succ m ih =>
    intro k hk
    have k1 := ih (k + 1) (by omega)
    rw [nsum_s, Int.natCast_add] at k1
    rw [b_X2_looksRound_140]
    simp (disch := omega) only [nrm_id, zix, ↓reduceIte, if_true, if_false, true_and, and_true, false_and, and_false, not_true_eq_false, not_false_eq_true, Int.reduceAdd, Int.reduceSub, Int.reduceMul, ↓if_pos, ↓if_neg, Option.bind_some, Option.toList_some, Option.toList_none, List.append_nil, List.cons_append, List.nil_append, znat, znat1, zpm1, zcm1, zof0, zof1, zof2, zof3, zofa0, zofa1, hW]
    exact k1
end SYS25
