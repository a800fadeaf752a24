section REF
variable {a : Nat} {σ : zS} {K : zK}
theorem r_of (d : Nat) (σ : zS) (x y : Int) : zc d mX3_of [zI x, zI y] σ = some (some (zI (3 + 4 * x + y)), σ) := e_X3_of d x y σ
theorem r_isIn (d : Nat) (σ : zS) {x l m : Int} (hx : -2147483648 ≤ x ∧ x < 2147483648) (hl : -2147483648 ≤ l ∧ l < 2147483648) (hm : -2147483648 ≤ m ∧ m < 2147483648) : zc d mX3_isIn [zI x, zI l, zI m] σ = some (some (zI (if l ≤ x ∧ x ≤ m then 1 else 0)), σ) := by
  rw [e_X3_isIn]
  by_cases q : l ≤ x ∧ x ≤ m
  · simp (disch := omega) only [nrm_id, zix, ↓reduceIte, if_true, if_false, true_and, and_true, false_and, and_false, not_true_eq_false, not_false_eq_true, Int.reduceAdd, Int.reduceSub, Int.reduceMul, ↓if_pos, ↓if_neg, Option.bind_some, Option.toList_some, Option.toList_none, List.append_nil, List.cons_append, List.nil_append, znat, znat1, zpm1, zcm1, zof0, zof1, zof2, zof3, zofa0, zofa1, q]
  · by_cases b : x < l <;> simp (disch := omega) only [nrm_id, zix, ↓reduceIte, if_true, if_false, true_and, and_true, false_and, and_false, not_true_eq_false, not_false_eq_true, Int.reduceAdd, Int.reduceSub, Int.reduceMul, ↓if_pos, ↓if_neg, Option.bind_some, Option.toList_some, Option.toList_none, List.append_nil, List.cons_append, List.nil_append, znat, znat1, zpm1, zcm1, zof0, zof1, zof2, zof3, zofa0, zofa1]
theorem r_isRow (d : Nat) (h : AbsM σ 37 K) (hO : mOk K) {x : Int} (hx : -2147483648 ≤ x ∧ x < 2147483648) : zc (d + 1) mX3_isRow [zR (some 36), zI x] σ = some (some (zI (if 0 ≤ x ∧ x < K.1 then 1 else 0)), σ) := by
  have hp := hO.1
  rw [e_X3_isRow, h.1, r_isIn d σ hx (by omega) (by omega)]
  by_cases q : 0 ≤ x ∧ x < K.1
  · simp (disch := omega) only [nrm_id, zix, ↓reduceIte, if_true, if_false, true_and, and_true, false_and, and_false, not_true_eq_false, not_false_eq_true, Int.reduceAdd, Int.reduceSub, Int.reduceMul, ↓if_pos, ↓if_neg, Option.bind_some, Option.toList_some, Option.toList_none, List.append_nil, List.cons_append, List.nil_append, znat, znat1, zpm1, zcm1, zof0, zof1, zof2, zof3, zofa0, zofa1, b_X3_isRow_13, true_or, or_true]
  · simp (disch := omega) only [nrm_id, zix, ↓reduceIte, if_true, if_false, true_and, and_true, false_and, and_false, not_true_eq_false, not_false_eq_true, Int.reduceAdd, Int.reduceSub, Int.reduceMul, ↓if_pos, ↓if_neg, Option.bind_some, Option.toList_some, Option.toList_none, List.append_nil, List.cons_append, List.nil_append, znat, znat1, zpm1, zcm1, zof0, zof1, zof2, zof3, zofa0, zofa1, b_X3_isRow_13, true_or, or_true]
theorem r_has (d : Nat) (σ : zS) {B : Int} (h0 : 0 ≤ B) (h1 : B < 256) {r : Nat} (hr : r < 8) : zc d mX3_has [zI B, zI r] σ = some (some (zI (mbit B r)), σ) := by
  rw [e_X3_has, mbit_is h0 h1 hr]
  rcases mbit_01 B r with e | e <;> rw [e] <;> simp (disch := omega) only [nrm_id, zix, ↓reduceIte, if_true, if_false, true_and, and_true, false_and, and_false, not_true_eq_false, not_false_eq_true, Int.reduceAdd, Int.reduceSub, Int.reduceMul, ↓if_pos, ↓if_neg, Option.bind_some, Option.toList_some, Option.toList_none, List.append_nil, List.cons_append, List.nil_append, znat, znat1, zpm1, zcm1, zof0, zof1, zof2, zof3, zofa0, zofa1]
theorem r_copies (d : Nat) {b : Nat} (ha : zAr a) (hb : zAr b) (σ : zS) : ∃ σ' : zS, zc d mX3_copies [zR (some a), zR (some b)] σ = some (none, σ') ∧ (∀ i, i < 35 → σ' b i = σ a i) ∧ zFr [b] σ σ' := by
  have lp : ∀ (m i : Nat) (τ : zS), i + m = 35 → (∀ j, j < i → τ b j = σ a j) → (∀ j, j < 35 → τ a j = σ a j) → ∃ σ' : zS, zq d mX3_copies 2 [some (zR (some a)), some (zR (some b)), some (zI i)] [] τ = some (none, σ') ∧ (∀ j, j < 35 → σ' b j = σ a j) ∧ zFr [b] τ σ' := by
    intro m
    induction m with
    | zero =>
      intro i τ hi h1 h2
      refine ⟨τ, ?_, fun j hj => h1 j (by omega), zFr_rf _ _⟩
      rw [b_X3_copies_2 _ _ (zAr_k ha) (zAr_n ha) (zAr_k hb) (zAr_n hb)]
      simp (disch := omega) only [nrm_id, zix, ↓reduceIte, if_true, if_false, true_and, and_true, false_and, and_false, not_true_eq_false, not_false_eq_true, Int.reduceAdd, Int.reduceSub, Int.reduceMul, ↓if_pos, ↓if_neg, Option.bind_some, Option.toList_some, Option.toList_none, List.append_nil, List.cons_append, List.nil_append, znat, znat1, zpm1, zcm1, zof0, zof1, zof2, zof3, zofa0, zofa1]
    | succ m ih =>
      intro i τ hi h1 h2
      rw [b_X3_copies_2 _ _ (zAr_k ha) (zAr_n ha) (zAr_k hb) (zAr_n hb)]
      simp (disch := omega) only [nrm_id, zix, ↓reduceIte, if_true, if_false, true_and, and_true, false_and, and_false, not_true_eq_false, not_false_eq_true, Int.reduceAdd, Int.reduceSub, Int.reduceMul, ↓if_pos, ↓if_neg, Option.bind_some, Option.toList_some, Option.toList_none, List.append_nil, List.cons_append, List.nil_append, znat, znat1, zpm1, zcm1, zof0, zof1, zof2, zof3, zofa0, zofa1]
      obtain ⟨σ', g1, g2, g3⟩ := ih (i + 1) (zup τ b i (τ a i)) (by omega) (fun j hj => by
        by_cases e : j = i
        · subst e; rw [zup_at]; exact h2 j (by omega)
        · rw [zup_ix e]; exact h1 j (by omega)) (fun j hj => by
        by_cases e : a = b
        · subst e
          by_cases e2 : j = i
          · subst e2; rw [zup_at]; exact h2 j hj
          · rw [zup_ix e2]; exact h2 j hj
        · rw [zup_ne e]; exact h2 j hj)
      exact ⟨σ', g1, g2, zFr_tr (zFr_up (by simp)) g3⟩
  obtain ⟨σ', g1, g2, g3⟩ := lp 35 0 σ rfl (fun j hj => by omega) (fun _ _ => rfl)
  exact ⟨σ', by rw [e_X3_copies _ (zAr_k ha) (zAr_n ha) (zAr_k hb) (zAr_n hb)]; exact g1, g2, g3⟩
theorem AbsM_copy {σ σ' : zS} {b : Nat} (h : AbsM σ a K) (hc : ∀ i, i < 35 → σ' b i = σ a i) : AbsM σ' b K := by
  obtain ⟨h0, h1, e1, e2, e3, e5⟩ := h
  exact ⟨by rw [hc _ (by omega)]; exact h0, by rw [hc _ (by omega)]; exact h1, fun r hr => by rw [hc _ (by omega)]; exact e1 r hr, fun r hr => by rw [hc _ (by omega)]; exact e2 r hr, fun r hr => by rw [hc _ (by omega)]; exact e3 r hr, fun r hr => by rw [hc _ (by omega)]; exact e5 r hr⟩
theorem r_can (d : Nat) (ha : zAr a) (h : AbsM σ a K) (hO : mOk K) {r : Nat} (hr : r < K.1) : zc (d + 1) mX3_can [zR (some a), zI r] σ = some (some (zI (mcan K r)), σ) := by
  have hp := hO.1
  have hb := hO.2.2.2.2.2 r (by omega)
  have e5 := h.2.2.2.2.2 r (by omega)
  rw [e_X3_can _ _ (zAr_k ha) (zAr_n ha), h.1]
  unfold mcan
  by_cases q : r + 1 < K.1
  · have hk := hO.2.2.1 (r + 1) (by omega)
    have hf := hO.2.2.2.1 (r + 1) (by omega)
    have e1 := h.2.2.1 (r + 1) (by omega)
    have e2 := h.2.2.2.1 (r + 1) (by omega)
    have e3 := mknees_rng (k := K.2.2.1 (r + 1)) hf.1 hf.2
    rcases hb.1 with e | e
    · simp (disch := omega) only [nrm_id, zix, ↓reduceIte, if_true, if_false, true_and, and_true, false_and, and_false, not_true_eq_false, not_false_eq_true, Int.reduceAdd, Int.reduceSub, Int.reduceMul, ↓if_pos, ↓if_neg, Option.bind_some, Option.toList_some, Option.toList_none, List.append_nil, List.cons_append, List.nil_append, znat, znat1, zpm1, zcm1, zof0, zof1, zof2, zof3, zofa0, zofa1, r_of, b_X3_can_15 _ _ _ (zAr_k ha) (zAr_n ha), e5, e, b_X3_can_33 _ _ _ _ _ (zAr_k ha) (zAr_n ha), e1, b_X3_can_42 _ _ _ _ _ _ (zAr_k ha) (zAr_n ha), e2, s_kneesM, b_X3_can_46 _ _ _ _ _ (zAr_k ha) (zAr_n ha), s_most, b_X3_can_50 _ _ _ (zAr_k ha) (zAr_n ha)]
    · simp (disch := omega) only [nrm_id, zix, ↓reduceIte, if_true, if_false, true_and, and_true, false_and, and_false, not_true_eq_false, not_false_eq_true, Int.reduceAdd, Int.reduceSub, Int.reduceMul, ↓if_pos, ↓if_neg, Option.bind_some, Option.toList_some, Option.toList_none, List.append_nil, List.cons_append, List.nil_append, znat, znat1, zpm1, zcm1, zof0, zof1, zof2, zof3, zofa0, zofa1, r_of, b_X3_can_15 _ _ _ (zAr_k ha) (zAr_n ha), e5, e]
  · simp (disch := omega) only [nrm_id, zix, ↓reduceIte, if_true, if_false, true_and, and_true, false_and, and_false, not_true_eq_false, not_false_eq_true, Int.reduceAdd, Int.reduceSub, Int.reduceMul, ↓if_pos, ↓if_neg, Option.bind_some, Option.toList_some, Option.toList_none, List.append_nil, List.cons_append, List.nil_append, znat, znat1, zpm1, zcm1, zof0, zof1, zof2, zof3, zofa0, zofa1]
theorem r_worthOf (d : Nat) (ha : zAr a) (h : AbsM σ a K) (hO : mOk K) {r : Nat} (hr : r < 8) : zc (d + 2) mX3_worthOf [zR (some a), zI r] σ = some (some (zI (mwo K r)), σ) := by
  have hk := hO.2.2.1 r hr
  have hf := hO.2.2.2.1 r hr
  have e1 := h.2.2.1 r hr
  have e2 := h.2.2.2.1 r hr
  have hh := hO.2.1
  rw [e_X3_worthOf _ _ (zAr_k ha) (zAr_n ha)]
  simp (disch := omega) only [nrm_id, zix, ↓reduceIte, if_true, if_false, true_and, and_true, false_and, and_false, not_true_eq_false, not_false_eq_true, Int.reduceAdd, Int.reduceSub, Int.reduceMul, ↓if_pos, ↓if_neg, Option.bind_some, Option.toList_some, Option.toList_none, List.append_nil, List.cons_append, List.nil_append, znat, znat1, zpm1, zcm1, zof0, zof1, zof2, zof3, zofa0, zofa1, r_of, b_X3_worthOf_6 _ _ _ (zAr_k ha) (zAr_n ha), e1, b_X3_worthOf_13 _ _ _ _ (zAr_k ha) (zAr_n ha), e2, h.2.1, s_worthM, b_X3_worthOf_20 _ _ _ (zAr_k ha) (zAr_n ha)]
  rfl
theorem r_room (d : Nat) (ha : zAr a) (h : AbsM σ a K) (hO : mOk K) {r : Nat} (hr : r < 8) : zc (d + 1) mX3_room [zR (some a), zI r] σ = some (some (zI (mroom K r)), σ) := by
  have e3 := h.2.2.2.2.1 r hr
  rw [e_X3_room _ _ (zAr_k ha) (zAr_n ha)]
  unfold mroom mah
  cases r with
  | zero =>
    simp (disch := omega) only [nrm_id, zix, ↓reduceIte, if_true, if_false, true_and, and_true, false_and, and_false, not_true_eq_false, not_false_eq_true, Int.reduceAdd, Int.reduceSub, Int.reduceMul, ↓if_pos, ↓if_neg, Option.bind_some, Option.toList_some, Option.toList_none, List.append_nil, List.cons_append, List.nil_append, znat, znat1, zpm1, zcm1, zof0, zof1, zof2, zof3, zofa0, zofa1, r_of, b_X3_room_8 _ _ _ _ (zAr_k ha) (zAr_n ha), e3]
  | succ r =>
    have e4 := h.2.2.2.2.1 r (by omega)
    have hz : (3 + 4 * (r : Int) + 2).toNat = 5 + 4 * r := by omega
    simp (disch := omega) only [nrm_id, zix, ↓reduceIte, if_true, if_false, true_and, and_true, false_and, and_false, not_true_eq_false, not_false_eq_true, Int.reduceAdd, Int.reduceSub, Int.reduceMul, ↓if_pos, ↓if_neg, Option.bind_some, Option.toList_some, Option.toList_none, List.append_nil, List.cons_append, List.nil_append, znat, znat1, zpm1, zcm1, zof0, zof1, zof2, zof3, zofa0, zofa1, r_of, b_X3_room_8 _ _ _ _ (zAr_k ha) (zAr_n ha), e3, b_X3_room_26 _ _ _ _ (zAr_k ha) (zAr_n ha), e4]
    rfl
theorem r_joy (d : Nat) (ha : zAr a) (h : AbsM σ a K) (hO : mOk K) {r : Nat} (hr : r < 8) : zc (d + 3) mX3_joy [zR (some a), zI r] σ = some (some (zI (mjoy K r)), σ) := by
  rw [e_X3_joy _ _ (zAr_k ha) (zAr_n ha)]
  simp (disch := omega) only [nrm_id, zix, ↓reduceIte, if_true, if_false, true_and, and_true, false_and, and_false, not_true_eq_false, not_false_eq_true, Int.reduceAdd, Int.reduceSub, Int.reduceMul, ↓if_pos, ↓if_neg, Option.bind_some, Option.toList_some, Option.toList_none, List.append_nil, List.cons_append, List.nil_append, znat, znat1, zpm1, zcm1, zof0, zof1, zof2, zof3, zofa0, zofa1, r_worthOf _ ha h hO hr, b_X3_joy_5 _ _ _ (zAr_k ha) (zAr_n ha), r_room _ ha h hO hr, b_X3_joy_10 _ _ _ _ (zAr_k ha) (zAr_n ha)]
  unfold mjoy mroom
  rw [show 20 + K.2.2.2.2.1 r - mah K.2.2.2.2.1 r - 20 = K.2.2.2.2.1 r - mah K.2.2.2.2.1 r from by omega]
theorem r_joyAll (d : Nat) (ha : zAr a) (h : AbsM σ a K) (hO : mOk K) : zc (d + 4) mX3_joyAll [zR (some a)] σ = some (some (zI (msum (mjoy K) K.1)), σ) := by
  have hp := hO.1
  have lp : ∀ n i : Nat, i + n = K.1 → zq (d + 4) mX3_joyAll 4 [some (zR (some a)), some (zI (msum (mjoy K) i)), some (zI i)] [] σ = some (some (zI (msum (mjoy K) K.1)), σ) := by
    intro n
    induction n with
    | zero => intro i hi; rw [b_X3_joyAll_4 _ _ _ (zAr_k ha) (zAr_n ha), h.1, show i = K.1 from by omega]; simp (disch := omega) only [nrm_id, zix, ↓reduceIte, if_true, if_false, true_and, and_true, false_and, and_false, not_true_eq_false, not_false_eq_true, Int.reduceAdd, Int.reduceSub, Int.reduceMul, ↓if_pos, ↓if_neg, Option.bind_some, Option.toList_some, Option.toList_none, List.append_nil, List.cons_append, List.nil_append, znat, znat1, zpm1, zcm1, zof0, zof1, zof2, zof3, zofa0, zofa1]
    | succ n ih =>
      intro i hi
      rw [b_X3_joyAll_4 _ _ _ (zAr_k ha) (zAr_n ha), h.1]
      simp (disch := omega) only [nrm_id, zix, ↓reduceIte, if_true, if_false, true_and, and_true, false_and, and_false, not_true_eq_false, not_false_eq_true, Int.reduceAdd, Int.reduceSub, Int.reduceMul, ↓if_pos, ↓if_neg, Option.bind_some, Option.toList_some, Option.toList_none, List.append_nil, List.cons_append, List.nil_append, znat, znat1, zpm1, zcm1, zof0, zof1, zof2, zof3, zofa0, zofa1, r_joy _ ha h hO (show i < 8 from by omega), b_X3_joyAll_17 _ _ _ _ _ (zAr_k ha) (zAr_n ha)]
      exact ih (i + 1) (by omega)
  rw [e_X3_joyAll _ (zAr_k ha) (zAr_n ha)]
  exact lp K.1 0 (by omega)
theorem r_tipsAll (d : Nat) (ha : zAr a) (h : AbsM σ a K) (hO : mOk K) : zc (d + 1) mX3_tipsAll [zR (some a)] σ = some (some (zI (msum K.2.2.2.2.1 K.1)), σ) := by
  have hp := hO.1
  have lp : ∀ n i : Nat, i + n = K.1 → zq (d + 1) mX3_tipsAll 4 [some (zR (some a)), some (zI (msum K.2.2.2.2.1 i)), some (zI i)] [] σ = some (some (zI (msum K.2.2.2.2.1 K.1)), σ) := by
    intro n
    induction n with
    | zero => intro i hi; rw [b_X3_tipsAll_4 _ _ _ (zAr_k ha) (zAr_n ha), h.1, show i = K.1 from by omega]; simp (disch := omega) only [nrm_id, zix, ↓reduceIte, if_true, if_false, true_and, and_true, false_and, and_false, not_true_eq_false, not_false_eq_true, Int.reduceAdd, Int.reduceSub, Int.reduceMul, ↓if_pos, ↓if_neg, Option.bind_some, Option.toList_some, Option.toList_none, List.append_nil, List.cons_append, List.nil_append, znat, znat1, zpm1, zcm1, zof0, zof1, zof2, zof3, zofa0, zofa1]
    | succ n ih =>
      intro i hi
      have e3 := h.2.2.2.2.1 i (by omega)
      rw [b_X3_tipsAll_4 _ _ _ (zAr_k ha) (zAr_n ha), h.1]
      simp (disch := omega) only [nrm_id, zix, ↓reduceIte, if_true, if_false, true_and, and_true, false_and, and_false, not_true_eq_false, not_false_eq_true, Int.reduceAdd, Int.reduceSub, Int.reduceMul, ↓if_pos, ↓if_neg, Option.bind_some, Option.toList_some, Option.toList_none, List.append_nil, List.cons_append, List.nil_append, znat, znat1, zpm1, zcm1, zof0, zof1, zof2, zof3, zofa0, zofa1, r_of, b_X3_tipsAll_18 _ _ _ _ _ (zAr_k ha) (zAr_n ha), e3]
      exact ih (i + 1) (by omega)
  rw [e_X3_tipsAll _ (zAr_k ha) (zAr_n ha)]
  exact lp K.1 0 (by omega)
theorem zor_0 {x : Int} (h : 0 ≤ x ∧ x < 256) : zor x 0 = x := by
  obtain ⟨n, rfl⟩ := Int.eq_ofNat_of_zero_le h.1
  have := zor_nat (n := n) (m := 0) (by omega) (by omega)
  simpa using this
theorem mtip_rng (t : Nat → Int) : ∀ n, n ≤ 8 → 0 ≤ mtip t n ∧ mtip t n < 256 := by
  intro n
  induction n with
  | zero => intro _; simp [mtip]
  | succ n ih =>
    intro hn
    have h1 := ih (by omega)
    rw [mtip_succ]
    split
    · exact h1
    · have : (2 ^ n : Nat) < 256 := Nat.pow_lt_pow_right (by omega) (show n < 8 by omega)
      rw [zshl1 n (by omega)]
      generalize (2 ^ n : Nat) = w at this ⊢
      exact zor_rng h1 (by omega)
theorem r_tipping (d : Nat) (ha : zAr a) (h : AbsM σ a K) (hO : mOk K) : zc (d + 1) mX3_tipping [zR (some a)] σ = some (some (zI (mtip K.2.2.2.2.1 K.1)), σ) := by
  have hp := hO.1
  have lp : ∀ n i : Nat, i + n = K.1 → zq (d + 1) mX3_tipping 4 [some (zR (some a)), some (zI (mtip K.2.2.2.2.1 i)), some (zI i)] [] σ = some (some (zI (mtip K.2.2.2.2.1 K.1)), σ) := by
    intro n
    induction n with
    | zero => intro i hi; rw [b_X3_tipping_4 _ _ _ (zAr_k ha) (zAr_n ha), h.1, show i = K.1 from by omega]; simp (disch := omega) only [nrm_id, zix, ↓reduceIte, if_true, if_false, true_and, and_true, false_and, and_false, not_true_eq_false, not_false_eq_true, Int.reduceAdd, Int.reduceSub, Int.reduceMul, ↓if_pos, ↓if_neg, Option.bind_some, Option.toList_some, Option.toList_none, List.append_nil, List.cons_append, List.nil_append, znat, znat1, zpm1, zcm1, zof0, zof1, zof2, zof3, zofa0, zofa1]
    | succ n ih =>
      intro i hi
      have e3 := h.2.2.2.2.1 i (by omega)
      have ht := hO.2.2.2.2.1 i (by omega)
      have e4 := ih (i + 1) (by omega)
      have hm := mtip_rng K.2.2.2.2.1 i (by omega)
      rw [b_X3_tipping_4 _ _ _ (zAr_k ha) (zAr_n ha), h.1]
      rw [mtip_succ] at e4
      by_cases q : K.2.2.2.2.1 i ≤ 0
      · rw [if_pos q] at e4
        simp (disch := omega) only [nrm_id, zix, ↓reduceIte, if_true, if_false, true_and, and_true, false_and, and_false, not_true_eq_false, not_false_eq_true, Int.reduceAdd, Int.reduceSub, Int.reduceMul, ↓if_pos, ↓if_neg, Option.bind_some, Option.toList_some, Option.toList_none, List.append_nil, List.cons_append, List.nil_append, znat, znat1, zpm1, zcm1, zof0, zof1, zof2, zof3, zofa0, zofa1, r_of, b_X3_tipping_18 _ _ _ _ _ (zAr_k ha) (zAr_n ha), e3, b_X3_tipping_29 _ _ _ _ (zAr_k ha) (zAr_n ha), zor_0 hm]
        exact e4
      · rw [if_neg q] at e4
        simp (disch := omega) only [nrm_id, zix, ↓reduceIte, if_true, if_false, true_and, and_true, false_and, and_false, not_true_eq_false, not_false_eq_true, Int.reduceAdd, Int.reduceSub, Int.reduceMul, ↓if_pos, ↓if_neg, Option.bind_some, Option.toList_some, Option.toList_none, List.append_nil, List.cons_append, List.nil_append, znat, znat1, zpm1, zcm1, zof0, zof1, zof2, zof3, zofa0, zofa1, r_of, b_X3_tipping_18 _ _ _ _ _ (zAr_k ha) (zAr_n ha), e3, b_X3_tipping_29 _ _ _ _ (zAr_k ha) (zAr_n ha)]
        exact e4
  rw [e_X3_tipping _ (zAr_k ha) (zAr_n ha)]
  exact lp K.1 0 (by omega)
/-- a round in which the rows of B look round -/
def mrtS (K : zK) (B : Int) : Nat → Int := fun r => if r < K.1 then (if mbit B r = 1 then 0 else mnew K K.2.2.2.2.1 r) else K.2.2.2.2.1 r
theorem r_round (d : Nat) (ha : zAr a) (h : AbsM σ a K) (hO : mOk K) {B : Int} (hB : 0 ≤ B ∧ B < 256) : ∃ σ' : zS, zc (d + 2) mX3_round [zR (some 36), zR (some a), zI B] σ = some (none, σ') ∧ AbsM σ' a (Kst K (mrtS K B)) ∧ σ' a 2 = σ a 2 + 1 ∧ zFr [a, 41] σ σ' := by
  have hp := hO.1
  have ha41 := zAr_41 ha
  have hN := hO.2.1
  have l1 : ∀ (m i : Nat) (τ : zS), i + m = K.1 → AbsM τ a K → (∀ r, r < i → τ 41 r = K.2.2.2.2.1 r) → ∃ σ' : zS, zq (d + 2) mX3_round 9 [some (zR (some 36)), some (zR (some a)), some (zI B), some (zI i), none] [] τ = zq (d + 2) mX3_round 37 [some (zR (some 36)), some (zR (some a)), some (zI B), some (zI 0), none] [] σ' ∧ AbsM σ' a K ∧ (∀ r, r < K.1 → σ' 41 r = K.2.2.2.2.1 r) ∧ zFr [41] τ σ' := by
    intro m
    induction m with
    | zero =>
      intro i τ hi hA hl
      refine ⟨τ, ?_, hA, fun r hr => hl r (by omega), zFr_rf _ _⟩
      rw [b_X3_round_9 _ _ _ (zAr_k ha) (zAr_n ha), hA.1]
      simp (disch := omega) only [nrm_id, zix, ↓reduceIte, if_true, if_false, true_and, and_true, false_and, and_false, not_true_eq_false, not_false_eq_true, Int.reduceAdd, Int.reduceSub, Int.reduceMul, ↓if_pos, ↓if_neg, Option.bind_some, Option.toList_some, Option.toList_none, List.append_nil, List.cons_append, List.nil_append, znat, znat1, zpm1, zcm1, zof0, zof1, zof2, zof3, zofa0, zofa1]
    | succ m ih =>
      intro i τ hi hA hl
      have e3 := hA.2.2.2.2.1 i (by omega)
      rw [b_X3_round_9 _ _ _ (zAr_k ha) (zAr_n ha), hA.1]
      simp (disch := omega) only [nrm_id, zix, ↓reduceIte, if_true, if_false, true_and, and_true, false_and, and_false, not_true_eq_false, not_false_eq_true, Int.reduceAdd, Int.reduceSub, Int.reduceMul, ↓if_pos, ↓if_neg, Option.bind_some, Option.toList_some, Option.toList_none, List.append_nil, List.cons_append, List.nil_append, znat, znat1, zpm1, zcm1, zof0, zof1, zof2, zof3, zofa0, zofa1, r_of, b_X3_round_27 _ _ _ _ _ (zAr_k ha) (zAr_n ha), e3]
      obtain ⟨σ', g1, g2, g3, g4⟩ := ih (i + 1) (zup τ 41 i (K.2.2.2.2.1 i)) (by omega) (AbsM_fr hA (zup_ne ha41)) (fun r hr => by
        by_cases e : r = i
        · subst e; rw [zup_at]
        · rw [zup_ix e]; exact hl r (by omega))
      exact ⟨σ', g1, g2, g3, zFr_tr (zFr_up (by simp)) g4⟩
  have l2 : ∀ (m i : Nat) (τ : zS), i + m = K.1 → AbsM τ a (Kst K (fun r => if r < i then mrtS K B r else K.2.2.2.2.1 r)) → (∀ r, r < K.1 → τ 41 r = K.2.2.2.2.1 r) → ∃ σ' : zS, zq (d + 2) mX3_round 37 [some (zR (some 36)), some (zR (some a)), some (zI B), some (zI i), none] [] τ = some (none, σ') ∧ AbsM σ' a (Kst K (mrtS K B)) ∧ σ' a 2 = τ a 2 ∧ zFr [a] τ σ' := by
    intro m
    induction m with
    | zero =>
      intro i τ hi hA hl
      refine ⟨τ, ?_, AbsM_cong2 hA (fun r hr => ?_), rfl, zFr_rf _ _⟩
      · rw [b_X3_round_37 _ _ _ (zAr_k ha) (zAr_n ha), hA.1]
        simp (disch := omega) only [nrm_id, zix, ↓reduceIte, if_true, if_false, true_and, and_true, false_and, and_false, not_true_eq_false, not_false_eq_true, Int.reduceAdd, Int.reduceSub, Int.reduceMul, ↓if_pos, ↓if_neg, Option.bind_some, Option.toList_some, Option.toList_none, List.append_nil, List.cons_append, List.nil_append, znat, znat1, zpm1, zcm1, zof0, zof1, zof2, zof3, zofa0, zofa1]
      · by_cases q : r < i
        · rw [if_pos q]
        · rw [if_neg q]; unfold mrtS; rw [if_neg (by omega)]
    | succ m ih =>
      intro i τ hi hA hl
      have hk := hO.2.2.1 i (by omega)
      have hf := hO.2.2.2.1 i (by omega)
      have e1 := hA.2.2.1 i (by omega)
      have e2 := hA.2.2.2.1 i (by omega)
      dsimp only at e1 e2
      have hcan : zc (d + 1) mX3_can [zR (some a), zI i] τ = some (some (zI (mcan K i)), τ) := by
        have hO2 : mOk (Kst K (fun r => if r < i then mrtS K B r else K.2.2.2.2.1 r)) ∨ True := Or.inr trivial
        have h2 := hA
        have hb := hO.2.2.2.2.2 i (by omega)
        have e5 := hA.2.2.2.2.2 i (by omega)
        dsimp only at e5
        rw [e_X3_can _ _ (zAr_k ha) (zAr_n ha), hA.1]
        unfold mcan
        by_cases q : i + 1 < K.1
        · have hk := hO.2.2.1 (i + 1) (by omega)
          have hf := hO.2.2.2.1 (i + 1) (by omega)
          have e1 := hA.2.2.1 (i + 1) (by omega)
          have e2 := hA.2.2.2.1 (i + 1) (by omega)
          dsimp only at e1 e2
          have e3 := mknees_rng (k := K.2.2.1 (i + 1)) hf.1 hf.2
          rcases hb.1 with e | e
          · simp (disch := omega) only [nrm_id, zix, ↓reduceIte, if_true, if_false, true_and, and_true, false_and, and_false, not_true_eq_false, not_false_eq_true, Int.reduceAdd, Int.reduceSub, Int.reduceMul, ↓if_pos, ↓if_neg, Option.bind_some, Option.toList_some, Option.toList_none, List.append_nil, List.cons_append, List.nil_append, znat, znat1, zpm1, zcm1, zof0, zof1, zof2, zof3, zofa0, zofa1, r_of, b_X3_can_15 _ _ _ (zAr_k ha) (zAr_n ha), e5, e, b_X3_can_33 _ _ _ _ _ (zAr_k ha) (zAr_n ha), e1, b_X3_can_42 _ _ _ _ _ _ (zAr_k ha) (zAr_n ha), e2, s_kneesM, b_X3_can_46 _ _ _ _ _ (zAr_k ha) (zAr_n ha), s_most, b_X3_can_50 _ _ _ (zAr_k ha) (zAr_n ha)]
          · simp (disch := omega) only [nrm_id, zix, ↓reduceIte, if_true, if_false, true_and, and_true, false_and, and_false, not_true_eq_false, not_false_eq_true, Int.reduceAdd, Int.reduceSub, Int.reduceMul, ↓if_pos, ↓if_neg, Option.bind_some, Option.toList_some, Option.toList_none, List.append_nil, List.cons_append, List.nil_append, znat, znat1, zpm1, zcm1, zof0, zof1, zof2, zof3, zofa0, zofa1, r_of, b_X3_can_15 _ _ _ (zAr_k ha) (zAr_n ha), e5, e]
        · simp (disch := omega) only [nrm_id, zix, ↓reduceIte, if_true, if_false, true_and, and_true, false_and, and_false, not_true_eq_false, not_false_eq_true, Int.reduceAdd, Int.reduceSub, Int.reduceMul, ↓if_pos, ↓if_neg, Option.bind_some, Option.toList_some, Option.toList_none, List.append_nil, List.cons_append, List.nil_append, znat, znat1, zpm1, zcm1, zof0, zof1, zof2, zof3, zofa0, zofa1]
      have hra := mah_rng hO (r := i) (by omega)
      have hcn := mcan_rng hO (r := i) (by omega)
      have hw := mwant_rng (k := K.2.2.1 i) (n := mN K.2.1) hf.1 hf.2 hra.1 hra.2
      have e41 : zq (d + 2) mX3_round 62 [some (zR (some 36)), some (zR (some a)), some (zI B), some (zI i), none] [zI (3 + 4 * (i : Int) + 1), zR (some a), zI (K.2.2.1 i), zI (mcan K i)] τ = zq (d + 2) mX3_round 79 [some (zR (some 36)), some (zR (some a)), some (zI B), some (zI i), none] [zI (mah K.2.2.2.2.1 i), zI (K.2.2.2.1 i), zI (K.2.2.1 i), zI (mcan K i)] τ := by
        rw [b_X3_round_62 _ _ _ _ _ _ (zAr_k ha) (zAr_n ha)]
        unfold mah
        cases i with
        | zero => simp (disch := omega) only [nrm_id, zix, ↓reduceIte, if_true, if_false, true_and, and_true, false_and, and_false, not_true_eq_false, not_false_eq_true, Int.reduceAdd, Int.reduceSub, Int.reduceMul, ↓if_pos, ↓if_neg, Option.bind_some, Option.toList_some, Option.toList_none, List.append_nil, List.cons_append, List.nil_append, znat, znat1, zpm1, zcm1, zof0, zof1, zof2, zof3, zofa0, zofa1, e2]
        | succ j =>
          have e6 := hl j (by omega)
          simp (disch := omega) only [nrm_id, zix, ↓reduceIte, if_true, if_false, true_and, and_true, false_and, and_false, not_true_eq_false, not_false_eq_true, Int.reduceAdd, Int.reduceSub, Int.reduceMul, ↓if_pos, ↓if_neg, Option.bind_some, Option.toList_some, Option.toList_none, List.append_nil, List.cons_append, List.nil_append, znat, znat1, zpm1, zcm1, zof0, zof1, zof2, zof3, zofa0, zofa1, e2, e6]
          rfl
      rw [b_X3_round_37 _ _ _ (zAr_k ha) (zAr_n ha), hA.1]
      simp (disch := omega) only [nrm_id, zix, ↓reduceIte, if_true, if_false, true_and, and_true, false_and, and_false, not_true_eq_false, not_false_eq_true, Int.reduceAdd, Int.reduceSub, Int.reduceMul, ↓if_pos, ↓if_neg, Option.bind_some, Option.toList_some, Option.toList_none, List.append_nil, List.cons_append, List.nil_append, znat, znat1, zpm1, zcm1, zof0, zof1, zof2, zof3, zofa0, zofa1, hcan, b_X3_round_49 _ _ _ _ (zAr_k ha) (zAr_n ha), r_of, b_X3_round_55 _ _ _ _ _ (zAr_k ha) (zAr_n ha), e1, e41, b_X3_round_79 _ _ _ _ _ _ _ (zAr_k ha) (zAr_n ha), hA.2.1, s_wantM, b_X3_round_85 _ _ _ _ _ (zAr_k ha) (zAr_n ha), s_least, b_X3_round_88 _ _ _ _ (zAr_k ha) (zAr_n ha), b_X3_round_96 _ _ _ _ _ (zAr_k ha) (zAr_n ha), r_has _ _ hB.1 hB.2 (show i < 8 from by omega), b_X3_round_101 _ _ _ _ _ _ (zAr_k ha) (zAr_n ha)]
      have enew : (if mwant (K.2.2.1 i) (K.2.2.2.1 i) (mah K.2.2.2.2.1 i) (mN K.2.1) ≤ mcan K i then mwant (K.2.2.1 i) (K.2.2.2.1 i) (mah K.2.2.2.2.1 i) (mN K.2.1) else mcan K i) = mnew K K.2.2.2.2.1 i := by
        rw [mnew_def]
        by_cases q : mwant (K.2.2.1 i) (K.2.2.2.1 i) (mah K.2.2.2.2.1 i) (mN K.2.1) ≤ mcan K i
        · rw [if_pos q, if_neg (by omega)]
        · rw [if_neg q, if_pos (by omega)]
      rw [enew]
      have key : ∀ v : Int, v = mrtS K B i → ∃ σ' : zS, zq (d + 2) mX3_round 110 [some (zR (some 36)), some (zR (some a)), some (zI B), some (zI i), none] [zI v, zI (3 + 4 * (i : Int) + 2), zR (some a)] τ = some (none, σ') ∧ AbsM σ' a (Kst K (mrtS K B)) ∧ σ' a 2 = τ a 2 ∧ zFr [a] τ σ' := by
        intro v hv
        subst hv
        rw [b_X3_round_110 _ _ _ _ _ (zAr_k ha) (zAr_n ha)]
        simp (disch := omega) only [nrm_id, zix, ↓reduceIte, if_true, if_false, true_and, and_true, false_and, and_false, not_true_eq_false, not_false_eq_true, Int.reduceAdd, Int.reduceSub, Int.reduceMul, ↓if_pos, ↓if_neg, Option.bind_some, Option.toList_some, Option.toList_none, List.append_nil, List.cons_append, List.nil_append, znat, znat1, zpm1, zcm1, zof0, zof1, zof2, zof3, zofa0, zofa1]
        obtain ⟨σ', g1, g2, g3, g4⟩ := ih (i + 1) (zup τ a (5 + 4 * i) (mrtS K B i)) (by omega) (AbsM_cong2 (AbsM_tip hA) (fun r hr => by
          show (if r = i then mrtS K B i else if r < i then mrtS K B r else K.2.2.2.2.1 r) = if r < i + 1 then mrtS K B r else K.2.2.2.2.1 r
          by_cases e : r = i
          · subst e; rw [if_pos rfl, if_pos (by omega)]
          · rw [if_neg e]
            by_cases e' : r < i
            · rw [if_pos e', if_pos (by omega)]
            · rw [if_neg e', if_neg (by omega)])) (fun r hr => by rw [zup_ne (Ne.symm ha41)]; exact hl r hr)
        exact ⟨σ', g1, g2, by rw [g3, zup_ix (by omega)], zFr_tr (zFr_up (by simp)) g4⟩
      have hmS : mrtS K B i = if mbit B i = 1 then 0 else mnew K K.2.2.2.2.1 i := if_pos (by omega)
      rcases mbit_01 B i with q | q
      · rw [q, if_neg (by decide)] at hmS
        simp (disch := omega) only [nrm_id, zix, ↓reduceIte, if_true, if_false, true_and, and_true, false_and, and_false, not_true_eq_false, not_false_eq_true, Int.reduceAdd, Int.reduceSub, Int.reduceMul, ↓if_pos, ↓if_neg, Option.bind_some, Option.toList_some, Option.toList_none, List.append_nil, List.cons_append, List.nil_append, znat, znat1, zpm1, zcm1, zof0, zof1, zof2, zof3, zofa0, zofa1, q]
        exact key _ hmS.symm
      · rw [q, if_pos rfl] at hmS
        simp (disch := omega) only [nrm_id, zix, ↓reduceIte, if_true, if_false, true_and, and_true, false_and, and_false, not_true_eq_false, not_false_eq_true, Int.reduceAdd, Int.reduceSub, Int.reduceMul, ↓if_pos, ↓if_neg, Option.bind_some, Option.toList_some, Option.toList_none, List.append_nil, List.cons_append, List.nil_append, znat, znat1, zpm1, zcm1, zof0, zof1, zof2, zof3, zofa0, zofa1, q]
        exact key _ hmS.symm
  have hA0 : AbsM (zup σ a 2 (σ a 2 + 1)) a K := by
    obtain ⟨h0, h1, e1, e2, e3, e5⟩ := h
    exact ⟨by rw [zup_ix (by omega)]; exact h0, by rw [zup_ix (by omega)]; exact h1, fun r hr => by rw [zup_ix (by omega)]; exact e1 r hr, fun r hr => by rw [zup_ix (by omega)]; exact e2 r hr, fun r hr => by rw [zup_ix (by omega)]; exact e3 r hr, fun r hr => by rw [zup_ix (by omega)]; exact e5 r hr⟩
  obtain ⟨σ1, g1, g2, g3, g4⟩ := l1 K.1 0 _ (by omega) hA0 (fun r hr => by omega)
  obtain ⟨σ2, k1, k2, k3, k4⟩ := l2 K.1 0 σ1 (by omega) (AbsM_cong (K := K) g2 (fun r hr => by simp)) g3
  refine ⟨σ2, ?_, k2, ?_, zFr_tr (zFr_up (by simp)) (zFr_tr (zFr_mono g4 (by simp)) (zFr_mono k4 (by simp)))⟩
  · rw [e_X3_round _ _ (zAr_k ha) (zAr_n ha)]
    exact g1.trans k1
  · rw [k3, g4 a (by simpa using ha41), zup_at]
end REF
