section COACH
variable {c : Nat} {σ : zS} {K : zK}
theorem s_worthAt (d : Nat) (hc : zCo c) (h : AbsC σ c K) (hO : mOk K) {r : Nat} (hr : r < 8) : zc (d + 1) mX0_worthAt [zR (some c), zI r] σ = some (some (zI (mwo K r)), σ) := by
  have hk := hO.2.2.1 r hr
  have hf := hO.2.2.2.1 r hr
  have e1 := h.2.2.1 r hr
  have e2 := h.2.2.2.1 r hr
  have hn := mN_01 K.2.1
  rw [e_X0_worthAt _ _ hc]
  simp (disch := omega) only [nrm_id, zix, ↓reduceIte, if_true, if_false, true_and, and_true, false_and, and_false, not_true_eq_false, not_false_eq_true, Int.reduceAdd, Int.reduceSub, Int.reduceMul, ↓if_pos, ↓if_neg, Option.bind_some, Option.toList_some, Option.toList_none, List.append_nil, List.cons_append, List.nil_append, znat, znat1, zpm1, zcm1, zof0, zof1, zof2, zof3, zofa0, zofa1, s_isNight _ hc h hO, e1, e2, b_X0_worthAt_16 _ _ _ _ _ hc, b_X0_worthAt_19 _ _ _ hc, s_worth]
  rfl
theorem s_tipAhead (d : Nat) (hc : zCo c) (h : AbsC σ c K) {r : Nat} (hr : r < 8) : zc d mX0_tipAhead [zR (some c), zI r] σ = some (some (zI (mah K.2.2.2.2.1 r)), σ) := by
  rw [e_X0_tipAhead _ _ hc]
  cases r with
  | zero => simp (disch := omega) only [nrm_id, zix, ↓reduceIte, if_true, if_false, true_and, and_true, false_and, and_false, not_true_eq_false, not_false_eq_true, Int.reduceAdd, Int.reduceSub, Int.reduceMul, ↓if_pos, ↓if_neg, Option.bind_some, Option.toList_some, Option.toList_none, List.append_nil, List.cons_append, List.nil_append, znat, znat1, zpm1, zcm1, zof0, zof1, zof2, zof3, zofa0, zofa1]; rfl
  | succ r =>
    have e3 := h.2.2.2.2.1 r (by omega)
    simp (disch := omega) only [nrm_id, zix, ↓reduceIte, if_true, if_false, true_and, and_true, false_and, and_false, not_true_eq_false, not_false_eq_true, Int.reduceAdd, Int.reduceSub, Int.reduceMul, ↓if_pos, ↓if_neg, Option.bind_some, Option.toList_some, Option.toList_none, List.append_nil, List.cons_append, List.nil_append, znat, znat1, zpm1, zcm1, zof0, zof1, zof2, zof3, zofa0, zofa1, e3]
    rfl
theorem s_roomAt (d : Nat) (hc : zCo c) (h : AbsC σ c K) {r : Nat} (hr : r < 8) : zc (d + 1) mX0_roomAt [zR (some c), zI r] σ = some (some (zI (mroom K r)), σ) := by
  have e3 := h.2.2.2.2.1 r hr
  rw [e_X0_roomAt _ _ hc]
  simp (disch := omega) only [nrm_id, zix, ↓reduceIte, if_true, if_false, true_and, and_true, false_and, and_false, not_true_eq_false, not_false_eq_true, Int.reduceAdd, Int.reduceSub, Int.reduceMul, ↓if_pos, ↓if_neg, Option.bind_some, Option.toList_some, Option.toList_none, List.append_nil, List.cons_append, List.nil_append, znat, znat1, zpm1, zcm1, zof0, zof1, zof2, zof3, zofa0, zofa1, e3, s_tipAhead _ hc h hr, b_X0_roomAt_14 _ _ _ _ hc]
  rfl
theorem s_joyAt (d : Nat) (hc : zCo c) (h : AbsC σ c K) (hO : mOk K) {r : Nat} (hr : r < 8) : zc (d + 2) mX0_joyAt [zR (some c), zI r] σ = some (some (zI (mjoy K r)), σ) := by
  rw [e_X0_joyAt _ _ hc]
  simp (disch := omega) only [nrm_id, zix, ↓reduceIte, if_true, if_false, true_and, and_true, false_and, and_false, not_true_eq_false, not_false_eq_true, Int.reduceAdd, Int.reduceSub, Int.reduceMul, ↓if_pos, ↓if_neg, Option.bind_some, Option.toList_some, Option.toList_none, List.append_nil, List.cons_append, List.nil_append, znat, znat1, zpm1, zcm1, zof0, zof1, zof2, zof3, zofa0, zofa1, s_worthAt _ hc h hO hr, s_roomAt _ hc h hr, b_X0_joyAt_5 _ _ _ hc, b_X0_joyAt_10 _ _ _ _ hc]
  unfold mjoy mroom
  rw [show 20 + K.2.2.2.2.1 r - mah K.2.2.2.2.1 r - 20 = K.2.2.2.2.1 r - mah K.2.2.2.2.1 r from by omega]
theorem s_allTips (d : Nat) (hc : zCo c) (h : AbsC σ c K) (hO : mOk K) : zc d mX0_allTips [zR (some c)] σ = some (some (zI (msum K.2.2.2.2.1 K.1)), σ) := by
  have hp := hO.1
  have lp : ∀ n i : Nat, i + n = K.1 → zq d mX0_allTips 4 [some (zR (some c)), some (zI (msum K.2.2.2.2.1 i)), some (zI i)] [] σ = some (some (zI (msum K.2.2.2.2.1 K.1)), σ) := by
    intro n
    induction n with
    | zero => intro i hi; rw [b_X0_allTips_4 _ _ _ hc, h.1, show i = K.1 from by omega]; simp (disch := omega) only [nrm_id, zix, ↓reduceIte, if_true, if_false, true_and, and_true, false_and, and_false, not_true_eq_false, not_false_eq_true, Int.reduceAdd, Int.reduceSub, Int.reduceMul, ↓if_pos, ↓if_neg, Option.bind_some, Option.toList_some, Option.toList_none, List.append_nil, List.cons_append, List.nil_append, znat, znat1, zpm1, zcm1, zof0, zof1, zof2, zof3, zofa0, zofa1]
    | succ n ih =>
      intro i hi
      have e3 := h.2.2.2.2.1 i (by omega)
      rw [b_X0_allTips_4 _ _ _ hc, h.1]
      simp (disch := omega) only [nrm_id, zix, ↓reduceIte, if_true, if_false, true_and, and_true, false_and, and_false, not_true_eq_false, not_false_eq_true, Int.reduceAdd, Int.reduceSub, Int.reduceMul, ↓if_pos, ↓if_neg, Option.bind_some, Option.toList_some, Option.toList_none, List.append_nil, List.cons_append, List.nil_append, znat, znat1, zpm1, zcm1, zof0, zof1, zof2, zof3, zofa0, zofa1, e3]
      exact ih (i + 1) (by omega)
  rw [e_X0_allTips _ hc]
  exact lp K.1 0 (by omega)
theorem s_allRoom (d : Nat) (hc : zCo c) (h : AbsC σ c K) (hO : mOk K) : zc (d + 2) mX0_allRoom [zR (some c)] σ = some (some (zI (msum (mroom K) K.1)), σ) := by
  have hp := hO.1
  have lp : ∀ n i : Nat, i + n = K.1 → zq (d + 2) mX0_allRoom 4 [some (zR (some c)), some (zI (msum (mroom K) i)), some (zI i)] [] σ = some (some (zI (msum (mroom K) K.1)), σ) := by
    intro n
    induction n with
    | zero => intro i hi; rw [b_X0_allRoom_4 _ _ _ hc, h.1, show i = K.1 from by omega]; simp (disch := omega) only [nrm_id, zix, ↓reduceIte, if_true, if_false, true_and, and_true, false_and, and_false, not_true_eq_false, not_false_eq_true, Int.reduceAdd, Int.reduceSub, Int.reduceMul, ↓if_pos, ↓if_neg, Option.bind_some, Option.toList_some, Option.toList_none, List.append_nil, List.cons_append, List.nil_append, znat, znat1, zpm1, zcm1, zof0, zof1, zof2, zof3, zofa0, zofa1]
    | succ n ih =>
      intro i hi
      rw [b_X0_allRoom_4 _ _ _ hc, h.1]
      simp (disch := omega) only [nrm_id, zix, ↓reduceIte, if_true, if_false, true_and, and_true, false_and, and_false, not_true_eq_false, not_false_eq_true, Int.reduceAdd, Int.reduceSub, Int.reduceMul, ↓if_pos, ↓if_neg, Option.bind_some, Option.toList_some, Option.toList_none, List.append_nil, List.cons_append, List.nil_append, znat, znat1, zpm1, zcm1, zof0, zof1, zof2, zof3, zofa0, zofa1, s_roomAt _ hc h (show i < 8 from by omega), b_X0_allRoom_18 _ _ _ _ _ hc]
      exact ih (i + 1) (by omega)
  rw [e_X0_allRoom _ hc]
  exact lp K.1 0 (by omega)
theorem s_allJoy (d : Nat) (hc : zCo c) (h : AbsC σ c K) (hO : mOk K) : zc (d + 3) mX0_allJoy [zR (some c)] σ = some (some (zI (msum (mjoy K) K.1)), σ) := by
  have hp := hO.1
  have lp : ∀ n i : Nat, i + n = K.1 → zq (d + 3) mX0_allJoy 4 [some (zR (some c)), some (zI (msum (mjoy K) i)), some (zI i)] [] σ = some (some (zI (msum (mjoy K) K.1)), σ) := by
    intro n
    induction n with
    | zero => intro i hi; rw [b_X0_allJoy_4 _ _ _ hc, h.1, show i = K.1 from by omega]; simp (disch := omega) only [nrm_id, zix, ↓reduceIte, if_true, if_false, true_and, and_true, false_and, and_false, not_true_eq_false, not_false_eq_true, Int.reduceAdd, Int.reduceSub, Int.reduceMul, ↓if_pos, ↓if_neg, Option.bind_some, Option.toList_some, Option.toList_none, List.append_nil, List.cons_append, List.nil_append, znat, znat1, zpm1, zcm1, zof0, zof1, zof2, zof3, zofa0, zofa1]
    | succ n ih =>
      intro i hi
      rw [b_X0_allJoy_4 _ _ _ hc, h.1]
      simp (disch := omega) only [nrm_id, zix, ↓reduceIte, if_true, if_false, true_and, and_true, false_and, and_false, not_true_eq_false, not_false_eq_true, Int.reduceAdd, Int.reduceSub, Int.reduceMul, ↓if_pos, ↓if_neg, Option.bind_some, Option.toList_some, Option.toList_none, List.append_nil, List.cons_append, List.nil_append, znat, znat1, zpm1, zcm1, zof0, zof1, zof2, zof3, zofa0, zofa1, s_joyAt _ hc h hO (show i < 8 from by omega), b_X0_allJoy_18 _ _ _ _ _ hc]
      exact ih (i + 1) (by omega)
  rw [e_X0_allJoy _ hc]
  exact lp K.1 0 (by omega)
/-- which rows tip, as bits -/
def mtip (t : Nat → Int) : Nat → Int
  | 0 => 0
  | n + 1 => if t n ≤ 0 then mtip t n else zor (mtip t n) (zshl 1 n)
theorem mtip_succ (t : Nat → Int) (n : Nat) : mtip t (n + 1) = if t n ≤ 0 then mtip t n else zor (mtip t n) (zshl 1 n) := rfl
theorem s_tippingRows (d : Nat) (hc : zCo c) (h : AbsC σ c K) (hO : mOk K) : zc d mX0_tippingRows [zR (some c)] σ = some (some (zI (mtip K.2.2.2.2.1 K.1)), σ) := by
  have hp := hO.1
  have lp : ∀ n i : Nat, i + n = K.1 → zq d mX0_tippingRows 4 [some (zR (some c)), some (zI (mtip K.2.2.2.2.1 i)), some (zI i)] [] σ = some (some (zI (mtip K.2.2.2.2.1 K.1)), σ) := by
    intro n
    induction n with
    | zero => intro i hi; rw [b_X0_tippingRows_4 _ _ _ hc, h.1, show i = K.1 from by omega]; simp (disch := omega) only [nrm_id, zix, ↓reduceIte, if_true, if_false, true_and, and_true, false_and, and_false, not_true_eq_false, not_false_eq_true, Int.reduceAdd, Int.reduceSub, Int.reduceMul, ↓if_pos, ↓if_neg, Option.bind_some, Option.toList_some, Option.toList_none, List.append_nil, List.cons_append, List.nil_append, znat, znat1, zpm1, zcm1, zof0, zof1, zof2, zof3, zofa0, zofa1]
    | succ n ih =>
      intro i hi
      have e3 := h.2.2.2.2.1 i (by omega)
      have ht := hO.2.2.2.2.1 i (by omega)
      have e4 := ih (i + 1) (by omega)
      rw [b_X0_tippingRows_4 _ _ _ hc, h.1]
      rw [mtip_succ] at e4
      by_cases q : K.2.2.2.2.1 i ≤ 0
      · rw [if_pos q] at e4
        simp (disch := omega) only [nrm_id, zix, ↓reduceIte, if_true, if_false, true_and, and_true, false_and, and_false, not_true_eq_false, not_false_eq_true, Int.reduceAdd, Int.reduceSub, Int.reduceMul, ↓if_pos, ↓if_neg, Option.bind_some, Option.toList_some, Option.toList_none, List.append_nil, List.cons_append, List.nil_append, znat, znat1, zpm1, zcm1, zof0, zof1, zof2, zof3, zofa0, zofa1, e3, b_X0_tippingRows_27 _ _ _ hc]
        exact e4
      · rw [if_neg q] at e4
        simp (disch := omega) only [nrm_id, zix, ↓reduceIte, if_true, if_false, true_and, and_true, false_and, and_false, not_true_eq_false, not_false_eq_true, Int.reduceAdd, Int.reduceSub, Int.reduceMul, ↓if_pos, ↓if_neg, Option.bind_some, Option.toList_some, Option.toList_none, List.append_nil, List.cons_append, List.nil_append, znat, znat1, zpm1, zcm1, zof0, zof1, zof2, zof3, zofa0, zofa1, e3, b_X0_tippingRows_27 _ _ _ hc]
        exact e4
  rw [e_X0_tippingRows _ hc]
  exact lp K.1 0 (by omega)
/-- how many rows one behind the other tip from r on, n rows looked at -/
def mrun (t : Nat → Int) (r : Nat) : Nat → Nat
  | 0 => 0
  | n + 1 => if t r ≤ 0 then 0 else mrun t (r + 1) n + 1
theorem s_tippingFrom (d : Nat) (hc : zCo c) (h : AbsC σ c K) (hO : mOk K) {r : Nat} (hr : r ≤ K.1) : zc d mX0_tippingFrom [zR (some c), zI r] σ = some (some (zI (mrun K.2.2.2.2.1 r (K.1 - r))), σ) := by
  have hp := hO.1
  have lp : ∀ n i : Nat, i + n = K.1 → zq d mX0_tippingFrom 2 [some (zR (some c)), some (zI r), some (zI i)] [] σ = some (some (zI ((i : Int) + mrun K.2.2.2.2.1 i n - r)), σ) := by
    intro n
    induction n with
    | zero => intro i hi; rw [b_X0_tippingFrom_2 _ _ _ hc, h.1, show i = K.1 from by omega]; simp (disch := omega) only [nrm_id, zix, ↓reduceIte, if_true, if_false, true_and, and_true, false_and, and_false, not_true_eq_false, not_false_eq_true, Int.reduceAdd, Int.reduceSub, Int.reduceMul, ↓if_pos, ↓if_neg, Option.bind_some, Option.toList_some, Option.toList_none, List.append_nil, List.cons_append, List.nil_append, znat, znat1, zpm1, zcm1, zof0, zof1, zof2, zof3, zofa0, zofa1]; simp [mrun]
    | succ n ih =>
      intro i hi
      have e3 := h.2.2.2.2.1 i (by omega)
      have ht := hO.2.2.2.2.1 i (by omega)
      have e4 := ih (i + 1) (by omega)
      rw [b_X0_tippingFrom_2 _ _ _ hc, h.1]
      unfold mrun
      by_cases q : K.2.2.2.2.1 i ≤ 0
      · simp (disch := omega) only [nrm_id, zix, ↓reduceIte, if_true, if_false, true_and, and_true, false_and, and_false, not_true_eq_false, not_false_eq_true, Int.reduceAdd, Int.reduceSub, Int.reduceMul, ↓if_pos, ↓if_neg, Option.bind_some, Option.toList_some, Option.toList_none, List.append_nil, List.cons_append, List.nil_append, znat, znat1, zpm1, zcm1, zof0, zof1, zof2, zof3, zofa0, zofa1, e3]
        simp
      · simp (disch := omega) only [nrm_id, zix, ↓reduceIte, if_true, if_false, true_and, and_true, false_and, and_false, not_true_eq_false, not_false_eq_true, Int.reduceAdd, Int.reduceSub, Int.reduceMul, ↓if_pos, ↓if_neg, Option.bind_some, Option.toList_some, Option.toList_none, List.append_nil, List.cons_append, List.nil_append, znat, znat1, zpm1, zcm1, zof0, zof1, zof2, zof3, zofa0, zofa1, e3]
        refine Eq.trans e4 ?_
        congr 4
        omega
  rw [e_X0_tippingFrom _ _ hc, lp (K.1 - r) r (by omega)]
  congr 4
  omega
theorem s_stirs (d : Nat) (hc : zCo c) (hO : mOk K) {s0 : zS} (h0 : AbsC s0 c K) (hl : ∀ r, r < K.1 → s0 (c + 4) r = mcan K r) : ∃ (σ' : zS) (v : Int), zc (d + 2) mX0_roundStirs [zR (some c), zI (mN K.2.1)] s0 = some (some (zI v), σ') ∧ AbsC σ' c (mround K) ∧ zFr [c + 3] s0 σ' ∧ (v = 0 ∨ v = 1) ∧ (v = 0 ↔ mfix K) := by
  have hp := hO.1
  have hn := mN_01 K.2.1
  have lp : ∀ n : Nat, n ≤ K.1 → ∀ (σ : zS) (s : Int) (T : Nat → Int), (s = 0 ∨ s = 1) → AbsC σ c (Kst K T) → (∀ r, r < n → T r = K.2.2.2.2.1 r) → (∀ r, r < K.1 → σ (c + 4) r = mcan K r) →
      ∃ (σ' : zS) (v : Int), zq (d + 2) mX0_roundStirs 9 [some (zR (some c)), some (zI (mN K.2.1)), some (zI s), some (zI ((n : Int) - 1)), none] [] σ = some (some (zI v), σ') ∧ AbsC σ' c (Kst K (fun r => if r < n then mnew K K.2.2.2.2.1 r else T r)) ∧ zFr [c + 3] σ σ' ∧ (v = 0 ∨ v = 1) ∧ (v = 0 ↔ s = 0 ∧ ∀ r, r < n → mnew K K.2.2.2.2.1 r = K.2.2.2.2.1 r) := by
    intro n
    induction n with
    | zero =>
      intro hnK σ s T hs hA hT hL
      refine ⟨σ, s, ?_, AbsC_cong2 hA (fun r _ => by simp), zFr_rf _ _, hs, ⟨fun e => ⟨e, fun r hr => by omega⟩, fun e => e.1⟩⟩
      rw [b_X0_roundStirs_9 _ _ _ _ hc]
      rcases hs with rfl | rfl <;> simp (disch := omega) only [nrm_id, zix, ↓reduceIte, if_true, if_false, true_and, and_true, false_and, and_false, not_true_eq_false, not_false_eq_true, Int.reduceAdd, Int.reduceSub, Int.reduceMul, ↓if_pos, ↓if_neg, Option.bind_some, Option.toList_some, Option.toList_none, List.append_nil, List.cons_append, List.nil_append, znat, znat1, zpm1, zcm1, zof0, zof1, zof2, zof3, zofa0, zofa1] <;> simp [nrm]
    | succ n ih =>
      intro hnK σ s T hs hA hT hL
      have hk := hO.2.2.1 n (by omega)
      have hf := hO.2.2.2.1 n (by omega)
      have e1 := hA.2.2.1 n (by omega)
      have e2 := hA.2.2.2.1 n (by omega)
      have e3 := hA.2.2.2.2.1 n (by omega)
      have e4 := hL n (by omega)
      have hah : mah T n = mah K.2.2.2.2.1 n := by
        unfold mah
        split
        · rfl
        · exact hT (n - 1) (by omega)
      have ha := mah_rng hO (r := n) (by omega)
      have hcn := mcan_rng hO (r := n) (by omega)
      have hw := mwant_rng (k := K.2.2.1 n) (n := mN K.2.1) hf.1 hf.2 ha.1 ha.2
      have hold := hO.2.2.2.2.1 n (by omega)
      have hTn := hT n (by omega)
      have hnew := mnew_rng hO (t := K.2.2.2.2.1) (r := n) (by omega) ha
      dsimp only at e1 e2 e3
      rw [hTn] at e3
      have hta := s_tipAhead (d + 1) hc hA (r := n) (by omega)
      dsimp only at hta
      rw [hah] at hta
      rw [b_X0_roundStirs_9 _ _ _ _ hc]
      simp (disch := omega) only [nrm_id, zix, ↓reduceIte, if_true, if_false, true_and, and_true, false_and, and_false, not_true_eq_false, not_false_eq_true, Int.reduceAdd, Int.reduceSub, Int.reduceMul, ↓if_pos, ↓if_neg, Option.bind_some, Option.toList_some, Option.toList_none, List.append_nil, List.cons_append, List.nil_append, znat, znat1, zpm1, zcm1, zof0, zof1, zof2, zof3, zofa0, zofa1, hta, e1, e2, b_X0_roundStirs_30 _ _ _ _ _ _ _ hc, s_want, b_X0_roundStirs_34 _ _ _ _ _ hc, e3, e4]
      rw [← mnew_def K K.2.2.2.2.1 n]
      by_cases q : mnew K K.2.2.2.2.1 n = K.2.2.2.2.1 n
      · simp (disch := omega) only [nrm_id, zix, ↓reduceIte, if_true, if_false, true_and, and_true, false_and, and_false, not_true_eq_false, not_false_eq_true, Int.reduceAdd, Int.reduceSub, Int.reduceMul, ↓if_pos, ↓if_neg, Option.bind_some, Option.toList_some, Option.toList_none, List.append_nil, List.cons_append, List.nil_append, znat, znat1, zpm1, zcm1, zof0, zof1, zof2, zof3, zofa0, zofa1, b_X0_roundStirs_66 _ _ _ _ hc, zam1]
        obtain ⟨σ', v, g1, g2, g3, g4, g5⟩ := ih (by omega) σ s T hs hA (fun r hr => hT r (by omega)) hL
        refine ⟨σ', v, g1, AbsC_cong2 g2 (fun r hr => ?_), g3, g4, g5.trans ⟨fun e => ⟨e.1, fun r hr => ?_⟩, fun e => ⟨e.1, fun r hr => e.2 r (by omega)⟩⟩⟩
        · by_cases e : r = n
          · subst e; rw [if_neg (by omega), if_pos (by omega), hTn, q]
          · by_cases e' : r < n
            · rw [if_pos e', if_pos (by omega)]
            · rw [if_neg e', if_neg (by omega)]
        · by_cases e' : r = n
          · subst e'; exact q
          · exact e.2 r (by omega)
      · simp (disch := omega) only [nrm_id, zix, ↓reduceIte, if_true, if_false, true_and, and_true, false_and, and_false, not_true_eq_false, not_false_eq_true, Int.reduceAdd, Int.reduceSub, Int.reduceMul, ↓if_pos, ↓if_neg, Option.bind_some, Option.toList_some, Option.toList_none, List.append_nil, List.cons_append, List.nil_append, znat, znat1, zpm1, zcm1, zof0, zof1, zof2, zof3, zofa0, zofa1, b_X0_roundStirs_66 _ _ _ _ hc, zam1]
        have hA2 := AbsC_tip hA (r := n) (v := mnew K K.2.2.2.2.1 n)
        have hL2 : ∀ r, r < K.1 → (zup σ (c + 3) n (mnew K K.2.2.2.2.1 n)) (c + 4) r = mcan K r := fun r hr => by rw [zup_ne (by omega)]; exact hL r hr
        obtain ⟨σ', v, g1, g2, g3, g4, g5⟩ := ih (by omega) _ 1 (fun j => if j = n then mnew K K.2.2.2.2.1 n else T j) (Or.inr rfl) hA2 (fun r hr => (if_neg (by omega)).trans (hT r (by omega))) hL2
        refine ⟨σ', v, g1, AbsC_cong2 g2 (fun r hr => ?_), zFr_tr (zFr_up (by simp)) g3, g4, g5.trans ⟨fun e => absurd e.1 (by decide), fun e => absurd (e.2 n (by omega)) q⟩⟩
        by_cases e : r = n
        · subst e; rw [if_neg (by omega), if_pos rfl, if_pos (by omega)]
        · by_cases e' : r < n
          · rw [if_pos e', if_pos (by omega)]
          · rw [if_neg e', if_neg e, if_neg (by omega)]
  obtain ⟨σ', v, e1, e2, e3, e4, e5⟩ := lp K.1 (Nat.le_refl _) s0 0 K.2.2.2.2.1 (Or.inl rfl) h0 (fun _ _ => rfl) hl
  refine ⟨σ', v, ?_, e2, e3, e4, ?_⟩
  · rw [e_X0_roundStirs _ _ hc, h0.1]
    exact e1
  · rw [e5]
    constructor
    · intro e r hr
      unfold mrt
      rw [if_pos hr]
      exact e.2 r hr
    · intro e
      refine ⟨rfl, fun r hr => ?_⟩
      have := e r hr
      unfold mrt at this
      rw [if_pos hr] at this
      exact this
end COACH
