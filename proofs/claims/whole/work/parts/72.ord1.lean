section SYS28
variable {σ : zS} {K : zK} {T : Int}
theorem s_turn (d : Nat) {p : Nat} (hp : p ≤ 6) {a : Nat → Nat} (ha : ∀ i, i < 6 → σ 17 i = (a i : Int)) (hr : ∀ i, i < 6 → a i < 8) : ∀ m, m ≤ p - 1 → zq d mX2_nextSitting 4 [some (zR (some 0)), some (zI p), some (zI ((m : Int) - 1)), none, none, none] [] σ = zq d mX2_nextSitting 31 [some (zR (some 0)), some (zI p), some (zI ((mtn a m : Nat) - 1 : Int)), none, none, none] [] σ := by
  intro m
  induction m with
  | zero =>
    intro hm
    rw [b_X2_nextSitting_4]
    simp (disch := omega) only [nrm_id, zix, ↓reduceIte, if_true, if_false, true_and, and_true, false_and, and_false, not_true_eq_false, not_false_eq_true, Int.reduceAdd, Int.reduceSub, Int.reduceMul, ↓if_pos, ↓if_neg, Option.bind_some, Option.toList_some, Option.toList_none, List.append_nil, List.cons_append, List.nil_append, znat, znat1, zpm1, zcm1, zof0, zof1, zof2, zof3, zofa0, zofa1, mtn]
  | succ m ih =>
    intro hm
    have h1 := ha m (by omega)
    have h2 := ha (m + 1) (by omega)
    have r1 := hr m (by omega)
    have r2 := hr (m + 1) (by omega)
    have k := ih (by omega)
    rw [b_X2_nextSitting_4]
    by_cases q : a m ≤ a (m + 1)
    · have e : mtn a (m + 1) = m + 1 := if_pos q
      rw [e]
      simp (disch := omega) only [nrm_id, zix, ↓reduceIte, if_true, if_false, true_and, and_true, false_and, and_false, not_true_eq_false, not_false_eq_true, Int.reduceAdd, Int.reduceSub, Int.reduceMul, ↓if_pos, ↓if_neg, Option.bind_some, Option.toList_some, Option.toList_none, List.append_nil, List.cons_append, List.nil_append, znat, znat1, zpm1, zcm1, zof0, zof1, zof2, zof3, zofa0, zofa1, h1, h2]
    · have e : mtn a (m + 1) = mtn a m := if_neg q
      rw [e]
      simp (disch := omega) only [nrm_id, zix, ↓reduceIte, if_true, if_false, true_and, and_true, false_and, and_false, not_true_eq_false, not_false_eq_true, Int.reduceAdd, Int.reduceSub, Int.reduceMul, ↓if_pos, ↓if_neg, Option.bind_some, Option.toList_some, Option.toList_none, List.append_nil, List.cons_append, List.nil_append, znat, znat1, zpm1, zcm1, zof0, zof1, zof2, zof3, zofa0, zofa1, h1, h2, zam1]
      exact k
theorem mtn_le (a : Nat → Nat) : ∀ m, mtn a m ≤ m := by
  intro m
  induction m with
  | zero => exact Nat.le_refl _
  | succ m ih =>
    unfold mtn
    split
    · exact Nat.le_refl _
    · omega
theorem mhg_le (a : Nat → Nat) (t : Nat) : ∀ h, mhg a t h ≤ h := by
  intro h
  induction h with
  | zero => exact Nat.le_refl _
  | succ h ih =>
    unfold mhg
    split
    · exact Nat.le_refl _
    · split
      · exact Nat.le_refl _
      · omega
theorem s_higher (d : Nat) {p : Nat} (hp : p ≤ 6) {a : Nat → Nat} (ha : ∀ i, i < 6 → σ 17 i = (a i : Int)) (hr : ∀ i, i < 6 → a i < 8) {t : Nat} (ht : t < 6) : ∀ h, h ≤ p - 1 → h < 6 → zq d mX2_nextSitting 41 [some (zR (some 0)), some (zI p), some (zI t), some (zI h), none, none] [] σ = zq d mX2_nextSitting 67 [some (zR (some 0)), some (zI p), some (zI t), some (zI ((mhg a t h : Nat) : Int)), none, none] [] σ := by
  intro h
  induction h with
  | zero =>
    intro hm h6
    rw [b_X2_nextSitting_41]
    simp (disch := omega) only [nrm_id, zix, ↓reduceIte, if_true, if_false, true_and, and_true, false_and, and_false, not_true_eq_false, not_false_eq_true, Int.reduceAdd, Int.reduceSub, Int.reduceMul, ↓if_pos, ↓if_neg, Option.bind_some, Option.toList_some, Option.toList_none, List.append_nil, List.cons_append, List.nil_append, znat, znat1, zpm1, zcm1, zof0, zof1, zof2, zof3, zofa0, zofa1, mhg]
  | succ h ih =>
    intro hm h6
    have h1 := ha t ht
    have h2 := ha (h + 1) h6
    have r1 := hr t ht
    have r2 := hr (h + 1) h6
    have k := ih (by omega) (by omega)
    rw [b_X2_nextSitting_41]
    by_cases q0 : h + 1 ≤ t
    · have e : mhg a t (h + 1) = h + 1 := if_pos q0
      rw [e]
      simp (disch := omega) only [nrm_id, zix, ↓reduceIte, if_true, if_false, true_and, and_true, false_and, and_false, not_true_eq_false, not_false_eq_true, Int.reduceAdd, Int.reduceSub, Int.reduceMul, ↓if_pos, ↓if_neg, Option.bind_some, Option.toList_some, Option.toList_none, List.append_nil, List.cons_append, List.nil_append, znat, znat1, zpm1, zcm1, zof0, zof1, zof2, zof3, zofa0, zofa1]
    · by_cases q : a t ≤ a (h + 1)
      · have e : mhg a t (h + 1) = h + 1 := by unfold mhg; rw [if_neg q0, if_pos q]
        rw [e]
        simp (disch := omega) only [nrm_id, zix, ↓reduceIte, if_true, if_false, true_and, and_true, false_and, and_false, not_true_eq_false, not_false_eq_true, Int.reduceAdd, Int.reduceSub, Int.reduceMul, ↓if_pos, ↓if_neg, Option.bind_some, Option.toList_some, Option.toList_none, List.append_nil, List.cons_append, List.nil_append, znat, znat1, zpm1, zcm1, zof0, zof1, zof2, zof3, zofa0, zofa1, h1, h2]
      · have e : mhg a t (h + 1) = mhg a t h := by
          show (if h + 1 ≤ t then h + 1 else if a t ≤ a (h + 1) then h + 1 else mhg a t h) = mhg a t h
          rw [if_neg q0, if_neg q]
        have ez : ((h + 1 : Nat) : Int) + (-1) = (h : Int) := by omega
        rw [e]
        simp (disch := omega) only [nrm_id, zix, ↓reduceIte, if_true, if_false, true_and, and_true, false_and, and_false, not_true_eq_false, not_false_eq_true, Int.reduceAdd, Int.reduceSub, Int.reduceMul, ↓if_pos, ↓if_neg, Option.bind_some, Option.toList_some, Option.toList_none, List.append_nil, List.cons_append, List.nil_append, znat, znat1, zpm1, zcm1, zof0, zof1, zof2, zof3, zofa0, zofa1, h1, h2, ez]
        exact k
theorem s_exch (d : Nat) {a : Nat → Nat} (ha : ∀ i, i < 6 → σ 17 i = (a i : Int)) {x y : Nat} (hx : x < 6) (hy : y < 6) : ∃ σ', zc d mX2_exchangeSitting [zR (some 0), zI x, zI y] σ = some (none, σ') ∧ (∀ i, i < 6 → σ' 17 i = (mex a x y i : Int)) ∧ zFr [17] σ σ' := by
  have h1 := ha x hx
  have h2 := ha y hy
  refine ⟨zup (zup σ 17 x (a y : Int)) 17 y (a x : Int), ?_, fun i hi => ?_, zFr_tr (zFr_up (by simp)) (zFr_up (by simp))⟩
  · rw [e_X2_exchangeSitting]
    simp (disch := omega) only [nrm_id, zix, ↓reduceIte, if_true, if_false, true_and, and_true, false_and, and_false, not_true_eq_false, not_false_eq_true, Int.reduceAdd, Int.reduceSub, Int.reduceMul, ↓if_pos, ↓if_neg, Option.bind_some, Option.toList_some, Option.toList_none, List.append_nil, List.cons_append, List.nil_append, znat, znat1, zpm1, zcm1, zof0, zof1, zof2, zof3, zofa0, zofa1, h1, h2]
  · unfold mex
    by_cases e : i = y
    · subst e; rw [zup_at, if_pos rfl]
    · rw [zup_ix e, if_neg e]
      by_cases e2 : i = x
      · subst e2; rw [zup_at, if_pos rfl]
      · rw [zup_ix e2, if_neg e2]; exact ha i hi
theorem s_rev (d : Nat) : ∀ (f : Nat) (a : Nat → Nat) (x y : Nat) (τ : zS), (∀ i, i < 6 → τ 17 i = (a i : Int)) → x ≤ 7 → y < 6 → y ≤ x + 2 * f → ∃ τ', zq (d + 1) mX2_nextSitting 83 [some (zR (some 0)), none, none, none, some (zI x), some (zI y)] [] τ = some (some (zI 1), τ') ∧ (∀ i, i < 6 → τ' 17 i = (mrv f a x y i : Int)) ∧ zFr [17] τ τ' := by
  intro f
  induction f with
  | zero =>
    intro a x y τ ha hx hy hf
    refine ⟨τ, ?_, ha, zFr_rf _ _⟩
    rw [b_X2_nextSitting_83]
    simp (disch := omega) only [nrm_id, zix, ↓reduceIte, if_true, if_false, true_and, and_true, false_and, and_false, not_true_eq_false, not_false_eq_true, Int.reduceAdd, Int.reduceSub, Int.reduceMul, ↓if_pos, ↓if_neg, Option.bind_some, Option.toList_some, Option.toList_none, List.append_nil, List.cons_append, List.nil_append, znat, znat1, zpm1, zcm1, zof0, zof1, zof2, zof3, zofa0, zofa1]
  | succ f ih =>
    intro a x y τ ha hx hy hf
    by_cases q : y ≤ x
    · refine ⟨τ, ?_, fun i hi => ?_, zFr_rf _ _⟩
      · rw [b_X2_nextSitting_83]
        simp (disch := omega) only [nrm_id, zix, ↓reduceIte, if_true, if_false, true_and, and_true, false_and, and_false, not_true_eq_false, not_false_eq_true, Int.reduceAdd, Int.reduceSub, Int.reduceMul, ↓if_pos, ↓if_neg, Option.bind_some, Option.toList_some, Option.toList_none, List.append_nil, List.cons_append, List.nil_append, znat, znat1, zpm1, zcm1, zof0, zof1, zof2, zof3, zofa0, zofa1]
      · unfold mrv
        rw [if_pos q]
        exact ha i hi
    · obtain ⟨τ1, b1, b2, b3⟩ := s_exch d ha (x := x) (y := y) (by omega) hy
      obtain ⟨τ2, k1, k2, k3⟩ := ih (mex a x y) (x + 1) (y - 1) τ1 b2 (by omega) (by omega) (by omega)
      have ey : ((y - 1 : Nat) : Int) = (y : Int) + (-1) := by omega
      rw [ey] at k1
      refine ⟨τ2, ?_, fun i hi => ?_, zFr_tr b3 k3⟩
      · rw [b_X2_nextSitting_83]
        simp (disch := omega) only [nrm_id, zix, ↓reduceIte, if_true, if_false, true_and, and_true, false_and, and_false, not_true_eq_false, not_false_eq_true, Int.reduceAdd, Int.reduceSub, Int.reduceMul, ↓if_pos, ↓if_neg, Option.bind_some, Option.toList_some, Option.toList_none, List.append_nil, List.cons_append, List.nil_append, znat, znat1, zpm1, zcm1, zof0, zof1, zof2, zof3, zofa0, zofa1, b1, b_X2_nextSitting_98]
        exact k1
      · show _ = (((if y ≤ x then a else mrv f (mex a x y) (x + 1) (y - 1)) i : Nat) : Int)
        rw [if_neg q]
        exact k2 i hi
theorem s_nextN (d : Nat) {p : Nat} (hp : p ≤ 6) {a : Nat → Nat} (ha : ∀ i, i < 6 → σ 17 i = (a i : Int)) (hr : ∀ i, i < 6 → a i < 8) (h0 : mtn a (p - 1) = 0) : zc (d + 1) mX2_nextSitting [zR (some 0), zI p] σ = some (some (zI 0), σ) := by
  rw [e_X2_nextSitting]
  cases p with
  | zero =>
    rw [b_X2_nextSitting_4]
    simp (disch := omega) only [nrm_id, zix, ↓reduceIte, if_true, if_false, true_and, and_true, false_and, and_false, not_true_eq_false, not_false_eq_true, Int.reduceAdd, Int.reduceSub, Int.reduceMul, ↓if_pos, ↓if_neg, Option.bind_some, Option.toList_some, Option.toList_none, List.append_nil, List.cons_append, List.nil_append, znat, znat1, zpm1, zcm1, zof0, zof1, zof2, zof3, zofa0, zofa1]
    rw [b_X2_nextSitting_31]
    simp (disch := omega) only [nrm_id, zix, ↓reduceIte, if_true, if_false, true_and, and_true, false_and, and_false, not_true_eq_false, not_false_eq_true, Int.reduceAdd, Int.reduceSub, Int.reduceMul, ↓if_pos, ↓if_neg, Option.bind_some, Option.toList_some, Option.toList_none, List.append_nil, List.cons_append, List.nil_append, znat, znat1, zpm1, zcm1, zof0, zof1, zof2, zof3, zofa0, zofa1]
  | succ n =>
    have k := s_turn (d + 1) hp ha hr n (by omega)
    rw [show n + 1 - 1 = n from rfl] at h0
    rw [h0] at k
    rw [show ((n + 1 : Nat) : Int) - 2 = (n : Int) - 1 from by omega]
    refine Eq.trans k ?_
    rw [b_X2_nextSitting_31]
    simp (disch := omega) only [nrm_id, zix, ↓reduceIte, if_true, if_false, true_and, and_true, false_and, and_false, not_true_eq_false, not_false_eq_true, Int.reduceAdd, Int.reduceSub, Int.reduceMul, ↓if_pos, ↓if_neg, Option.bind_some, Option.toList_some, Option.toList_none, List.append_nil, List.cons_append, List.nil_append, znat, znat1, zpm1, zcm1, zof0, zof1, zof2, zof3, zofa0, zofa1]
theorem s_nextY (d : Nat) {p : Nat} (hp : p ≤ 6) {a : Nat → Nat} (ha : ∀ i, i < 6 → σ 17 i = (a i : Int)) (hr : ∀ i, i < 6 → a i < 8) {t : Nat} (h0 : mtn a (p - 1) = t + 1) : ∃ σ', zc (d + 1) mX2_nextSitting [zR (some 0), zI p] σ = some (some (zI 1), σ') ∧ (∀ i, i < 6 → σ' 17 i = (mnx p a t i : Int)) ∧ zFr [17] σ σ' := by
  have hl := mtn_le a (p - 1)
  have hh := mhg_le a t (p - 1)
  cases p with
  | zero => exact absurd h0 (by show ¬ 0 = t + 1; omega)
  | succ n =>
    rw [show n + 1 - 1 = n from rfl] at h0 hl hh
    have k := s_turn (d + 1) hp ha hr n (by omega)
    rw [h0] at k
    have kh := s_higher (σ := σ) (d + 1) hp ha hr (t := t) (by omega) n (by omega) (by omega)
    obtain ⟨σ1, b1, b2, b3⟩ := s_exch d ha (x := t) (y := mhg a t n) (by omega) (by omega)
    obtain ⟨σ2, c1, c2, c3⟩ := s_rev d 6 (mex a t (mhg a t n)) (t + 1) n σ1 b2 (by omega) (by omega) (by omega)
    refine ⟨σ2, ?_, c2, zFr_tr b3 c3⟩
    rw [e_X2_nextSitting]
    rw [show ((n + 1 : Nat) : Int) - 2 = (n : Int) - 1 from by omega]
    refine Eq.trans k ?_
    rw [b_X2_nextSitting_31]
    simp (disch := omega) only [nrm_id, zix, ↓reduceIte, if_true, if_false, true_and, and_true, false_and, and_false, not_true_eq_false, not_false_eq_true, Int.reduceAdd, Int.reduceSub, Int.reduceMul, ↓if_pos, ↓if_neg, Option.bind_some, Option.toList_some, Option.toList_none, List.append_nil, List.cons_append, List.nil_append, znat, znat1, zpm1, zcm1, zof0, zof1, zof2, zof3, zofa0, zofa1, zcm1]
    refine Eq.trans kh ?_
    rw [b_X2_nextSitting_67]
    simp (disch := omega) only [nrm_id, zix, ↓reduceIte, if_true, if_false, true_and, and_true, false_and, and_false, not_true_eq_false, not_false_eq_true, Int.reduceAdd, Int.reduceSub, Int.reduceMul, ↓if_pos, ↓if_neg, Option.bind_some, Option.toList_some, Option.toList_none, List.append_nil, List.cons_append, List.nil_append, znat, znat1, zpm1, zcm1, zof0, zof1, zof2, zof3, zofa0, zofa1, b1, b_X2_nextSitting_73, zcm1]
    exact c1
/-- sitting as a code says, all upright -/
def mprm (K : zK) (c : Nat) : zK := (K.1, K.2.1, fun i => if i < K.1 then K.2.2.1 (mdg c i) else K.2.2.1 i, fun i => if i < K.1 then K.2.2.2.1 (mdg c i) else K.2.2.2.1 i, fun _ => 0, K.2.2.2.2.2)
theorem mprm_ok (hO : mOk K) (c : Nat) : mOk (mprm K c) := by
  refine ⟨hO.1, hO.2.1, fun r hr => ?_, fun r hr => ?_, fun r _ => ⟨Int.le_refl _, (by decide : (0 : Int) ≤ 10)⟩, fun r hr => ⟨(hO.2.2.2.2.2 r hr).1, (hO.2.2.2.2.2 r hr).2.1, fun _ => rfl⟩⟩
  · show 0 ≤ (if r < K.1 then K.2.2.1 (mdg c r) else K.2.2.1 r) ∧ (if r < K.1 then K.2.2.1 (mdg c r) else K.2.2.1 r) ≤ 7
    split
    · exact hO.2.2.1 _ (mdg_lt c r)
    · exact hO.2.2.1 r hr
  · show 0 ≤ (if r < K.1 then K.2.2.2.1 (mdg c r) else K.2.2.2.1 r) ∧ (if r < K.1 then K.2.2.2.1 (mdg c r) else K.2.2.2.1 r) ≤ 9
    split
    · exact hO.2.2.2.1 _ (mdg_lt c r)
    · exact hO.2.2.2.1 r hr
def mJo (K : zK) (n c : Nat) : Int := mjS (mrounds n (mprm K c))
theorem mJo_rng (hO : mOk K) (n c : Nat) : -400 ≤ mJo K n c ∧ mJo K n c ≤ 400 := mjS_rng (mrounds_ok (mprm_ok hO c) n)
theorem s_joySitting (d : Nat) (h : zSysK K T σ) {c n : Nat} (hp6 : K.1 ≤ 6) (hn : n < 1000) (ha : ∀ i, i < 6 → σ 17 i = (mar K.1 c i : Int)) : ∃ σ1, zc (d + 4) mX2_joyBySitting [zR (some 0), zI n] σ = some (some (zI (mJo K n c)), σ1) ∧ zFr [6, 7, 8, 9, 10] σ σ1 := by
  obtain ⟨hC, hM, hO, -⟩ := h
  have hp := hO.1
  obtain ⟨σ1, a1, a2, -, a3⟩ := s_copyFrom (d + 2) zCo6 zCo1 (by decide) hC
  obtain ⟨σ2, b1, b2, b3⟩ := s_sitUp (d + 2) zCo6 a2
  have lp : ∀ (m i : Nat) (τ : zS), i + m = K.1 → zFr [6, 7, 8, 9, 10] σ τ → AbsC τ 6 (K.1, K.2.1, fun j => if j < i then K.2.2.1 (mdg c j) else K.2.2.1 j, fun j => if j < i then K.2.2.2.1 (mdg c j) else K.2.2.2.1 j, fun _ => 0, K.2.2.2.2.2) → ∃ τ', zq (d + 4) mX2_joyBySitting 20 [some (zR (some 0)), some (zI n), some (zI i)] [] τ = some (some (zI (mJo K n c)), τ') ∧ zFr [6, 7, 8, 9, 10] τ τ' := by
    intro m
    induction m with
    | zero =>
      intro i τ hi hF hA
      have hi' : i = K.1 := by omega
      subst hi'
      have h0 : τ 6 0 = (K.1 : Int) := hA.1
      have hA2 : AbsC τ 6 (mprm K c) := AbsC_eq hA ⟨rfl, rfl, fun _ _ => rfl, fun _ _ => rfl, fun _ _ => rfl, fun _ _ => rfl⟩
      obtain ⟨τ1, c1, c2, c3⟩ := s_goOn d zCo6 hA2 (mprm_ok hO c) hn
      have c1' : ∃ v : Int, zc (d + 3) mX0_goOn [zR (some 6), zI n] τ = some (some (zI v), τ1) := ⟨_, c1⟩
      obtain ⟨v, c1'⟩ := c1'
      have hj := zC_joy d c2 (mrounds_ok (mprm_ok hO c) n)
      refine ⟨τ1, ?_, zFr_mono c3 (by simp)⟩
      rw [b_X2_joyBySitting_20, h0]
      simp (disch := omega) only [nrm_id, zix, ↓reduceIte, if_true, if_false, true_and, and_true, false_and, and_false, not_true_eq_false, not_false_eq_true, Int.reduceAdd, Int.reduceSub, Int.reduceMul, ↓if_pos, ↓if_neg, Option.bind_some, Option.toList_some, Option.toList_none, List.append_nil, List.cons_append, List.nil_append, znat, znat1, zpm1, zcm1, zof0, zof1, zof2, zof3, zofa0, zofa1, c1', b_X2_joyBySitting_91, hj, b_X2_joyBySitting_99]
      rfl
    | succ m ih =>
      intro i τ hi hF hA
      have h0 : τ 6 0 = (K.1 : Int) := hA.1
      have e17 : τ 17 i = (mdg c i : Int) := by
        rw [hF 17 (by simp), ha i (by omega)]
        unfold mar
        rw [if_pos (by omega)]
      have hdl := mdg_lt c i
      have e2 : τ 2 (mdg c i) = K.2.2.1 (mdg c i) := by rw [hF 2 (by simp)]; exact hC.2.2.1 _ hdl
      have e3 : τ 3 (mdg c i) = K.2.2.2.1 (mdg c i) := by rw [hF 3 (by simp)]; exact hC.2.2.2.1 _ hdl
      have hA2 : AbsC (zup (zup τ 7 i (K.2.2.1 (mdg c i))) 8 i (K.2.2.2.1 (mdg c i))) 6 (K.1, K.2.1, fun j => if j < i + 1 then K.2.2.1 (mdg c j) else K.2.2.1 j, fun j => if j < i + 1 then K.2.2.2.1 (mdg c j) else K.2.2.2.1 j, fun _ => 0, K.2.2.2.2.2) := by
        obtain ⟨g0, g1, g2, g3, g4, g5, g6⟩ := hA
        dsimp only at g2 g3 g4
        refine ⟨by rw [zup_ne (by decide), zup_ne (by decide)]; exact g0, by rw [zup_ne (by decide), zup_ne (by decide)]; exact g1, fun j hj => ?_, fun j hj => ?_, fun j hj => by rw [zup_ne (by decide), zup_ne (by decide)]; exact g4 j hj, by rw [zup_ne (by decide), zup_ne (by decide)]; exact g5, fun j hj => by rw [zup_ne (by decide), zup_ne (by decide)]; exact g6 j hj⟩
        · rw [zup_ne (by decide)]
          show zup τ 7 i (K.2.2.1 (mdg c i)) 7 j = if j < i + 1 then K.2.2.1 (mdg c j) else K.2.2.1 j
          by_cases e : j = i
          · subst e; rw [zup_at, if_pos (by omega)]
          · rw [zup_ix e]
            refine (g2 j hj).trans ?_
            by_cases e2 : j < i
            · rw [if_pos e2, if_pos (by omega)]
            · rw [if_neg e2, if_neg (by omega)]
        · show zup (zup τ 7 i (K.2.2.1 (mdg c i))) 8 i (K.2.2.2.1 (mdg c i)) 8 j = if j < i + 1 then K.2.2.2.1 (mdg c j) else K.2.2.2.1 j
          by_cases e : j = i
          · subst e; rw [zup_at, if_pos (by omega)]
          · rw [zup_ix e, zup_ne (by decide)]
            refine (g3 j hj).trans ?_
            by_cases e2 : j < i
            · rw [if_pos e2, if_pos (by omega)]
            · rw [if_neg e2, if_neg (by omega)]
      obtain ⟨τ', k1, k2⟩ := ih (i + 1) _ (by omega) (zFr_tr hF (zFr_tr (zFr_up (by simp)) (zFr_up (by simp)))) hA2
      refine ⟨τ', ?_, zFr_tr (zFr_tr (zFr_up (by simp)) (zFr_up (by simp))) k2⟩
      rw [b_X2_joyBySitting_20, h0]
      simp (disch := omega) only [nrm_id, zix, ↓reduceIte, if_true, if_false, true_and, and_true, false_and, and_false, not_true_eq_false, not_false_eq_true, Int.reduceAdd, Int.reduceSub, Int.reduceMul, ↓if_pos, ↓if_neg, Option.bind_some, Option.toList_some, Option.toList_none, List.append_nil, List.cons_append, List.nil_append, znat, znat1, zpm1, zcm1, zof0, zof1, zof2, zof3, zofa0, zofa1, e17, zup_ne, e2, e3]
      exact k1
  have hF2 : zFr [6, 7, 8, 9, 10] σ σ2 := zFr_tr (zFr_mono a3 (by simp)) (zFr_mono b3 (by simp))
  obtain ⟨σ3, k1, k2⟩ := lp K.1 0 σ2 (by omega) hF2 (AbsC_eq b2 ⟨rfl, rfl, fun j _ => by show K.2.2.1 j = if j < 0 then K.2.2.1 (mdg c j) else K.2.2.1 j; rw [if_neg (Nat.not_lt_zero j)], fun j _ => by show K.2.2.2.1 j = if j < 0 then K.2.2.2.1 (mdg c j) else K.2.2.2.1 j; rw [if_neg (Nat.not_lt_zero j)], fun _ _ => rfl, fun _ _ => rfl⟩)
  refine ⟨σ3, ?_, zFr_tr hF2 k2⟩
  rw [e_X2_joyBySitting]
  simp (disch := omega) only [nrm_id, zix, ↓reduceIte, if_true, if_false, true_and, and_true, false_and, and_false, not_true_eq_false, not_false_eq_true, Int.reduceAdd, Int.reduceSub, Int.reduceMul, ↓if_pos, ↓if_neg, Option.bind_some, Option.toList_some, Option.toList_none, List.append_nil, List.cons_append, List.nil_append, znat, znat1, zpm1, zcm1, zof0, zof1, zof2, zof3, zofa0, zofa1, a1, b_X2_joyBySitting_11, b1, b_X2_joyBySitting_18]
  exact k1
end SYS28
