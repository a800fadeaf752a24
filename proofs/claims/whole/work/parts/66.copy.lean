theorem b_X2_copy_990 (d : Nat) (x1 x2 x3 x4 x5 : Int) {q5 : Nat} (hq5 : zSh q5) {q12 : Nat} (hq12 : zSh q12) (σ : zS) : zq (d + 1) mX2_copy 99 [some (zR (some 0)), some (zI x1), some (zI x2), some (zI x3), some (zI x4), some (zI x5), some (zR (some q5)), some (zR (some q12))] [zI 0] σ = some (some (zI ((-13))), σ) := by
  refine Eq.trans (zY_if_ne (by exact rfl) (by exact dX2_copy_99) (t := 105) (by exact rfl) (a2 := nrm 0) (by exact rfl) (L2 := [none, none, none, none, none, none, none, none]) (zcn (by exact rfl)) (by exact rfl)) ?_
  rw [if_neg (by decide)]
  refine Eq.trans (zY_step (by exact rfl) (by exact dX2_copy_102) (by exact rfl) (pc' := 104) (S' := [zI ((-13))]) (by exact rfl) (zcn (by exact rfl))) ?_
  exact zq_ret (by exact dX2_copy_104) (by exact rfl) (rv := some (zI ((-13)))) (by exact rfl)
theorem zofc (b j k : Nat) : ((100 * (b : Int)) + j + k).toNat = 100 * b + j + k := by omega
theorem zofd {a i n k : Nat} (h : k < n) : ((100 * (a : Int)) + i + ((n : Int) - 1 - k)).toNat = 100 * a + i + (n - 1 - k) := by omega
theorem mhz {i j n : Nat} (h1 : i + n ≤ 100) (h2 : j + n ≤ 100) : 0 ≤ nrm (i : Int) ∧ 0 ≤ nrm (j : Int) ∧ 0 ≤ nrm (n : Int) ∧ nrm (i : Int) + nrm (n : Int) ≤ 100 ∧ nrm (j : Int) + nrm (n : Int) ≤ 100 := by
  have ni : nrm (i : Int) = i := nrm_id (by omega) (by omega)
  have nj : nrm (j : Int) = j := nrm_id (by omega) (by omega)
  have nn : nrm (n : Int) = n := nrm_id (by omega) (by omega)
  rw [ni, nj, nn]
  exact ⟨by omega, by omega, by omega, by omega, by omega⟩
section SYS24
variable {σ : zS} {K : zK} {T : Int}
theorem s_hasPart (d : Nat) {q : Nat} (hq : zSh q) {m : Nat} (hm : σ q 4 = m) (hm2 : m ≤ 100) {u v : Int} (hu : R32 u) (hv : R32 v) : zc d mX1_hasPart [zR (some q), zI u, zI v] σ = some (some (zI (if 0 ≤ u ∧ 0 ≤ v ∧ u + v ≤ m then 1 else 0)), σ) := by
  obtain ⟨u1, u2⟩ := hu
  obtain ⟨v1, v2⟩ := hv
  rw [e_X1_hasPart _ _ _ hq, hm]
  by_cases q1 : 0 ≤ u ∧ 0 ≤ v ∧ u + v ≤ m
  · rw [if_pos q1]
    simp (disch := omega) only [nrm_id, zix, ↓reduceIte, if_true, if_false, true_and, and_true, false_and, and_false, not_true_eq_false, not_false_eq_true, Int.reduceAdd, Int.reduceSub, Int.reduceMul, ↓if_pos, ↓if_neg, Option.bind_some, Option.toList_some, Option.toList_none, List.append_nil, List.cons_append, List.nil_append, znat, znat1, zpm1, zcm1, zof0, zof1, zof2, zof3, zofa0, zofa1]
  · rw [if_neg q1]
    by_cases q2 : u < 0
    · simp (disch := omega) only [nrm_id, zix, ↓reduceIte, if_true, if_false, true_and, and_true, false_and, and_false, not_true_eq_false, not_false_eq_true, Int.reduceAdd, Int.reduceSub, Int.reduceMul, ↓if_pos, ↓if_neg, Option.bind_some, Option.toList_some, Option.toList_none, List.append_nil, List.cons_append, List.nil_append, znat, znat1, zpm1, zcm1, zof0, zof1, zof2, zof3, zofa0, zofa1]
    · by_cases q3 : (m : Int) < u
      · simp (disch := omega) only [nrm_id, zix, ↓reduceIte, if_true, if_false, true_and, and_true, false_and, and_false, not_true_eq_false, not_false_eq_true, Int.reduceAdd, Int.reduceSub, Int.reduceMul, ↓if_pos, ↓if_neg, Option.bind_some, Option.toList_some, Option.toList_none, List.append_nil, List.cons_append, List.nil_append, znat, znat1, zpm1, zcm1, zof0, zof1, zof2, zof3, zofa0, zofa1]
      · by_cases q4 : v < 0
        · simp (disch := omega) only [nrm_id, zix, ↓reduceIte, if_true, if_false, true_and, and_true, false_and, and_false, not_true_eq_false, not_false_eq_true, Int.reduceAdd, Int.reduceSub, Int.reduceMul, ↓if_pos, ↓if_neg, Option.bind_some, Option.toList_some, Option.toList_none, List.append_nil, List.cons_append, List.nil_append, znat, znat1, zpm1, zcm1, zof0, zof1, zof2, zof3, zofa0, zofa1]
        · simp (disch := omega) only [nrm_id, zix, ↓reduceIte, if_true, if_false, true_and, and_true, false_and, and_false, not_true_eq_false, not_false_eq_true, Int.reduceAdd, Int.reduceSub, Int.reduceMul, ↓if_pos, ↓if_neg, Option.bind_some, Option.toList_some, Option.toList_none, List.append_nil, List.cons_append, List.nil_append, znat, znat1, zpm1, zcm1, zof0, zof1, zof2, zof3, zofa0, zofa1]
/-- x is among the places written -/
def mcp (τ0 : zS) (A B n : Nat) (x : Nat) : Int := if B ≤ x ∧ x < B + n then τ0 50 (A + (x - B)) else τ0 50 x
theorem r_copyFwd (d : Nat) {a b i j n : Nat} (ha : a < 8) (hb : b < 8) (hi : i + n ≤ 100) (hj : j + n ≤ 100) (hij : j < i) (τ0 : zS) : ∀ (m k : Nat) (τ : zS), k + m = n → (∀ x, τ 50 x = mcp τ0 (100 * a + i) (100 * b + j) k x) → ∃ τ', zq d mX3_copy 122 [some (zR (some 36)), some (zI a), some (zI i), some (zI b), some (zI j), some (zI n), some (zI k), none] [] τ = some (some (zI n), τ') ∧ (∀ x, τ' 50 x = mcp τ0 (100 * a + i) (100 * b + j) n x) ∧ zFr [50] τ τ' := by
  intro m
  induction m with
  | zero =>
    intro k τ hk hτ
    have hk' : k = n := by omega
    subst hk'
    refine ⟨τ, ?_, hτ, zFr_rf _ _⟩
    rw [b_X3_copy_122]
    simp (disch := omega) only [nrm_id, zix, ↓reduceIte, if_true, if_false, true_and, and_true, false_and, and_false, not_true_eq_false, not_false_eq_true, Int.reduceAdd, Int.reduceSub, Int.reduceMul, ↓if_pos, ↓if_neg, Option.bind_some, Option.toList_some, Option.toList_none, List.append_nil, List.cons_append, List.nil_append, znat, znat1, zpm1, zcm1, zof0, zof1, zof2, zof3, zofa0, zofa1]
  | succ m ih =>
    intro k τ hk hτ
    have hr : τ 50 (100 * a + i + k) = τ0 50 (100 * a + i + k) := by rw [hτ]; unfold mcp; rw [if_neg (by omega)]
    obtain ⟨τ', g1, g2, g3⟩ := ih (k + 1) (zup τ 50 (100 * b + j + k) (τ0 50 (100 * a + i + k))) (by omega) (fun x => by
      by_cases e : x = 100 * b + j + k
      · subst e
        rw [zup_at]
        unfold mcp
        rw [if_pos (by omega), show 100 * a + i + (100 * b + j + k - (100 * b + j)) = 100 * a + i + k from by omega]
      · rw [zup_ix e, hτ]
        unfold mcp
        by_cases e2 : 100 * b + j ≤ x ∧ x < 100 * b + j + k
        · rw [if_pos e2, if_pos (by omega)]
        · rw [if_neg e2, if_neg (by omega)])
    refine ⟨τ', ?_, g2, zFr_tr (zFr_up (by simp)) g3⟩
    rw [b_X3_copy_122]
    simp (disch := omega) only [nrm_id, zix, ↓reduceIte, if_true, if_false, true_and, and_true, false_and, and_false, not_true_eq_false, not_false_eq_true, Int.reduceAdd, Int.reduceSub, Int.reduceMul, ↓if_pos, ↓if_neg, Option.bind_some, Option.toList_some, Option.toList_none, List.append_nil, List.cons_append, List.nil_append, znat, znat1, zpm1, zcm1, zof0, zof1, zof2, zof3, zofa0, zofa1, b_X3_copy_147, zofc, hr]
    exact g1
theorem r_copyBwd (d : Nat) {a b i j n : Nat} (ha : a < 8) (hb : b < 8) (hi : i + n ≤ 100) (hj : j + n ≤ 100) (hij : i ≤ j) (τ0 : zS) : ∀ (m k : Nat) (τ : zS), k + m = n → (∀ x, τ 50 x = mcp τ0 (100 * a + i + m) (100 * b + j + m) k x) → ∃ τ', zq d mX3_copy 122 [some (zR (some 36)), some (zI a), some (zI i), some (zI b), some (zI j), some (zI n), some (zI k), none] [] τ = some (some (zI n), τ') ∧ (∀ x, τ' 50 x = mcp τ0 (100 * a + i) (100 * b + j) n x) ∧ zFr [50] τ τ' := by
  intro m
  induction m with
  | zero =>
    intro k τ hk hτ
    have hk' : k = n := by omega
    subst hk'
    refine ⟨τ, ?_, hτ, zFr_rf _ _⟩
    rw [b_X3_copy_122]
    simp (disch := omega) only [nrm_id, zix, ↓reduceIte, if_true, if_false, true_and, and_true, false_and, and_false, not_true_eq_false, not_false_eq_true, Int.reduceAdd, Int.reduceSub, Int.reduceMul, ↓if_pos, ↓if_neg, Option.bind_some, Option.toList_some, Option.toList_none, List.append_nil, List.cons_append, List.nil_append, znat, znat1, zpm1, zcm1, zof0, zof1, zof2, zof3, zofa0, zofa1]
  | succ m ih =>
    intro k τ hk hτ
    have em : n - 1 - k = m := by omega
    have hr : τ 50 (100 * a + i + m) = τ0 50 (100 * a + i + m) := by rw [hτ]; unfold mcp; rw [if_neg (by omega)]
    obtain ⟨τ', g1, g2, g3⟩ := ih (k + 1) (zup τ 50 (100 * b + j + m) (τ0 50 (100 * a + i + m))) (by omega) (fun x => by
      by_cases e : x = 100 * b + j + m
      · subst e
        rw [zup_at]
        unfold mcp
        rw [if_pos (by omega), show 100 * a + i + m + (100 * b + j + m - (100 * b + j + m)) = 100 * a + i + m from by omega]
      · rw [zup_ix e, hτ]
        unfold mcp
        by_cases e2 : 100 * b + j + (m + 1) ≤ x ∧ x < 100 * b + j + (m + 1) + k
        · rw [if_pos e2, if_pos (by omega), show 100 * a + i + (m + 1) + (x - (100 * b + j + (m + 1))) = 100 * a + i + m + (x - (100 * b + j + m)) from by omega]
        · rw [if_neg e2, if_neg (by omega)])
    refine ⟨τ', ?_, g2, zFr_tr (zFr_up (by simp)) g3⟩
    rw [b_X3_copy_122]
    simp (disch := omega) only [nrm_id, zix, ↓reduceIte, if_true, if_false, true_and, and_true, false_and, and_false, not_true_eq_false, not_false_eq_true, Int.reduceAdd, Int.reduceSub, Int.reduceMul, ↓if_pos, ↓if_neg, Option.bind_some, Option.toList_some, Option.toList_none, List.append_nil, List.cons_append, List.nil_append, znat, znat1, zpm1, zcm1, zof0, zof1, zof2, zof3, zofa0, zofa1, b_X3_copy_147, zofd, em, hr]
    exact g1
theorem r_copyLoop (d : Nat) {a b i j n : Nat} (ha : a < 8) (hb : b < 8) (hi : i + n ≤ 100) (hj : j + n ≤ 100) (τ : zS) : ∃ τ', zq d mX3_copy 122 [some (zR (some 36)), some (zI a), some (zI i), some (zI b), some (zI j), some (zI n), some (zI 0), none] [] τ = some (some (zI n), τ') ∧ (∀ x, τ' 50 x = mcp τ (100 * a + i) (100 * b + j) n x) ∧ zFr [50] τ τ' := by
  by_cases q : j < i
  · exact r_copyFwd d ha hb hi hj q τ n 0 τ (by omega) (fun x => by unfold mcp; rw [if_neg (by omega)])
  · exact r_copyBwd d ha hb hi hj (by omega) τ n 0 τ (by omega) (fun x => by unfold mcp; rw [if_neg (by omega)])
theorem p_copy (h : zSysK K T σ) {x u y v w : Int} (hx : R32 x) (hu : R32 u) (hy : R32 y) (hv : R32 v) (hw : R32 w) : zP mX2_copy mX3_copy [zI x, zI u, zI y, zI v, zI w] σ := by
  have h0 := h
  obtain ⟨-, -, -, -, -, -, -, hS⟩ := h
  by_cases qx : 0 ≤ x ∧ x < 8
  · obtain ⟨a, rfl, ha⟩ := zix_of qx.1 qx.2
    have hqa := zSh_of a ha
    by_cases qy : 0 ≤ y ∧ y < 8
    · obtain ⟨b, rfl, hb⟩ := zix_of qy.1 qy.2
      have hqb := zSh_of b hb
      obtain ⟨s1, s2, -, s4⟩ := hS a ha
      obtain ⟨r1, r2, -, r4⟩ := hS b hb
      clear hS
      by_cases ea : σ (20 + 2 * a) 0 = 0
      · clear s4 r4
        rw [ea] at s2
        refine zP_same h0 (zI (-11)) (fun d => ?_) (fun d => ?_)
        · rw [e_X2_copy]
          simp (disch := omega) only [nrm_id, zix, ↓reduceIte, if_true, if_false, true_and, and_true, false_and, and_false, not_true_eq_false, not_false_eq_true, Int.reduceAdd, Int.reduceSub, Int.reduceMul, ↓if_pos, ↓if_neg, Option.bind_some, Option.toList_some, Option.toList_none, List.append_nil, List.cons_append, List.nil_append, znat, znat1, zpm1, zcm1, zof0, zof1, zof2, zof3, zofa0, zofa1, s_shelfAt _ _ ha, s_shelfAt _ _ hb, b_X2_copy_5 _ _ _ _ _ _ hqa, b_X2_copy_12 _ _ _ _ _ _ hqa hqb, ea]
        · rw [e_X3_copy, r_isShelf _ _ hx]
          simp (disch := omega) only [nrm_id, zix, ↓reduceIte, if_true, if_false, true_and, and_true, false_and, and_false, not_true_eq_false, not_false_eq_true, Int.reduceAdd, Int.reduceSub, Int.reduceMul, ↓if_pos, ↓if_neg, Option.bind_some, Option.toList_some, Option.toList_none, List.append_nil, List.cons_append, List.nil_append, znat, znat1, zpm1, zcm1, zof0, zof1, zof2, zof3, zofa0, zofa1, b_X3_copy_4, r_isShelf _ _ hy, b_X3_copy_11, s2]
      · by_cases eb : σ (20 + 2 * b) 0 = 0
        · clear s4 r4
          rw [eb] at r2
          have s1' : σ (20 + 2 * a) 0 = 1 ∨ σ (20 + 2 * a) 0 = 2 := by omega
          refine zP_same h0 (zI (-11)) (fun d => ?_) (fun d => ?_)
          · rw [e_X2_copy]
            rcases s1' with e | e
            · simp (disch := omega) only [nrm_id, zix, ↓reduceIte, if_true, if_false, true_and, and_true, false_and, and_false, not_true_eq_false, not_false_eq_true, Int.reduceAdd, Int.reduceSub, Int.reduceMul, ↓if_pos, ↓if_neg, Option.bind_some, Option.toList_some, Option.toList_none, List.append_nil, List.cons_append, List.nil_append, znat, znat1, zpm1, zcm1, zof0, zof1, zof2, zof3, zofa0, zofa1, s_shelfAt _ _ ha, s_shelfAt _ _ hb, b_X2_copy_5 _ _ _ _ _ _ hqa, b_X2_copy_12 _ _ _ _ _ _ hqa hqb, e, eb]
            · simp (disch := omega) only [nrm_id, zix, ↓reduceIte, if_true, if_false, true_and, and_true, false_and, and_false, not_true_eq_false, not_false_eq_true, Int.reduceAdd, Int.reduceSub, Int.reduceMul, ↓if_pos, ↓if_neg, Option.bind_some, Option.toList_some, Option.toList_none, List.append_nil, List.cons_append, List.nil_append, znat, znat1, zpm1, zcm1, zof0, zof1, zof2, zof3, zofa0, zofa1, s_shelfAt _ _ ha, s_shelfAt _ _ hb, b_X2_copy_5 _ _ _ _ _ _ hqa, b_X2_copy_12 _ _ _ _ _ _ hqa hqb, e, eb]
          · rw [e_X3_copy, r_isShelf _ _ hx]
            rcases s1' with e | e
            · rw [e] at s2
              simp (disch := omega) only [nrm_id, zix, ↓reduceIte, if_true, if_false, true_and, and_true, false_and, and_false, not_true_eq_false, not_false_eq_true, Int.reduceAdd, Int.reduceSub, Int.reduceMul, ↓if_pos, ↓if_neg, Option.bind_some, Option.toList_some, Option.toList_none, List.append_nil, List.cons_append, List.nil_append, znat, znat1, zpm1, zcm1, zof0, zof1, zof2, zof3, zofa0, zofa1, b_X3_copy_4, r_isShelf _ _ hy, b_X3_copy_11, s2, r2]
            · rw [e] at s2
              simp (disch := omega) only [nrm_id, zix, ↓reduceIte, if_true, if_false, true_and, and_true, false_and, and_false, not_true_eq_false, not_false_eq_true, Int.reduceAdd, Int.reduceSub, Int.reduceMul, ↓if_pos, ↓if_neg, Option.bind_some, Option.toList_some, Option.toList_none, List.append_nil, List.cons_append, List.nil_append, znat, znat1, zpm1, zcm1, zof0, zof1, zof2, zof3, zofa0, zofa1, b_X3_copy_4, r_isShelf _ _ hy, b_X3_copy_11, s2, r2]
        · have s1' : σ (20 + 2 * a) 0 = 1 ∨ σ (20 + 2 * a) 0 = 2 := by clear s4 r4; omega
          have r1' : σ (20 + 2 * b) 0 = 1 ∨ σ (20 + 2 * b) 0 = 2 := by clear s4 r4; omega
          clear s1 r1 ea eb
          rcases s1' with ea | ea
          · clear s4 r4
            rw [ea] at s2
            refine zP_same h0 (zI (-12)) (fun d => ?_) (fun d => ?_)
            · rw [e_X2_copy]
              rcases r1' with eb | eb
              · simp (disch := omega) only [nrm_id, zix, ↓reduceIte, if_true, if_false, true_and, and_true, false_and, and_false, not_true_eq_false, not_false_eq_true, Int.reduceAdd, Int.reduceSub, Int.reduceMul, ↓if_pos, ↓if_neg, Option.bind_some, Option.toList_some, Option.toList_none, List.append_nil, List.cons_append, List.nil_append, znat, znat1, zpm1, zcm1, zof0, zof1, zof2, zof3, zofa0, zofa1, s_shelfAt _ _ ha, s_shelfAt _ _ hb, b_X2_copy_5 _ _ _ _ _ _ hqa, b_X2_copy_12 _ _ _ _ _ _ hqa hqb, ea, eb]
              · simp (disch := omega) only [nrm_id, zix, ↓reduceIte, if_true, if_false, true_and, and_true, false_and, and_false, not_true_eq_false, not_false_eq_true, Int.reduceAdd, Int.reduceSub, Int.reduceMul, ↓if_pos, ↓if_neg, Option.bind_some, Option.toList_some, Option.toList_none, List.append_nil, List.cons_append, List.nil_append, znat, znat1, zpm1, zcm1, zof0, zof1, zof2, zof3, zofa0, zofa1, s_shelfAt _ _ ha, s_shelfAt _ _ hb, b_X2_copy_5 _ _ _ _ _ _ hqa, b_X2_copy_12 _ _ _ _ _ _ hqa hqb, ea, eb]
            · rw [e_X3_copy, r_isShelf _ _ hx]
              rcases r1' with eb | eb
              · rw [eb] at r2
                simp (disch := omega) only [nrm_id, zix, ↓reduceIte, if_true, if_false, true_and, and_true, false_and, and_false, not_true_eq_false, not_false_eq_true, Int.reduceAdd, Int.reduceSub, Int.reduceMul, ↓if_pos, ↓if_neg, Option.bind_some, Option.toList_some, Option.toList_none, List.append_nil, List.cons_append, List.nil_append, znat, znat1, zpm1, zcm1, zof0, zof1, zof2, zof3, zofa0, zofa1, b_X3_copy_4, r_isShelf _ _ hy, b_X3_copy_11, s2, r2]
              · rw [eb] at r2
                simp (disch := omega) only [nrm_id, zix, ↓reduceIte, if_true, if_false, true_and, and_true, false_and, and_false, not_true_eq_false, not_false_eq_true, Int.reduceAdd, Int.reduceSub, Int.reduceMul, ↓if_pos, ↓if_neg, Option.bind_some, Option.toList_some, Option.toList_none, List.append_nil, List.cons_append, List.nil_append, znat, znat1, zpm1, zcm1, zof0, zof1, zof2, zof3, zofa0, zofa1, b_X3_copy_4, r_isShelf _ _ hy, b_X3_copy_11, s2, r2]
          · rcases r1' with eb | eb
            · clear s4 r4
              rw [ea] at s2
              rw [eb] at r2
              refine zP_same h0 (zI (-12)) (fun d => ?_) (fun d => ?_)
              · rw [e_X2_copy]
                simp (disch := omega) only [nrm_id, zix, ↓reduceIte, if_true, if_false, true_and, and_true, false_and, and_false, not_true_eq_false, not_false_eq_true, Int.reduceAdd, Int.reduceSub, Int.reduceMul, ↓if_pos, ↓if_neg, Option.bind_some, Option.toList_some, Option.toList_none, List.append_nil, List.cons_append, List.nil_append, znat, znat1, zpm1, zcm1, zof0, zof1, zof2, zof3, zofa0, zofa1, s_shelfAt _ _ ha, s_shelfAt _ _ hb, b_X2_copy_5 _ _ _ _ _ _ hqa, b_X2_copy_12 _ _ _ _ _ _ hqa hqb, ea, eb]
              · rw [e_X3_copy, r_isShelf _ _ hx]
                simp (disch := omega) only [nrm_id, zix, ↓reduceIte, if_true, if_false, true_and, and_true, false_and, and_false, not_true_eq_false, not_false_eq_true, Int.reduceAdd, Int.reduceSub, Int.reduceMul, ↓if_pos, ↓if_neg, Option.bind_some, Option.toList_some, Option.toList_none, List.append_nil, List.cons_append, List.nil_append, znat, znat1, zpm1, zcm1, zof0, zof1, zof2, zof3, zofa0, zofa1, b_X3_copy_4, r_isShelf _ _ hy, b_X3_copy_11, s2, r2]
            · obtain ⟨ta1, ta2, ta3, ta4, tab, ta5⟩ := s4 ea
              obtain ⟨tb1, tb2, tb3, tb4, tbb, tb5⟩ := r4 eb
              clear s4 r4
              rw [ea] at s2
              rw [eb] at r2
              obtain ⟨ma, hma⟩ := Int.eq_ofNat_of_zero_le ta4.1
              obtain ⟨mb, hmb⟩ := Int.eq_ofNat_of_zero_le tb4.1
              have hma2 : ma ≤ 100 := by omega
              have hmb2 : mb ≤ 100 := by omega
              rw [hma] at ta3
              rw [hmb] at tb3
              by_cases qs : σ (20 + 2 * a) 3 = σ (20 + 2 * b) 3
              · have pa := fun d => s_hasPart (σ := σ) d hqa hma hma2 hu hw
                have pb := fun d => s_hasPart (σ := σ) d hqb hmb hmb2 hv hw
                have hu0 := hu
                have hv0 := hv
                have hw0 := hw
                obtain ⟨u1, u2⟩ := hu
                obtain ⟨v1, v2⟩ := hv
                obtain ⟨w1, w2⟩ := hw
                by_cases ok : (0 ≤ u ∧ 0 ≤ w ∧ u + w ≤ ma) ∧ 0 ≤ v ∧ 0 ≤ w ∧ v + w ≤ mb
                · obtain ⟨i, rfl⟩ := Int.eq_ofNat_of_zero_le ok.1.1
                  obtain ⟨j, rfl⟩ := Int.eq_ofNat_of_zero_le ok.2.1
                  obtain ⟨n, rfl⟩ := Int.eq_ofNat_of_zero_le ok.1.2.1
                  have oki : i + n ≤ ma := by omega
                  have okj : j + n ≤ mb := by omega
                  intro d
                  obtain ⟨σ2, g1, g2, g3⟩ := r_copyLoop (d + 20) ha hb (i := i) (j := j) (n := n) (by omega) (by omega) (zcpy σ (20 + 2 * a + 1) i (20 + 2 * b + 1) j n)
                  have k2 : ∀ q, q ≠ 50 → q ≠ 20 + 2 * b + 1 → σ2 q = σ q := fun q h1 h2 => by rw [g3 q (by simpa using h1), zcpy_ne h2]
                  rw [if_pos ok.1] at pa
                  rw [if_pos ok.2] at pb
                  have e50 : ∀ t, zcpy σ (20 + 2 * a + 1) i (20 + 2 * b + 1) j n 50 t = σ 50 t := fun t => by rw [zcpy_ne (by omega)]
                  refine ⟨zcpy σ (20 + 2 * a + 1) i (20 + 2 * b + 1) j n, σ2, zI n, ?_, ?_, K, T, zSys_shelf h0 hb (fun p h1 h2 h3 => ?_) (fun p hp hpb => ?_) (fun p hp => ?_) ?_⟩
                  · clear e50 k2 g1 g2 g3 ta5 tb5 tab tbb
                    have b99 := b_X2_copy_99 (d + 19) 1 a i b j n hqa hqb (mhz (by omega) (by omega)) σ
                    rw [e_X2_copy]
                    simp (disch := omega) only [nrm_id, zix, ↓reduceIte, if_true, if_false, true_and, and_true, false_and, and_false, not_true_eq_false, not_false_eq_true, Int.reduceAdd, Int.reduceSub, Int.reduceMul, ↓if_pos, ↓if_neg, Option.bind_some, Option.toList_some, Option.toList_none, List.append_nil, List.cons_append, List.nil_append, znat, znat1, zpm1, zcm1, zof0, zof1, zof2, zof3, zofa0, zofa1, s_shelfAt _ _ ha, s_shelfAt _ _ hb, b_X2_copy_5 _ _ _ _ _ _ hqa, b_X2_copy_12 _ _ _ _ _ _ hqa hqb, ea, eb, qs, pa, b_X2_copy_87 _ _ _ _ _ _ _ hqa hqb, pb, b99]
                  · have z1 : ∀ t, zcpy σ (20 + 2 * a + 1) i (20 + 2 * b + 1) j n 45 t = σ 45 t := fun t => by rw [zcpy_ne (by omega)]
                    have z2 : ∀ t, zcpy σ (20 + 2 * a + 1) i (20 + 2 * b + 1) j n 48 t = σ 48 t := fun t => by rw [zcpy_ne (by omega)]
                    have z3 : ∀ t, zcpy σ (20 + 2 * a + 1) i (20 + 2 * b + 1) j n 49 t = σ 49 t := fun t => by rw [zcpy_ne (by omega)]
                    clear e50 k2 g2 g3 ta5 tb5 tab tbb
                    generalize zcpy σ (20 + 2 * a + 1) i (20 + 2 * b + 1) j n = τ at z1 z2 z3 g1 ⊢
                    rw [e_X3_copy, r_isShelf _ _ hx]
                    simp (disch := omega) only [nrm_id, zix, ↓reduceIte, if_true, if_false, true_and, and_true, false_and, and_false, not_true_eq_false, not_false_eq_true, Int.reduceAdd, Int.reduceSub, Int.reduceMul, ↓if_pos, ↓if_neg, Option.bind_some, Option.toList_some, Option.toList_none, List.append_nil, List.cons_append, List.nil_append, znat, znat1, zpm1, zcm1, zof0, zof1, zof2, zof3, zofa0, zofa1, b_X3_copy_4, r_isShelf _ _ hy, b_X3_copy_11, z1, z2, z3, s2, r2, ta1, tb1, qs, ta3, tb3]
                    exact g1
                  · exact k2 p (by omega) (by omega)
                  · rw [k2 45 (by decide) (by omega), k2 46 (by decide) (by omega), k2 47 (by decide) (by omega), k2 48 (by decide) (by omega), k2 49 (by decide) (by omega)]
                    exact ⟨rfl, rfl, rfl, rfl, rfl⟩
                  · rw [g2 p]
                    unfold mcp
                    rw [if_neg (by omega), e50]
                  · unfold zShR
                    rw [k2 (20 + 2 * b) (by omega) (by omega), k2 45 (by decide) (by omega), k2 46 (by decide) (by omega), k2 47 (by decide) (by omega), k2 48 (by decide) (by omega), k2 49 (by decide) (by omega)]
                    have e21 : ∀ k, σ2 (21 + 2 * b) k = zcpy σ (20 + 2 * a + 1) i (20 + 2 * b + 1) j n (20 + 2 * b + 1) k := fun k => by
                      rw [g3 (21 + 2 * b) (by simp; omega), show 21 + 2 * b = 20 + 2 * b + 1 from by omega]
                    refine ⟨Or.inr (Or.inr eb), by rw [eb, r2], fun z => absurd (eb.symm.trans z) (by decide), fun _ => ⟨tb1, tb2, by rw [hmb]; exact tb3, tb4, fun z3 k hk => ?_, fun k hk => ?_⟩⟩
                    · rw [e21]
                      unfold zcpy
                      by_cases e : j ≤ k ∧ k < j + n
                      · rw [if_pos ⟨rfl, e.1, e.2⟩, show 20 + 2 * a + 1 = 21 + 2 * a from by omega]
                        exact tab (qs.trans z3) _ (by omega)
                      · rw [if_neg (fun z => e z.2), show 20 + 2 * b + 1 = 21 + 2 * b from by omega]
                        exact tbb z3 k hk
                    rw [e21, g2]
                    unfold mcp
                    by_cases e : j ≤ k ∧ k < j + n
                    · rw [if_pos (by omega), e50, show 100 * a + i + (100 * b + k - (100 * b + j)) = 100 * a + (i + (k - j)) from by omega]
                      have := ta5 (i + (k - j)) (by omega)
                      unfold zcpy
                      rw [if_pos ⟨rfl, e.1, e.2⟩, show 20 + 2 * a + 1 = 21 + 2 * a from by omega]
                      exact this
                    · rw [if_neg (by omega), e50]
                      have := tb5 k hk
                      unfold zcpy
                      rw [if_neg (fun z => e z.2), show 20 + 2 * b + 1 = 21 + 2 * b from by omega]
                      exact this
                · clear ta5 tb5 tab tbb
                  refine zP_same h0 (zI (-13)) (fun d => ?_) (fun d => ?_)
                  · rw [e_X2_copy]
                    by_cases q1 : 0 ≤ u ∧ 0 ≤ w ∧ u + w ≤ ma
                    · have q2 : ¬ (0 ≤ v ∧ 0 ≤ w ∧ v + w ≤ mb) := fun z => ok ⟨q1, z⟩
                      rw [if_pos q1] at pa
                      rw [if_neg q2] at pb
                      clear ok q2
                      simp (disch := omega) only [nrm_id, zix, ↓reduceIte, if_true, if_false, true_and, and_true, false_and, and_false, not_true_eq_false, not_false_eq_true, Int.reduceAdd, Int.reduceSub, Int.reduceMul, ↓if_pos, ↓if_neg, Option.bind_some, Option.toList_some, Option.toList_none, List.append_nil, List.cons_append, List.nil_append, znat, znat1, zpm1, zcm1, zof0, zof1, zof2, zof3, zofa0, zofa1, s_shelfAt _ _ ha, s_shelfAt _ _ hb, b_X2_copy_5 _ _ _ _ _ _ hqa, b_X2_copy_12 _ _ _ _ _ _ hqa hqb, ea, eb, qs, pa, b_X2_copy_87 _ _ _ _ _ _ _ hqa hqb, pb, b_X2_copy_990 _ _ _ _ _ _ hqa hqb]
                    · rw [if_neg q1] at pa
                      clear ok q1 pb
                      simp (disch := omega) only [nrm_id, zix, ↓reduceIte, if_true, if_false, true_and, and_true, false_and, and_false, not_true_eq_false, not_false_eq_true, Int.reduceAdd, Int.reduceSub, Int.reduceMul, ↓if_pos, ↓if_neg, Option.bind_some, Option.toList_some, Option.toList_none, List.append_nil, List.cons_append, List.nil_append, znat, znat1, zpm1, zcm1, zof0, zof1, zof2, zof3, zofa0, zofa1, s_shelfAt _ _ ha, s_shelfAt _ _ hb, b_X2_copy_5 _ _ _ _ _ _ hqa, b_X2_copy_12 _ _ _ _ _ _ hqa hqb, ea, eb, qs, pa, b_X2_copy_87 _ _ _ _ _ _ _ hqa hqb]
                  · clear pa pb
                    rw [e_X3_copy, r_isShelf _ _ hx]
                    by_cases q1 : w < 0
                    · clear ok
                      simp (disch := omega) only [nrm_id, zix, ↓reduceIte, if_true, if_false, true_and, and_true, false_and, and_false, not_true_eq_false, not_false_eq_true, Int.reduceAdd, Int.reduceSub, Int.reduceMul, ↓if_pos, ↓if_neg, Option.bind_some, Option.toList_some, Option.toList_none, List.append_nil, List.cons_append, List.nil_append, znat, znat1, zpm1, zcm1, zof0, zof1, zof2, zof3, zofa0, zofa1, b_X3_copy_4, r_isShelf _ _ hy, b_X3_copy_11, s2, r2, ta1, tb1, qs, ta3, tb3]
                    · by_cases q2 : u < 0
                      · clear ok
                        simp (disch := omega) only [nrm_id, zix, ↓reduceIte, if_true, if_false, true_and, and_true, false_and, and_false, not_true_eq_false, not_false_eq_true, Int.reduceAdd, Int.reduceSub, Int.reduceMul, ↓if_pos, ↓if_neg, Option.bind_some, Option.toList_some, Option.toList_none, List.append_nil, List.cons_append, List.nil_append, znat, znat1, zpm1, zcm1, zof0, zof1, zof2, zof3, zofa0, zofa1, b_X3_copy_4, r_isShelf _ _ hy, b_X3_copy_11, s2, r2, ta1, tb1, qs, ta3, tb3]
                      · by_cases q3 : v < 0
                        · clear ok
                          simp (disch := omega) only [nrm_id, zix, ↓reduceIte, if_true, if_false, true_and, and_true, false_and, and_false, not_true_eq_false, not_false_eq_true, Int.reduceAdd, Int.reduceSub, Int.reduceMul, ↓if_pos, ↓if_neg, Option.bind_some, Option.toList_some, Option.toList_none, List.append_nil, List.cons_append, List.nil_append, znat, znat1, zpm1, zcm1, zof0, zof1, zof2, zof3, zofa0, zofa1, b_X3_copy_4, r_isShelf _ _ hy, b_X3_copy_11, s2, r2, ta1, tb1, qs, ta3, tb3]
                        · by_cases q4 : (ma : Int) - u < w
                          · clear ok
                            simp (disch := omega) only [nrm_id, zix, ↓reduceIte, if_true, if_false, true_and, and_true, false_and, and_false, not_true_eq_false, not_false_eq_true, Int.reduceAdd, Int.reduceSub, Int.reduceMul, ↓if_pos, ↓if_neg, Option.bind_some, Option.toList_some, Option.toList_none, List.append_nil, List.cons_append, List.nil_append, znat, znat1, zpm1, zcm1, zof0, zof1, zof2, zof3, zofa0, zofa1, b_X3_copy_4, r_isShelf _ _ hy, b_X3_copy_11, s2, r2, ta1, tb1, qs, ta3, tb3]
                          · have q5 : (mb : Int) - v < w := by omega
                            clear ok
                            simp (disch := omega) only [nrm_id, zix, ↓reduceIte, if_true, if_false, true_and, and_true, false_and, and_false, not_true_eq_false, not_false_eq_true, Int.reduceAdd, Int.reduceSub, Int.reduceMul, ↓if_pos, ↓if_neg, Option.bind_some, Option.toList_some, Option.toList_none, List.append_nil, List.cons_append, List.nil_append, znat, znat1, zpm1, zcm1, zof0, zof1, zof2, zof3, zofa0, zofa1, b_X3_copy_4, r_isShelf _ _ hy, b_X3_copy_11, s2, r2, ta1, tb1, qs, ta3, tb3]
              · clear ta5 tb5 tab tbb
                refine zP_same h0 (zI (-12)) (fun d => ?_) (fun d => ?_)
                · rw [e_X2_copy]
                  simp (disch := omega) only [nrm_id, zix, ↓reduceIte, if_true, if_false, true_and, and_true, false_and, and_false, not_true_eq_false, not_false_eq_true, Int.reduceAdd, Int.reduceSub, Int.reduceMul, ↓if_pos, ↓if_neg, Option.bind_some, Option.toList_some, Option.toList_none, List.append_nil, List.cons_append, List.nil_append, znat, znat1, zpm1, zcm1, zof0, zof1, zof2, zof3, zofa0, zofa1, s_shelfAt _ _ ha, s_shelfAt _ _ hb, b_X2_copy_5 _ _ _ _ _ _ hqa, b_X2_copy_12 _ _ _ _ _ _ hqa hqb, ea, eb, qs]
                · rw [e_X3_copy, r_isShelf _ _ hx]
                  simp (disch := omega) only [nrm_id, zix, ↓reduceIte, if_true, if_false, true_and, and_true, false_and, and_false, not_true_eq_false, not_false_eq_true, Int.reduceAdd, Int.reduceSub, Int.reduceMul, ↓if_pos, ↓if_neg, Option.bind_some, Option.toList_some, Option.toList_none, List.append_nil, List.cons_append, List.nil_append, znat, znat1, zpm1, zcm1, zof0, zof1, zof2, zof3, zofa0, zofa1, b_X3_copy_4, r_isShelf _ _ hy, b_X3_copy_11, s2, r2, ta1, tb1, qs]
    · clear hS
      refine zP_same h0 (zI (-1)) (fun d => ?_) (fun d => ?_)
      · rw [e_X2_copy]
        simp (disch := omega) only [nrm_id, zix, ↓reduceIte, if_true, if_false, true_and, and_true, false_and, and_false, not_true_eq_false, not_false_eq_true, Int.reduceAdd, Int.reduceSub, Int.reduceMul, ↓if_pos, ↓if_neg, Option.bind_some, Option.toList_some, Option.toList_none, List.append_nil, List.cons_append, List.nil_append, znat, znat1, zpm1, zcm1, zof0, zof1, zof2, zof3, zofa0, zofa1, s_shelfAt _ _ ha, b_X2_copy_5 _ _ _ _ _ _ hqa, s_shelfAtN _ _ hy qy, b_X2_copy_12_2 _ _ _ _ _ _ hqa]
      · rw [e_X3_copy, r_isShelf _ _ hx]
        simp (disch := omega) only [nrm_id, zix, ↓reduceIte, if_true, if_false, true_and, and_true, false_and, and_false, not_true_eq_false, not_false_eq_true, Int.reduceAdd, Int.reduceSub, Int.reduceMul, ↓if_pos, ↓if_neg, Option.bind_some, Option.toList_some, Option.toList_none, List.append_nil, List.cons_append, List.nil_append, znat, znat1, zpm1, zcm1, zof0, zof1, zof2, zof3, zofa0, zofa1, b_X3_copy_4, r_isShelf _ _ hy, b_X3_copy_11]
  · clear hS
    refine zP_same h0 (zI (-1)) (fun d => ?_) (fun d => ?_)
    · rw [e_X2_copy]
      by_cases qy : 0 ≤ y ∧ y < 8
      · obtain ⟨b, rfl, hb⟩ := zix_of qy.1 qy.2
        have hqb := zSh_of b hb
        simp (disch := omega) only [nrm_id, zix, ↓reduceIte, if_true, if_false, true_and, and_true, false_and, and_false, not_true_eq_false, not_false_eq_true, Int.reduceAdd, Int.reduceSub, Int.reduceMul, ↓if_pos, ↓if_neg, Option.bind_some, Option.toList_some, Option.toList_none, List.append_nil, List.cons_append, List.nil_append, znat, znat1, zpm1, zcm1, zof0, zof1, zof2, zof3, zofa0, zofa1, s_shelfAtN _ _ hx qx, b_X2_copy_5_2, s_shelfAt _ _ hb, b_X2_copy_12_3 _ _ _ _ _ _ hqb]
      · simp (disch := omega) only [nrm_id, zix, ↓reduceIte, if_true, if_false, true_and, and_true, false_and, and_false, not_true_eq_false, not_false_eq_true, Int.reduceAdd, Int.reduceSub, Int.reduceMul, ↓if_pos, ↓if_neg, Option.bind_some, Option.toList_some, Option.toList_none, List.append_nil, List.cons_append, List.nil_append, znat, znat1, zpm1, zcm1, zof0, zof1, zof2, zof3, zofa0, zofa1, s_shelfAtN _ _ hx qx, b_X2_copy_5_2, s_shelfAtN _ _ hy qy, b_X2_copy_12_4]
    · rw [e_X3_copy, r_isShelf _ _ hx]
      simp (disch := omega) only [nrm_id, zix, ↓reduceIte, if_true, if_false, true_and, and_true, false_and, and_false, not_true_eq_false, not_false_eq_true, Int.reduceAdd, Int.reduceSub, Int.reduceMul, ↓if_pos, ↓if_neg, Option.bind_some, Option.toList_some, Option.toList_none, List.append_nil, List.cons_append, List.nil_append, znat, znat1, zpm1, zcm1, zof0, zof1, zof2, zof3, zofa0, zofa1, b_X3_copy_4]
end SYS24
