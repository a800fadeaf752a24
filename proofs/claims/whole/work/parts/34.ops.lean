/-! bits of small numbers -/
theorem zor_nat {n m : Nat} (hn : n < 2 ^ 31) (hm : m < 2 ^ 31) : zor (n : Int) (m : Int) = ((n ||| m : Nat) : Int) := by
  unfold zor
  rw [Int32.ofInt_eq_ofNat, Int32.ofInt_eq_ofNat]
  have e : nI n ||| nI m = nI (n ||| m) := by
    apply Int32.toBitVec_inj.1
    show BitVec.ofNat 32 n ||| BitVec.ofNat 32 m = BitVec.ofNat 32 (n ||| m)
    apply BitVec.eq_of_getLsbD_eq
    intro i hi
    simp [hi]
  show (nI n ||| nI m).toInt = _
  rw [e, nI_toInt (Nat.or_lt_two_pow hn hm)]
theorem zand_nat {n m : Nat} (hn : n < 2 ^ 31) (hm : m < 2 ^ 31) : zand (n : Int) (m : Int) = ((n &&& m : Nat) : Int) := by
  unfold zand
  rw [Int32.ofInt_eq_ofNat, Int32.ofInt_eq_ofNat]
  have e : nI n &&& nI m = nI (n &&& m) := by
    apply Int32.toBitVec_inj.1
    show BitVec.ofNat 32 n &&& BitVec.ofNat 32 m = BitVec.ofNat 32 (n &&& m)
    apply BitVec.eq_of_getLsbD_eq
    intro i hi
    simp [hi]
  show (nI n &&& nI m).toInt = _
  rw [e, nI_toInt (Nat.lt_of_le_of_lt Nat.and_le_left hn)]
theorem mbit_test (n r : Nat) : mbit (n : Int) r = if n.testBit r then 1 else 0 := by
  unfold mbit
  rw [Nat.testBit_eq_decide_div_mod_eq]
  have e : (n : Int) / 2 ^ r % 2 = ((n / 2 ^ r % 2 : Nat) : Int) := by push_cast; rfl
  rw [e]
  by_cases h : n / 2 ^ r % 2 = 1
  · simp [h]
  · simp [h]
    omega
theorem mbit_zor {B R : Int} (hB : 0 ≤ B ∧ B < 256) (hR : 0 ≤ R ∧ R < 256) (r : Nat) : mbit (zor B R) r = if mbit R r = 1 then 1 else mbit B r := by
  obtain ⟨n, rfl⟩ := Int.eq_ofNat_of_zero_le hB.1
  obtain ⟨m, rfl⟩ := Int.eq_ofNat_of_zero_le hR.1
  rw [zor_nat (by omega) (by omega), mbit_test, mbit_test, mbit_test, Nat.testBit_or]
  cases n.testBit r <;> cases m.testBit r <;> rfl
theorem zor_rng {B R : Int} (hB : 0 ≤ B ∧ B < 256) (hR : 0 ≤ R ∧ R < 256) : 0 ≤ zor B R ∧ zor B R < 256 := by
  obtain ⟨n, rfl⟩ := Int.eq_ofNat_of_zero_le hB.1
  obtain ⟨m, rfl⟩ := Int.eq_ofNat_of_zero_le hR.1
  rw [zor_nat (by omega) (by omega)]
  have := Nat.or_lt_two_pow (x := n) (y := m) (n := 8) (by omega) (by omega)
  omega
theorem zshl1 : ∀ r : Nat, r < 10 → zshl 1 (r : Int) = ((2 ^ r : Nat) : Int) := by decide +kernel
theorem mbit_pow (i r : Nat) : mbit ((2 ^ i : Nat) : Int) r = if i = r then 1 else 0 := by
  rw [mbit_test, Nat.testBit_two_pow]
  by_cases h : i = r <;> simp [h]
/-! the class's copies and blocks -/
theorem zcpy_ne {σ : zS} {a sp b dp n x : Nat} (h : x ≠ b) : zcpy σ a sp b dp n x = σ x := by
  funext j; unfold zcpy; rw [if_neg fun e => h e.1]
theorem zcpy_0 {σ : zS} {a b n j : Nat} (h : j < n) : zcpy σ a 0 b 0 n b j = σ a j := by
  unfold zcpy; rw [if_pos ⟨rfl, by omega, by omega⟩]; simp
theorem zCo_ap {a b : Nat} (h : zCo a) (h2 : zCo b) (hn : a ≠ b) : a + 5 ≤ b ∨ b + 5 ≤ a := by unfold zCo at *; omega
theorem s_copyFrom (d : Nat) {a b : Nat} (ha : zCo a) (hb : zCo b) (hn : a ≠ b) {σ : zS} {K : zK} (h : AbsC σ b K) : ∃ σ' : zS, zc (d + 1) mX0_copyFrom [zR (some a), zR (some b)] σ = some (none, σ') ∧ AbsC σ' a K ∧ σ' a 2 = σ b 2 ∧ zFr [a, a + 1, a + 2, a + 3] σ σ' := by
  have hx := zCo_ap ha hb hn
  obtain ⟨h0, h1, e1, e2, e3, e4, e5⟩ := h
  refine ⟨_, e_X0_copyFrom _ ha hb σ, ⟨?_, ?_, ?_, ?_, ?_, ?_, ?_⟩, ?_, ?_⟩
  · simp (disch := omega) only [nrm_id, zix, ↓reduceIte, if_true, if_false, true_and, and_true, false_and, and_false, not_true_eq_false, not_false_eq_true, Int.reduceAdd, Int.reduceSub, Int.reduceMul, ↓if_pos, ↓if_neg, Option.bind_some, Option.toList_some, Option.toList_none, List.append_nil, List.cons_append, List.nil_append, znat, znat1, zpm1, zcm1, zof0, zof1, zof2, zof3, zofa0, zofa1, zcpy_ne, zup_ne, zup_at, zup_ix, h0]
  · simp (disch := omega) only [nrm_id, zix, ↓reduceIte, if_true, if_false, true_and, and_true, false_and, and_false, not_true_eq_false, not_false_eq_true, Int.reduceAdd, Int.reduceSub, Int.reduceMul, ↓if_pos, ↓if_neg, Option.bind_some, Option.toList_some, Option.toList_none, List.append_nil, List.cons_append, List.nil_append, znat, znat1, zpm1, zcm1, zof0, zof1, zof2, zof3, zofa0, zofa1, zcpy_ne, zup_ne, zup_at, zup_ix, h1]
  · intro r hr
    rw [← e1 r hr]
    simp (disch := omega) only [nrm_id, zix, ↓reduceIte, if_true, if_false, true_and, and_true, false_and, and_false, not_true_eq_false, not_false_eq_true, Int.reduceAdd, Int.reduceSub, Int.reduceMul, ↓if_pos, ↓if_neg, Option.bind_some, Option.toList_some, Option.toList_none, List.append_nil, List.cons_append, List.nil_append, znat, znat1, zpm1, zcm1, zof0, zof1, zof2, zof3, zofa0, zofa1, zcpy_ne, zcpy_0, zup_ne, zup_at, zup_ix]
  · intro r hr
    rw [← e2 r hr]
    simp (disch := omega) only [nrm_id, zix, ↓reduceIte, if_true, if_false, true_and, and_true, false_and, and_false, not_true_eq_false, not_false_eq_true, Int.reduceAdd, Int.reduceSub, Int.reduceMul, ↓if_pos, ↓if_neg, Option.bind_some, Option.toList_some, Option.toList_none, List.append_nil, List.cons_append, List.nil_append, znat, znat1, zpm1, zcm1, zof0, zof1, zof2, zof3, zofa0, zofa1, zcpy_ne, zcpy_0, zup_ne, zup_at, zup_ix]
  · intro r hr
    rw [← e3 r hr]
    simp (disch := omega) only [nrm_id, zix, ↓reduceIte, if_true, if_false, true_and, and_true, false_and, and_false, not_true_eq_false, not_false_eq_true, Int.reduceAdd, Int.reduceSub, Int.reduceMul, ↓if_pos, ↓if_neg, Option.bind_some, Option.toList_some, Option.toList_none, List.append_nil, List.cons_append, List.nil_append, znat, znat1, zpm1, zcm1, zof0, zof1, zof2, zof3, zofa0, zofa1, zcpy_ne, zcpy_0, zup_ne, zup_at, zup_ix]
  · simp (disch := omega) only [nrm_id, zix, ↓reduceIte, if_true, if_false, true_and, and_true, false_and, and_false, not_true_eq_false, not_false_eq_true, Int.reduceAdd, Int.reduceSub, Int.reduceMul, ↓if_pos, ↓if_neg, Option.bind_some, Option.toList_some, Option.toList_none, List.append_nil, List.cons_append, List.nil_append, znat, znat1, zpm1, zcm1, zof0, zof1, zof2, zof3, zofa0, zofa1, zcpy_ne, zup_ne, zup_at, zup_ix]
    exact e4
  · simp (disch := omega) only [nrm_id, zix, ↓reduceIte, if_true, if_false, true_and, and_true, false_and, and_false, not_true_eq_false, not_false_eq_true, Int.reduceAdd, Int.reduceSub, Int.reduceMul, ↓if_pos, ↓if_neg, Option.bind_some, Option.toList_some, Option.toList_none, List.append_nil, List.cons_append, List.nil_append, znat, znat1, zpm1, zcm1, zof0, zof1, zof2, zof3, zofa0, zofa1, zcpy_ne, zup_ne, zup_at, zup_ix]
    exact e5
  · simp (disch := omega) only [nrm_id, zix, ↓reduceIte, if_true, if_false, true_and, and_true, false_and, and_false, not_true_eq_false, not_false_eq_true, Int.reduceAdd, Int.reduceSub, Int.reduceMul, ↓if_pos, ↓if_neg, Option.bind_some, Option.toList_some, Option.toList_none, List.append_nil, List.cons_append, List.nil_append, znat, znat1, zpm1, zcm1, zof0, zof1, zof2, zof3, zofa0, zofa1, zcpy_ne, zup_ne, zup_at, zup_ix]
  · intro q hq
    simp only [List.mem_cons, List.not_mem_nil, or_false, not_or] at hq
    obtain ⟨q0, q1, q2, q3⟩ := hq
    rw [zcpy_ne q3, zcpy_ne q2, zcpy_ne q1, zup_ne q0, zup_ne q0, zup_ne q0, zup_ne q0]
/-- rows of a set blocked too -/
abbrev mblk (K : zK) (R : Int) : zK := (K.1, K.2.1, K.2.2.1, K.2.2.2.1, fun r => if mbit R r = 1 then 0 else K.2.2.2.2.1 r, fun r => if mbit R r = 1 then 1 else K.2.2.2.2.2 r)
theorem mblk_ok {K : zK} (h : mOk K) {R : Int} (hR : ∀ r, r < 8 → mbit R r = 1 → r < K.1) : mOk (mblk K R) := by
  refine ⟨h.1, h.2.1, h.2.2.1, h.2.2.2.1, fun r hr => ?_, fun r hr => ⟨?_, fun e => ?_, fun e => ?_⟩⟩
  · show 0 ≤ (if mbit R r = 1 then 0 else K.2.2.2.2.1 r) ∧ (if mbit R r = 1 then 0 else K.2.2.2.2.1 r) ≤ 10
    split
    · omega
    · exact h.2.2.2.2.1 r hr
  · show (if mbit R r = 1 then 1 else K.2.2.2.2.2 r) = 0 ∨ (if mbit R r = 1 then 1 else K.2.2.2.2.2 r) = 1
    split
    · omega
    · exact (h.2.2.2.2.2 r hr).1
  · show (if mbit R r = 1 then 1 else K.2.2.2.2.2 r) = 0
    have e : K.1 ≤ r := e
    split
    · rename_i h1; have := hR r hr h1; omega
    · exact (h.2.2.2.2.2 r hr).2.1 e
  · show (if mbit R r = 1 then 0 else K.2.2.2.2.1 r) = 0
    have e : (if mbit R r = 1 then 1 else K.2.2.2.2.2 r) = 1 := e
    split
    · rfl
    · rename_i h1; rw [if_neg h1] at e; exact (h.2.2.2.2.2 r hr).2.2 e
theorem s_block (d : Nat) {c : Nat} (hc : zCo c) {σ : zS} {K : zK} (h : AbsC σ c K) (hO : mOk K) {R : Int} (hR : 0 ≤ R ∧ R < 256) (hRp : ∀ r, r < 8 → mbit R r = 1 → r < K.1) : ∃ σ' : zS, zc (d + 1) mX0_block [zR (some c), zI R] σ = some (none, σ') ∧ AbsC σ' c (mblk K R) ∧ σ' c 2 = σ c 2 ∧ zFr [c, c + 3] σ σ' := by
  have hp := hO.1
  obtain ⟨h0, h1, e1, e2, e3, e4, e5⟩ := h
  have nb : ∀ r, r < 8 → mbit (zor (σ c 3) R) r = (mblk K R).2.2.2.2.2 r := fun r hr => by rw [mbit_zor e4 hR, e5 r hr]
  have lp : ∀ (m i : Nat) (τ : zS), i + m = K.1 → AbsC τ c (Kst (mblk K R) (fun r => if r < i then (mblk K R).2.2.2.2.1 r else K.2.2.2.2.1 r)) → ∃ σ' : zS, zq (d + 1) mX0_block 12 [some (zR (some c)), none, some (zI i)] [] τ = some (none, σ') ∧ AbsC σ' c (mblk K R) ∧ zFr [c + 3] τ σ' := by
    intro m
    induction m with
    | zero =>
      intro i τ hi hA
      refine ⟨τ, ?_, AbsC_cong2 (t' := (mblk K R).2.2.2.2.1) hA (fun r hr => ?_), zFr_rf _ _⟩
      · rw [b_X0_block_12 _ _ hc, hA.1]
        simp (disch := omega) only [nrm_id, zix, ↓reduceIte, if_true, if_false, true_and, and_true, false_and, and_false, not_true_eq_false, not_false_eq_true, Int.reduceAdd, Int.reduceSub, Int.reduceMul, ↓if_pos, ↓if_neg, Option.bind_some, Option.toList_some, Option.toList_none, List.append_nil, List.cons_append, List.nil_append, znat, znat1, zpm1, zcm1, zof0, zof1, zof2, zof3, zofa0, zofa1]
      · by_cases q : r < i
        · rw [if_pos q]
        · rw [if_neg q]
          show K.2.2.2.2.1 r = if mbit R r = 1 then 0 else K.2.2.2.2.1 r
          split
          · rename_i h9; have := hRp r hr h9; omega
          · rfl
    | succ m ih =>
      intro i τ hi hA
      have hb := s_isBlocked d hc hA (r := i) (by omega)
      have h01 := (hO.2.2.2.2.2 i (by omega))
      rw [b_X0_block_12 _ _ hc, hA.1]
      by_cases q : mbit R i = 1
      · have hb1 : (Kst (mblk K R) (fun r => if r < i then (mblk K R).2.2.2.2.1 r else K.2.2.2.2.1 r)).2.2.2.2.2 i = 1 := if_pos q
        rw [hb1] at hb
        simp (disch := omega) only [nrm_id, zix, ↓reduceIte, if_true, if_false, true_and, and_true, false_and, and_false, not_true_eq_false, not_false_eq_true, Int.reduceAdd, Int.reduceSub, Int.reduceMul, ↓if_pos, ↓if_neg, Option.bind_some, Option.toList_some, Option.toList_none, List.append_nil, List.cons_append, List.nil_append, znat, znat1, zpm1, zcm1, zof0, zof1, zof2, zof3, zofa0, zofa1, hb, b_X0_block_25 _ _ _ hc, b_X0_block_35 _ _ hc]
        obtain ⟨σ', g1, g2, g3⟩ := ih (i + 1) (zup τ (c + 3) i 0) (by omega) (AbsC_cong2 (AbsC_tip hA) (fun r hr => by
          show (if r = i then 0 else if r < i then (mblk K R).2.2.2.2.1 r else K.2.2.2.2.1 r) = if r < i + 1 then (mblk K R).2.2.2.2.1 r else K.2.2.2.2.1 r
          by_cases e : r = i
          · subst e; rw [if_pos rfl, if_pos (by omega)]; exact (if_pos q).symm
          · rw [if_neg e]
            by_cases e' : r < i
            · rw [if_pos e', if_pos (by omega)]
            · rw [if_neg e', if_neg (by omega)]))
        exact ⟨σ', g1, g2, zFr_tr (zFr_up (by simp)) g3⟩
      · have hb1 : (Kst (mblk K R) (fun r => if r < i then (mblk K R).2.2.2.2.1 r else K.2.2.2.2.1 r)).2.2.2.2.2 i = K.2.2.2.2.2 i := if_neg q
        rw [hb1] at hb
        have ht : (mblk K R).2.2.2.2.1 i = K.2.2.2.2.1 i := if_neg q
        rcases h01.1 with e0 | e0
        · rw [e0] at hb
          simp (disch := omega) only [nrm_id, zix, ↓reduceIte, if_true, if_false, true_and, and_true, false_and, and_false, not_true_eq_false, not_false_eq_true, Int.reduceAdd, Int.reduceSub, Int.reduceMul, ↓if_pos, ↓if_neg, Option.bind_some, Option.toList_some, Option.toList_none, List.append_nil, List.cons_append, List.nil_append, znat, znat1, zpm1, zcm1, zof0, zof1, zof2, zof3, zofa0, zofa1, hb, b_X0_block_25 _ _ _ hc, b_X0_block_35 _ _ hc]
          obtain ⟨σ', g1, g2, g3⟩ := ih (i + 1) τ (by omega) (AbsC_cong2 hA (fun r hr => by
            by_cases e : r = i
            · subst e; rw [if_neg (by omega), if_pos (by omega), ht]
            · by_cases e' : r < i
              · rw [if_pos e', if_pos (by omega)]
              · rw [if_neg e', if_neg (by omega)]))
          exact ⟨σ', g1, g2, g3⟩
        · rw [e0] at hb
          have ht0 := h01.2.2 e0
          simp (disch := omega) only [nrm_id, zix, ↓reduceIte, if_true, if_false, true_and, and_true, false_and, and_false, not_true_eq_false, not_false_eq_true, Int.reduceAdd, Int.reduceSub, Int.reduceMul, ↓if_pos, ↓if_neg, Option.bind_some, Option.toList_some, Option.toList_none, List.append_nil, List.cons_append, List.nil_append, znat, znat1, zpm1, zcm1, zof0, zof1, zof2, zof3, zofa0, zofa1, hb, b_X0_block_25 _ _ _ hc, b_X0_block_35 _ _ hc]
          obtain ⟨σ', g1, g2, g3⟩ := ih (i + 1) (zup τ (c + 3) i 0) (by omega) (AbsC_cong2 (AbsC_tip hA) (fun r hr => by
            show (if r = i then 0 else if r < i then (mblk K R).2.2.2.2.1 r else K.2.2.2.2.1 r) = if r < i + 1 then (mblk K R).2.2.2.2.1 r else K.2.2.2.2.1 r
            by_cases e : r = i
            · subst e; rw [if_pos rfl, if_pos (by omega), ht, ht0]
            · rw [if_neg e]
              by_cases e' : r < i
              · rw [if_pos e', if_pos (by omega)]
              · rw [if_neg e', if_neg (by omega)]))
          exact ⟨σ', g1, g2, zFr_tr (zFr_up (by simp)) g3⟩
  obtain ⟨σ', g1, g2, g3⟩ := lp K.1 0 (zup σ c 3 (zor (σ c 3) R)) (by omega) (by
    refine ⟨?_, ?_, ?_, ?_, ?_, ?_, ?_⟩
    · simp (disch := omega) only [nrm_id, zix, ↓reduceIte, if_true, if_false, true_and, and_true, false_and, and_false, not_true_eq_false, not_false_eq_true, Int.reduceAdd, Int.reduceSub, Int.reduceMul, ↓if_pos, ↓if_neg, Option.bind_some, Option.toList_some, Option.toList_none, List.append_nil, List.cons_append, List.nil_append, znat, znat1, zpm1, zcm1, zof0, zof1, zof2, zof3, zofa0, zofa1, zup_ix, h0]
    · simp (disch := omega) only [nrm_id, zix, ↓reduceIte, if_true, if_false, true_and, and_true, false_and, and_false, not_true_eq_false, not_false_eq_true, Int.reduceAdd, Int.reduceSub, Int.reduceMul, ↓if_pos, ↓if_neg, Option.bind_some, Option.toList_some, Option.toList_none, List.append_nil, List.cons_append, List.nil_append, znat, znat1, zpm1, zcm1, zof0, zof1, zof2, zof3, zofa0, zofa1, zup_ix, h1]
    · intro r hr; rw [zup_ne (by omega)]; exact e1 r hr
    · intro r hr; rw [zup_ne (by omega)]; exact e2 r hr
    · intro r hr; rw [zup_ne (by omega)]; exact e3 r hr
    · rw [zup_at]; exact zor_rng e4 hR
    · intro r hr; rw [zup_at]; exact nb r hr)
  refine ⟨σ', ?_, g2, ?_, zFr_tr (zFr_up (by simp)) (zFr_mono g3 (by simp))⟩
  · rw [e_X0_block _ _ hc]
    exact g1
  · rw [g3 c (by simp), zup_ix (by omega)]
theorem s_thinkOn (d : Nat) {σ : zS} {K : zK} (h : AbsC σ 1 K) (hO : mOk K) {n : Nat} (hn : n < 1000) : ∃ σ' : zS, zc (d + 4) mX2_thinkOn [zR (some 0), zI n] σ = some (none, σ') ∧ AbsC σ' 6 (mrounds n K) ∧ zFr [6, 7, 8, 9, 10] σ σ' := by
  obtain ⟨σ1, a1, a2, -, a3⟩ := s_copyFrom (d + 2) zCo6 zCo1 (by decide) h
  obtain ⟨σ2, b1, b2, b3⟩ := s_goOn d zCo6 a2 hO hn
  refine ⟨σ2, ?_, b2, zFr_tr (zFr_mono a3 (by simp)) (zFr_mono b3 (by simp))⟩
  rw [e_X2_thinkOn]
  simp (disch := omega) only [nrm_id, zix, ↓reduceIte, if_true, if_false, true_and, and_true, false_and, and_false, not_true_eq_false, not_false_eq_true, Int.reduceAdd, Int.reduceSub, Int.reduceMul, ↓if_pos, ↓if_neg, Option.bind_some, Option.toList_some, Option.toList_none, List.append_nil, List.cons_append, List.nil_append, znat, znat1, zpm1, zcm1, zof0, zof1, zof2, zof3, zofa0, zofa1, a1, b_X2_thinkOn_11, b1, b_X2_thinkOn_19]
theorem s_thinkOnBlocked (d : Nat) {σ : zS} {K : zK} (h : AbsC σ 1 K) (hO : mOk K) {n : Nat} (hn : n < 1000) {R : Int} (hR : 0 ≤ R ∧ R < 256) (hRp : ∀ r, r < 8 → mbit R r = 1 → r < K.1) : ∃ σ' : zS, zc (d + 4) mX2_thinkOnBlocked [zR (some 0), zI R, zI n] σ = some (none, σ') ∧ AbsC σ' 6 (mrounds n (mblk K R)) ∧ zFr [6, 7, 8, 9, 10] σ σ' := by
  obtain ⟨σ1, a1, a2, -, a3⟩ := s_copyFrom (d + 2) zCo6 zCo1 (by decide) h
  obtain ⟨σ2, b1, b2, -, b3⟩ := s_block (d + 2) zCo6 a2 hO hR hRp
  obtain ⟨σ3, c1, c2, c3⟩ := s_goOn d zCo6 b2 (mblk_ok hO hRp) hn
  refine ⟨σ3, ?_, c2, zFr_tr (zFr_mono a3 (by simp)) (zFr_tr (zFr_mono b3 (by simp)) (zFr_mono c3 (by simp)))⟩
  rw [e_X2_thinkOnBlocked]
  simp (disch := omega) only [nrm_id, zix, ↓reduceIte, if_true, if_false, true_and, and_true, false_and, and_false, not_true_eq_false, not_false_eq_true, Int.reduceAdd, Int.reduceSub, Int.reduceMul, ↓if_pos, ↓if_neg, Option.bind_some, Option.toList_some, Option.toList_none, List.append_nil, List.cons_append, List.nil_append, znat, znat1, zpm1, zcm1, zof0, zof1, zof2, zof3, zofa0, zofa1, a1, b_X2_thinkOnBlocked_11, b1, b_X2_thinkOnBlocked_19, c1, b_X2_thinkOnBlocked_27]
theorem s_isMind (d : Nat) (σ : zS) {x : Int} (h1 : -2147483648 ≤ x) (h2 : x < 2147483648) : zc d mX2_isMindRounds [zI x] σ = some (some (zI (if 0 ≤ x ∧ x ≤ 60 then 1 else 0)), σ) := by
  rw [e_X2_isMindRounds]
  by_cases a : 0 ≤ x ∧ x ≤ 60
  · simp (disch := omega) only [nrm_id, zix, ↓reduceIte, if_true, if_false, true_and, and_true, false_and, and_false, not_true_eq_false, not_false_eq_true, Int.reduceAdd, Int.reduceSub, Int.reduceMul, ↓if_pos, ↓if_neg, Option.bind_some, Option.toList_some, Option.toList_none, List.append_nil, List.cons_append, List.nil_append, znat, znat1, zpm1, zcm1, zof0, zof1, zof2, zof3, zofa0, zofa1, a]
  · by_cases b : x < 0 <;> simp (disch := omega) only [nrm_id, zix, ↓reduceIte, if_true, if_false, true_and, and_true, false_and, and_false, not_true_eq_false, not_false_eq_true, Int.reduceAdd, Int.reduceSub, Int.reduceMul, ↓if_pos, ↓if_neg, Option.bind_some, Option.toList_some, Option.toList_none, List.append_nil, List.cons_append, List.nil_append, znat, znat1, zpm1, zcm1, zof0, zof1, zof2, zof3, zofa0, zofa1]
theorem s_hasOne (d : Nat) {σ : zS} {K : zK} (h : AbsC σ 1 K) (hO : mOk K) {x : Int} (h1 : -2147483648 ≤ x) (h2 : x < 2147483648) : zc (d + 1) mX2_hasOneBehind [zR (some 0), zI x] σ = some (some (zI (if 0 ≤ x ∧ x + 1 < K.1 then 1 else 0)), σ) := by
  have hp := hO.1
  rw [e_X2_hasOneBehind, s_isRow _ zCo1 h hO h1 h2]
  by_cases a : 0 ≤ x ∧ x < K.1
  · by_cases b : x + 1 < K.1 <;> simp (disch := omega) only [nrm_id, zix, ↓reduceIte, if_true, if_false, true_and, and_true, false_and, and_false, not_true_eq_false, not_false_eq_true, Int.reduceAdd, Int.reduceSub, Int.reduceMul, ↓if_pos, ↓if_neg, Option.bind_some, Option.toList_some, Option.toList_none, List.append_nil, List.cons_append, List.nil_append, znat, znat1, zpm1, zcm1, zof0, zof1, zof2, zof3, zofa0, zofa1, b_X2_hasOneBehind_8, s_isRow _ zCo1 h hO, b_X2_hasOneBehind_21]
  · simp (disch := omega) only [nrm_id, zix, ↓reduceIte, if_true, if_false, true_and, and_true, false_and, and_false, not_true_eq_false, not_false_eq_true, Int.reduceAdd, Int.reduceSub, Int.reduceMul, ↓if_pos, ↓if_neg, Option.bind_some, Option.toList_some, Option.toList_none, List.append_nil, List.cons_append, List.nil_append, znat, znat1, zpm1, zcm1, zof0, zof1, zof2, zof3, zofa0, zofa1, b_X2_hasOneBehind_8]
