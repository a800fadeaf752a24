theorem zi2b_rng (a : Int) : -2147483648 ≤ zi2b a ∧ zi2b a < 2147483648 := ⟨Int32.le_toInt _, Int32.toInt_lt _⟩
theorem zi2b_b (a : Int) : -128 ≤ zi2b a ∧ zi2b a ≤ 127 := by
  have h : zi2b a = (Int32.ofInt a).toInt8.toInt := by unfold zi2b; rw [Int8.toInt_toInt32]
  rw [h]
  have h1 := Int8.le_toInt (Int32.ofInt a).toInt8
  have h2 := Int8.toInt_lt (Int32.ofInt a).toInt8
  omega
theorem zi2s_rng (a : Int) : -2147483648 ≤ zi2s a ∧ zi2s a < 2147483648 := ⟨Int32.le_toInt _, Int32.toInt_lt _⟩
def mlow (s v : Int) : Int := if s = 0 then zi2b v else if s = 1 then zi2s v else v
def mcost (k f : Int) : Int := if k = 1 then 3 + f else if k = 2 then 5 else if k = 3 then 1 else if k = 4 then 1 else if k = 5 then 7 else if k = 6 then 1 + f else if k = 7 then 10 else 3
section SYS14
variable {σ : zS} {K : zK} {T : Int}
theorem s_costOf (d : Nat) {k : Int} (hk : 0 ≤ k ∧ k ≤ 7) (f : Int) : zc d mX2_costOf [zI k, zI f] σ = some (some (zI (mcost k f)), σ) := by
  have h8 : k = 0 ∨ k = 1 ∨ k = 2 ∨ k = 3 ∨ k = 4 ∨ k = 5 ∨ k = 6 ∨ k = 7 := by omega
  rw [e_X2_costOf]
  rcases h8 with rfl | rfl | rfl | rfl | rfl | rfl | rfl | rfl <;> rfl
theorem r_costBy (d : Nat) {k : Int} (hk : 0 ≤ k ∧ k ≤ 7) (f : Int) : zc d mX3_costBy [zI k, zI f] σ = some (some (zI (mcost k f)), σ) := by
  have h8 : k = 0 ∨ k = 1 ∨ k = 2 ∨ k = 3 ∨ k = 4 ∨ k = 5 ∨ k = 6 ∨ k = 7 := by omega
  rw [e_X3_costBy]
  rcases h8 with rfl | rfl | rfl | rfl | rfl | rfl | rfl | rfl <;> rfl
theorem p_cost (h : zSysK K T σ) {x : Int} (hx : R32 x) : zP mX2_cost mX3_cost [zI x] σ := by
  have h0 := h
  obtain ⟨-, -, -, -, -, -, -, hS⟩ := h
  by_cases q : 0 ≤ x ∧ x < 8
  · obtain ⟨i, rfl, hi⟩ := zix_of q.1 q.2
    obtain ⟨s1, s2, s3, -⟩ := hS i hi
    have hq := zSh_of i hi
    have hk := fun d => r_wrongKept (σ := σ) (d + 17) hi (by rw [s2]; exact s1)
    rw [s2] at hk
    rcases s1 with e | e | e
    · clear s3 hS
      refine zP_same h0 (zI (-11)) (fun d => ?_) (fun d => ?_)
      · rw [e_X2_cost]
        simp (disch := omega) only [nrm_id, zix, ↓reduceIte, if_true, if_false, true_and, and_true, false_and, and_false, not_true_eq_false, not_false_eq_true, Int.reduceAdd, Int.reduceSub, Int.reduceMul, ↓if_pos, ↓if_neg, Option.bind_some, Option.toList_some, Option.toList_none, List.append_nil, List.cons_append, List.nil_append, znat, znat1, zpm1, zcm1, zof0, zof1, zof2, zof3, zofa0, zofa1, s_shelfAt _ _ hi, b_X2_cost_5 _ _ hq, s_refusal _ hq (Or.inl rfl) (Or.inl e), e, b_X2_cost_17 _ _ _ hq]
      · rw [e_X3_cost]
        rw [e] at hk
        simp (disch := omega) only [nrm_id, zix, ↓reduceIte, if_true, if_false, true_and, and_true, false_and, and_false, not_true_eq_false, not_false_eq_true, Int.reduceAdd, Int.reduceSub, Int.reduceMul, ↓if_pos, ↓if_neg, Option.bind_some, Option.toList_some, Option.toList_none, List.append_nil, List.cons_append, List.nil_append, znat, znat1, zpm1, zcm1, zof0, zof1, zof2, zof3, zofa0, zofa1, hk, b_X3_cost_5]
    · obtain ⟨t1, t2, t3, t4⟩ := s3 e
      clear s3 hS
      refine zP_same h0 (zI (mcost (σ (20 + 2 * i) 1) (σ (20 + 2 * i) 2))) (fun d => ?_) (fun d => ?_)
      · rw [e_X2_cost]
        simp (disch := omega) only [nrm_id, zix, ↓reduceIte, if_true, if_false, true_and, and_true, false_and, and_false, not_true_eq_false, not_false_eq_true, Int.reduceAdd, Int.reduceSub, Int.reduceMul, ↓if_pos, ↓if_neg, Option.bind_some, Option.toList_some, Option.toList_none, List.append_nil, List.cons_append, List.nil_append, znat, znat1, zpm1, zcm1, zof0, zof1, zof2, zof3, zofa0, zofa1, s_shelfAt _ _ hi, b_X2_cost_5 _ _ hq, s_refusal _ hq (Or.inl rfl) (Or.inr (Or.inl e)), e, b_X2_cost_17 _ _ _ hq, s_costOf _ t3, b_X2_cost_37]
      · rw [e_X3_cost]
        rw [e] at hk
        simp (disch := omega) only [nrm_id, zix, ↓reduceIte, if_true, if_false, true_and, and_true, false_and, and_false, not_true_eq_false, not_false_eq_true, Int.reduceAdd, Int.reduceSub, Int.reduceMul, ↓if_pos, ↓if_neg, Option.bind_some, Option.toList_some, Option.toList_none, List.append_nil, List.cons_append, List.nil_append, znat, znat1, zpm1, zcm1, zof0, zof1, zof2, zof3, zofa0, zofa1, hk, b_X3_cost_5, t1, t2, r_costBy _ t3, b_X3_cost_29]
    · clear s3 hS
      refine zP_same h0 (zI (-12)) (fun d => ?_) (fun d => ?_)
      · rw [e_X2_cost]
        simp (disch := omega) only [nrm_id, zix, ↓reduceIte, if_true, if_false, true_and, and_true, false_and, and_false, not_true_eq_false, not_false_eq_true, Int.reduceAdd, Int.reduceSub, Int.reduceMul, ↓if_pos, ↓if_neg, Option.bind_some, Option.toList_some, Option.toList_none, List.append_nil, List.cons_append, List.nil_append, znat, znat1, zpm1, zcm1, zof0, zof1, zof2, zof3, zofa0, zofa1, s_shelfAt _ _ hi, b_X2_cost_5 _ _ hq, s_refusal _ hq (Or.inl rfl) (Or.inr (Or.inr e)), e, b_X2_cost_17 _ _ _ hq]
      · rw [e_X3_cost]
        rw [e] at hk
        simp (disch := omega) only [nrm_id, zix, ↓reduceIte, if_true, if_false, true_and, and_true, false_and, and_false, not_true_eq_false, not_false_eq_true, Int.reduceAdd, Int.reduceSub, Int.reduceMul, ↓if_pos, ↓if_neg, Option.bind_some, Option.toList_some, Option.toList_none, List.append_nil, List.cons_append, List.nil_append, znat, znat1, zpm1, zcm1, zof0, zof1, zof2, zof3, zofa0, zofa1, hk, b_X3_cost_5]
  · refine zP_same h0 (zI (-1)) (fun d => ?_) (fun d => ?_)
    · rw [e_X2_cost]
      simp (disch := omega) only [nrm_id, zix, ↓reduceIte, if_true, if_false, true_and, and_true, false_and, and_false, not_true_eq_false, not_false_eq_true, Int.reduceAdd, Int.reduceSub, Int.reduceMul, ↓if_pos, ↓if_neg, Option.bind_some, Option.toList_some, Option.toList_none, List.append_nil, List.cons_append, List.nil_append, znat, znat1, zpm1, zcm1, zof0, zof1, zof2, zof3, zofa0, zofa1, s_shelfAtN _ _ hx q, b_X2_cost_5_2]
    · rw [e_X3_cost]
      simp (disch := omega) only [nrm_id, zix, ↓reduceIte, if_true, if_false, true_and, and_true, false_and, and_false, not_true_eq_false, not_false_eq_true, Int.reduceAdd, Int.reduceSub, Int.reduceMul, ↓if_pos, ↓if_neg, Option.bind_some, Option.toList_some, Option.toList_none, List.append_nil, List.cons_append, List.nil_append, znat, znat1, zpm1, zcm1, zof0, zof1, zof2, zof3, zofa0, zofa1, r_wrongKeptN _ hx q, b_X3_cost_5]
theorem s_lowestBits (d : Nat) {s : Int} (hs : 0 ≤ s ∧ s ≤ 2) (v : Int) : zc d mX2_lowestBits [zI s, zI v] σ = some (some (zI (mlow s v)), σ) := by
  rw [e_X2_lowestBits]
  unfold mlow
  have h3 : s = 0 ∨ s = 1 ∨ s = 2 := by omega
  rcases h3 with rfl | rfl | rfl <;> rfl
theorem p_put (h : zSysK K T σ) {x j v : Int} (hx : R32 x) (hj : R32 j) (hv : R32 v) : zP mX2_put mX3_put [zI x, zI j, zI v] σ := by
  have h0 := h
  obtain ⟨-, -, -, -, -, -, -, hS⟩ := h
  obtain ⟨j1, j2⟩ := hj
  by_cases q : 0 ≤ x ∧ x < 8
  · obtain ⟨i, rfl, hi⟩ := zix_of q.1 q.2
    have hSi := hS i hi
    obtain ⟨s1, s2, s3, s4⟩ := hS i hi
    have hq := zSh_of i hi
    have hk := fun d => r_wrongRow (σ := σ) (d + 17) hi (o := -1) (by rw [s2]; exact s1) (Or.inl rfl) (fun e => by rw [s2] at e; have := s4 e; clear s3 s4 hS; omega)
    rw [s2] at hk
    rcases s1 with e | e | e
    · clear s3 s4 hS
      refine zP_same h0 (zI (-11)) (fun d => ?_) (fun d => ?_)
      · rw [e_X2_put]
        simp (disch := omega) only [nrm_id, zix, ↓reduceIte, if_true, if_false, true_and, and_true, false_and, and_false, not_true_eq_false, not_false_eq_true, Int.reduceAdd, Int.reduceSub, Int.reduceMul, ↓if_pos, ↓if_neg, Option.bind_some, Option.toList_some, Option.toList_none, List.append_nil, List.cons_append, List.nil_append, znat, znat1, zpm1, zcm1, zof0, zof1, zof2, zof3, zofa0, zofa1, s_shelfAt _ _ hi, b_X2_put_5 _ _ _ _ hq, s_refusal _ hq (Or.inr rfl) (Or.inl e), e, b_X2_put_20 _ _ _ _ _ hq]
      · rw [e_X3_put]
        rw [e] at hk
        simp (disch := omega) only [nrm_id, zix, ↓reduceIte, if_true, if_false, true_and, and_true, false_and, and_false, not_true_eq_false, not_false_eq_true, Int.reduceAdd, Int.reduceSub, Int.reduceMul, ↓if_pos, ↓if_neg, Option.bind_some, Option.toList_some, Option.toList_none, List.append_nil, List.cons_append, List.nil_append, znat, znat1, zpm1, zcm1, zof0, zof1, zof2, zof3, zofa0, zofa1, hk, b_X3_put_6]
    · clear s3 s4 hS
      refine zP_same h0 (zI (-12)) (fun d => ?_) (fun d => ?_)
      · rw [e_X2_put]
        simp (disch := omega) only [nrm_id, zix, ↓reduceIte, if_true, if_false, true_and, and_true, false_and, and_false, not_true_eq_false, not_false_eq_true, Int.reduceAdd, Int.reduceSub, Int.reduceMul, ↓if_pos, ↓if_neg, Option.bind_some, Option.toList_some, Option.toList_none, List.append_nil, List.cons_append, List.nil_append, znat, znat1, zpm1, zcm1, zof0, zof1, zof2, zof3, zofa0, zofa1, s_shelfAt _ _ hi, b_X2_put_5 _ _ _ _ hq, s_refusal _ hq (Or.inr rfl) (Or.inr (Or.inl e)), e, b_X2_put_20 _ _ _ _ _ hq]
      · rw [e_X3_put]
        rw [e] at hk
        simp (disch := omega) only [nrm_id, zix, ↓reduceIte, if_true, if_false, true_and, and_true, false_and, and_false, not_true_eq_false, not_false_eq_true, Int.reduceAdd, Int.reduceSub, Int.reduceMul, ↓if_pos, ↓if_neg, Option.bind_some, Option.toList_some, Option.toList_none, List.append_nil, List.cons_append, List.nil_append, znat, znat1, zpm1, zcm1, zof0, zof1, zof2, zof3, zofa0, zofa1, hk, b_X3_put_6]
    · obtain ⟨t1, t2, t3, t4, tb, t5⟩ := s4 e
      clear s3 s4 hS
      rw [e] at hk s2
      obtain ⟨n, hn⟩ := Int.eq_ofNat_of_zero_le t4.1
      by_cases qj : 0 ≤ j ∧ j < n
      · obtain ⟨r, rfl, hr⟩ := zix_of qj.1 qj.2
        have hlr : -2147483648 ≤ mlow (σ (20 + 2 * i) 3) v ∧ mlow (σ (20 + 2 * i) 3) v < 2147483648 := by
          unfold mlow
          split
          · exact zi2b_rng v
          · split
            · exact zi2s_rng v
            · exact hv
        intro d
        obtain ⟨L, hL⟩ : ∃ L, mlow (σ (20 + 2 * i) 3) v = L := ⟨_, rfl⟩
        have hk' := r_wrongRow (σ := zup σ (20 + 2 * i + 1) r L) (d + 17) hi (o := -1) (by rw [zup_ne (by omega), s2]; exact Or.inr (Or.inr rfl)) (Or.inl rfl) (fun _ => by rw [zup_ne (by omega)]; omega)
        rw [zup_ne (by omega), s2] at hk'
        have hk0 : zc (d + 19) mX3_wrongRow [zR (some 36), zI i, zI (-1)] (zup σ (20 + 2 * i + 1) r L) = some (some (zI 0), zup σ (20 + 2 * i + 1) r L) := by
          rw [hk']
          simp (disch := omega) only [nrm_id, zix, ↓reduceIte, if_true, if_false, true_and, and_true, false_and, and_false, not_true_eq_false, not_false_eq_true, Int.reduceAdd, Int.reduceSub, Int.reduceMul, ↓if_pos, ↓if_neg, Option.bind_some, Option.toList_some, Option.toList_none, List.append_nil, List.cons_append, List.nil_append, znat, znat1, zpm1, zcm1, zof0, zof1, zof2, zof3, zofa0, zofa1, Int.reduceNeg, Int.reduceEq, false_implies]
        rw [hL] at hlr
        refine ⟨zup σ (20 + 2 * i + 1) r L, zup (zup σ (20 + 2 * i + 1) r L) 50 (100 * i + r) L, zI 0, ?_, ?_, K, T, zSys_shelf h0 hi (fun p h1 h2 h3 => ?_) (fun j hj hji => ?_) (fun p hp => ?_) ?_⟩
        · rw [e_X2_put]
          simp (disch := omega) only [nrm_id, zix, ↓reduceIte, if_true, if_false, true_and, and_true, false_and, and_false, not_true_eq_false, not_false_eq_true, Int.reduceAdd, Int.reduceSub, Int.reduceMul, ↓if_pos, ↓if_neg, Option.bind_some, Option.toList_some, Option.toList_none, List.append_nil, List.cons_append, List.nil_append, znat, znat1, zpm1, zcm1, zof0, zof1, zof2, zof3, zofa0, zofa1, s_shelfAt _ _ hi, b_X2_put_5 _ _ _ _ hq, s_refusal _ hq (Or.inr rfl) (Or.inr (Or.inr e)), e, b_X2_put_20 _ _ _ _ _ hq, e_X1_isPlace _ _ hq, hn, b_X2_put_36 _ _ _ _ _ _ hq, s_lowestBits _ t2, hL, b_X2_put_57 _ _ _ _ _ _ _ hq]
        · rw [e_X3_put]
          have t2' : σ (20 + 2 * i) 3 = 0 ∨ σ (20 + 2 * i) 3 = 1 ∨ σ (20 + 2 * i) 3 = 2 := by omega
          rcases t2' with z | z | z
          · have eL : L = zi2b v := by rw [← hL, z]; rfl
            rw [z] at t1
            rw [eL] at hk0 ⊢
            simp (disch := omega) only [nrm_id, zix, ↓reduceIte, if_true, if_false, true_and, and_true, false_and, and_false, not_true_eq_false, not_false_eq_true, Int.reduceAdd, Int.reduceSub, Int.reduceMul, ↓if_pos, ↓if_neg, Option.bind_some, Option.toList_some, Option.toList_none, List.append_nil, List.cons_append, List.nil_append, znat, znat1, zpm1, zcm1, zof0, zof1, zof2, zof3, zofa0, zofa1, hk0, b_X3_put_6, zup_ne, t3, hn, r_isIn, b_X3_put_29, t1, b_X3_put_75, zof50]
          · have eL : L = zi2s v := by rw [← hL, z]; rfl
            rw [z] at t1
            rw [eL] at hk0 ⊢
            simp (disch := omega) only [nrm_id, zix, ↓reduceIte, if_true, if_false, true_and, and_true, false_and, and_false, not_true_eq_false, not_false_eq_true, Int.reduceAdd, Int.reduceSub, Int.reduceMul, ↓if_pos, ↓if_neg, Option.bind_some, Option.toList_some, Option.toList_none, List.append_nil, List.cons_append, List.nil_append, znat, znat1, zpm1, zcm1, zof0, zof1, zof2, zof3, zofa0, zofa1, hk0, b_X3_put_6, zup_ne, t3, hn, r_isIn, b_X3_put_29, t1, b_X3_put_75, zof50]
          · have eL : L = v := by rw [← hL, z]; rfl
            rw [z] at t1
            rw [eL] at hk0 ⊢
            simp (disch := omega) only [nrm_id, zix, ↓reduceIte, if_true, if_false, true_and, and_true, false_and, and_false, not_true_eq_false, not_false_eq_true, Int.reduceAdd, Int.reduceSub, Int.reduceMul, ↓if_pos, ↓if_neg, Option.bind_some, Option.toList_some, Option.toList_none, List.append_nil, List.cons_append, List.nil_append, znat, znat1, zpm1, zcm1, zof0, zof1, zof2, zof3, zofa0, zofa1, hk0, b_X3_put_6, zup_ne, t3, hn, r_isIn, b_X3_put_29, t1, b_X3_put_75, zof50]
        · simp (disch := omega) only [nrm_id, zix, ↓reduceIte, if_true, if_false, true_and, and_true, false_and, and_false, not_true_eq_false, not_false_eq_true, Int.reduceAdd, Int.reduceSub, Int.reduceMul, ↓if_pos, ↓if_neg, Option.bind_some, Option.toList_some, Option.toList_none, List.append_nil, List.cons_append, List.nil_append, znat, znat1, zpm1, zcm1, zof0, zof1, zof2, zof3, zofa0, zofa1, zup_ne]
        · simp (disch := omega) only [nrm_id, zix, ↓reduceIte, if_true, if_false, true_and, and_true, false_and, and_false, not_true_eq_false, not_false_eq_true, Int.reduceAdd, Int.reduceSub, Int.reduceMul, ↓if_pos, ↓if_neg, Option.bind_some, Option.toList_some, Option.toList_none, List.append_nil, List.cons_append, List.nil_append, znat, znat1, zpm1, zcm1, zof0, zof1, zof2, zof3, zofa0, zofa1, zup_ne]
        · rw [zup_ix (by omega), zup_ne (by omega)]
        · unfold zShR
          refine ⟨?_, ?_, fun a => ?_, fun a => ⟨?_, ?_, ?_, ?_, fun a3 k hk => ?_, fun k hk => ?_⟩⟩
          · rw [zup_ne (by omega), zup_ne (by omega), e]; exact Or.inr (Or.inr rfl)
          · rw [zup_ne (by omega), zup_ne (by omega), zup_ne (by omega), zup_ne (by omega), e]; exact s2
          · rw [zup_ne (by omega), zup_ne (by omega), e] at a; exact absurd a (by decide)
          · rw [zup_ne (by omega), zup_ne (by omega), zup_ne (by omega), zup_ne (by omega)]; exact t1
          · rw [zup_ne (by omega), zup_ne (by omega)]; exact t2
          · rw [zup_ne (by omega), zup_ne (by omega), zup_ne (by omega), zup_ne (by omega)]; exact t3
          · rw [zup_ne (by omega), zup_ne (by omega)]; exact t4
          · rw [zup_ne (by omega), zup_ne (by omega)] at a3
            rw [show 20 + 2 * i + 1 = 21 + 2 * i from by omega, zup_ne (by omega)]
            by_cases ek : k = r
            · subst ek
              rw [zup_at, ← hL]
              unfold mlow
              rw [if_pos a3]
              exact zi2b_b v
            · rw [zup_ix ek]
              exact tb a3 k hk
          · rw [show 20 + 2 * i + 1 = 21 + 2 * i from by omega]
            by_cases ek : k = r
            · subst ek
              rw [zup_at, zup_ne (by omega), zup_at]
              exact ⟨rfl, hlr⟩
            · rw [zup_ix (by omega), zup_ne (by omega), zup_ne (by omega), zup_ix ek]
              exact t5 k hk
      · refine zP_same h0 (zI (-13)) (fun d => ?_) (fun d => ?_)
        · rw [e_X2_put]
          by_cases qj0 : j < 0
          · simp (disch := omega) only [nrm_id, zix, ↓reduceIte, if_true, if_false, true_and, and_true, false_and, and_false, not_true_eq_false, not_false_eq_true, Int.reduceAdd, Int.reduceSub, Int.reduceMul, ↓if_pos, ↓if_neg, Option.bind_some, Option.toList_some, Option.toList_none, List.append_nil, List.cons_append, List.nil_append, znat, znat1, zpm1, zcm1, zof0, zof1, zof2, zof3, zofa0, zofa1, s_shelfAt _ _ hi, b_X2_put_5 _ _ _ _ hq, s_refusal _ hq (Or.inr rfl) (Or.inr (Or.inr e)), e, b_X2_put_20 _ _ _ _ _ hq, e_X1_isPlace _ _ hq, hn, b_X2_put_36 _ _ _ _ _ _ hq]
          · simp (disch := omega) only [nrm_id, zix, ↓reduceIte, if_true, if_false, true_and, and_true, false_and, and_false, not_true_eq_false, not_false_eq_true, Int.reduceAdd, Int.reduceSub, Int.reduceMul, ↓if_pos, ↓if_neg, Option.bind_some, Option.toList_some, Option.toList_none, List.append_nil, List.cons_append, List.nil_append, znat, znat1, zpm1, zcm1, zof0, zof1, zof2, zof3, zofa0, zofa1, s_shelfAt _ _ hi, b_X2_put_5 _ _ _ _ hq, s_refusal _ hq (Or.inr rfl) (Or.inr (Or.inr e)), e, b_X2_put_20 _ _ _ _ _ hq, e_X1_isPlace _ _ hq, hn, b_X2_put_36 _ _ _ _ _ _ hq]
        · rw [e_X3_put]
          simp (disch := omega) only [nrm_id, zix, ↓reduceIte, if_true, if_false, true_and, and_true, false_and, and_false, not_true_eq_false, not_false_eq_true, Int.reduceAdd, Int.reduceSub, Int.reduceMul, ↓if_pos, ↓if_neg, Option.bind_some, Option.toList_some, Option.toList_none, List.append_nil, List.cons_append, List.nil_append, znat, znat1, zpm1, zcm1, zof0, zof1, zof2, zof3, zofa0, zofa1, hk, Int.reduceNeg, Int.reduceEq, false_implies, b_X3_put_6, t3, hn, r_isIn, b_X3_put_29]
  · refine zP_same h0 (zI (-1)) (fun d => ?_) (fun d => ?_)
    · rw [e_X2_put]
      simp (disch := omega) only [nrm_id, zix, ↓reduceIte, if_true, if_false, true_and, and_true, false_and, and_false, not_true_eq_false, not_false_eq_true, Int.reduceAdd, Int.reduceSub, Int.reduceMul, ↓if_pos, ↓if_neg, Option.bind_some, Option.toList_some, Option.toList_none, List.append_nil, List.cons_append, List.nil_append, znat, znat1, zpm1, zcm1, zof0, zof1, zof2, zof3, zofa0, zofa1, s_shelfAtN _ _ hx q, b_X2_put_5_2]
    · rw [e_X3_put]
      simp (disch := omega) only [nrm_id, zix, ↓reduceIte, if_true, if_false, true_and, and_true, false_and, and_false, not_true_eq_false, not_false_eq_true, Int.reduceAdd, Int.reduceSub, Int.reduceMul, ↓if_pos, ↓if_neg, Option.bind_some, Option.toList_some, Option.toList_none, List.append_nil, List.cons_append, List.nil_append, znat, znat1, zpm1, zcm1, zof0, zof1, zof2, zof3, zofa0, zofa1, r_wrongRowN _ hx q, b_X3_put_6]
end SYS14
