theorem zrf16 : ∀ i : Nat, i < 8 → zrf 16 i = some (20 + 2 * i) := by decide +kernel
theorem zSh_of : ∀ i : Nat, i < 8 → zSh (20 + 2 * i) := by unfold zSh; intro i hi; omega
theorem s_shelfAt (d : Nat) (σ : zS) {i : Nat} (hi : i < 8) : zc d mX2_shelfAt [zR (some 0), zI i] σ = some (some (zR (some (20 + 2 * i))), σ) := by
  rw [e_X2_shelfAt]
  simp (disch := omega) only [nrm_id, zix, ↓reduceIte, if_true, if_false, true_and, and_true, false_and, and_false, not_true_eq_false, not_false_eq_true, Int.reduceAdd, Int.reduceSub, Int.reduceMul, ↓if_pos, ↓if_neg, Option.bind_some, Option.toList_some, Option.toList_none, List.append_nil, List.cons_append, List.nil_append, znat, znat1, zpm1, zcm1, zof0, zof1, zof2, zof3, zofa0, zofa1, zrf16 i hi]
theorem s_shelfAtN (d : Nat) (σ : zS) {x : Int} (hx : R32 x) (hn : ¬ (0 ≤ x ∧ x < 8)) : zc d mX2_shelfAt [zR (some 0), zI x] σ = some (some (zR none), σ) := by
  obtain ⟨h1, h2⟩ := hx
  rw [e_X2_shelfAt]
  by_cases q : x < 0
  · simp (disch := omega) only [nrm_id, zix, ↓reduceIte, if_true, if_false, true_and, and_true, false_and, and_false, not_true_eq_false, not_false_eq_true, Int.reduceAdd, Int.reduceSub, Int.reduceMul, ↓if_pos, ↓if_neg, Option.bind_some, Option.toList_some, Option.toList_none, List.append_nil, List.cons_append, List.nil_append, znat, znat1, zpm1, zcm1, zof0, zof1, zof2, zof3, zofa0, zofa1, q]
  · simp (disch := omega) only [nrm_id, zix, ↓reduceIte, if_true, if_false, true_and, and_true, false_and, and_false, not_true_eq_false, not_false_eq_true, Int.reduceAdd, Int.reduceSub, Int.reduceMul, ↓if_pos, ↓if_neg, Option.bind_some, Option.toList_some, Option.toList_none, List.append_nil, List.cons_append, List.nil_append, znat, znat1, zpm1, zcm1, zof0, zof1, zof2, zof3, zofa0, zofa1]
theorem s_refusal (d : Nat) {q : Nat} (hq : zSh q) {σ : zS} {w : Int} (hw : w = 1 ∨ w = 2) (h : σ q 0 = 0 ∨ σ q 0 = 1 ∨ σ q 0 = 2) : zc d mX1_refusalUnless [zR (some q), zI w] σ = some (some (zI (if σ q 0 = 0 then -11 else if σ q 0 = w then 0 else -12)), σ) := by
  rw [e_X1_refusalUnless _ _ hq]
  rcases h with e | e | e <;> rcases hw with rfl | rfl <;> rw [e] <;> simp (disch := omega) only [nrm_id, zix, ↓reduceIte, if_true, if_false, true_and, and_true, false_and, and_false, not_true_eq_false, not_false_eq_true, Int.reduceAdd, Int.reduceSub, Int.reduceMul, ↓if_pos, ↓if_neg, Option.bind_some, Option.toList_some, Option.toList_none, List.append_nil, List.cons_append, List.nil_append, znat, znat1, zpm1, zcm1, zof0, zof1, zof2, zof3, zofa0, zofa1] <;> rfl
theorem r_isShelf (d : Nat) (σ : zS) {x : Int} (hx : R32 x) : zc (d + 1) mX3_isShelf [zI x] σ = some (some (zI (if 0 ≤ x ∧ x < 8 then 1 else 0)), σ) := by
  rw [e_X3_isShelf, r_isIn _ _ hx (by omega) (by omega)]
  obtain ⟨h1, h2⟩ := hx
  by_cases q : 0 ≤ x ∧ x < 8
  · simp (disch := omega) only [nrm_id, zix, ↓reduceIte, if_true, if_false, true_and, and_true, false_and, and_false, not_true_eq_false, not_false_eq_true, Int.reduceAdd, Int.reduceSub, Int.reduceMul, ↓if_pos, ↓if_neg, Option.bind_some, Option.toList_some, Option.toList_none, List.append_nil, List.cons_append, List.nil_append, znat, znat1, zpm1, zcm1, zof0, zof1, zof2, zof3, zofa0, zofa1, b_X3_isShelf_7, true_or, or_true]
  · simp (disch := omega) only [nrm_id, zix, ↓reduceIte, if_true, if_false, true_and, and_true, false_and, and_false, not_true_eq_false, not_false_eq_true, Int.reduceAdd, Int.reduceSub, Int.reduceMul, ↓if_pos, ↓if_neg, Option.bind_some, Option.toList_some, Option.toList_none, List.append_nil, List.cons_append, List.nil_append, znat, znat1, zpm1, zcm1, zof0, zof1, zof2, zof3, zofa0, zofa1, b_X3_isShelf_7, true_or, or_true]
theorem r_wrongKept (d : Nat) {σ : zS} {i : Nat} (hi : i < 8) (h : σ 45 i = 0 ∨ σ 45 i = 1 ∨ σ 45 i = 2) : zc (d + 2) mX3_wrongKept [zR (some 36), zI i] σ = some (some (zI (if σ 45 i = 0 then -11 else if σ 45 i = 2 then -12 else 0)), σ) := by
  rw [e_X3_wrongKept, r_isShelf _ _ ⟨by omega, by omega⟩]
  rcases h with e | e | e <;> simp (disch := omega) only [nrm_id, zix, ↓reduceIte, if_true, if_false, true_and, and_true, false_and, and_false, not_true_eq_false, not_false_eq_true, Int.reduceAdd, Int.reduceSub, Int.reduceMul, ↓if_pos, ↓if_neg, Option.bind_some, Option.toList_some, Option.toList_none, List.append_nil, List.cons_append, List.nil_append, znat, znat1, zpm1, zcm1, zof0, zof1, zof2, zof3, zofa0, zofa1, b_X3_wrongKept_4, e] <;> rfl
theorem r_wrongKeptN (d : Nat) {σ : zS} {x : Int} (hx : R32 x) (hn : ¬ (0 ≤ x ∧ x < 8)) : zc (d + 2) mX3_wrongKept [zR (some 36), zI x] σ = some (some (zI (-1)), σ) := by
  rw [e_X3_wrongKept, r_isShelf _ _ hx]
  simp (disch := omega) only [nrm_id, zix, ↓reduceIte, if_true, if_false, true_and, and_true, false_and, and_false, not_true_eq_false, not_false_eq_true, Int.reduceAdd, Int.reduceSub, Int.reduceMul, ↓if_pos, ↓if_neg, Option.bind_some, Option.toList_some, Option.toList_none, List.append_nil, List.cons_append, List.nil_append, znat, znat1, zpm1, zcm1, zof0, zof1, zof2, zof3, zofa0, zofa1, b_X3_wrongKept_4]
theorem r_wrongRow (d : Nat) {σ : zS} {i : Nat} (hi : i < 8) (h : σ 45 i = 0 ∨ σ 45 i = 1 ∨ σ 45 i = 2) {o : Int} (ho : o = -1 ∨ o = 0) (h2 : σ 45 i = 2 → 0 ≤ σ 48 i ∧ σ 48 i ≤ 2) : zc (d + 2) mX3_wrongRow [zR (some 36), zI i, zI o] σ = some (some (zI (if σ 45 i = 0 then -11 else if σ 45 i = 2 ∧ (o = 0 → σ 48 i = 0) then 0 else -12)), σ) := by
  rw [e_X3_wrongRow, r_isShelf _ _ ⟨by omega, by omega⟩]
  rcases h with e | e | e
  · simp (disch := omega) only [nrm_id, zix, ↓reduceIte, if_true, if_false, true_and, and_true, false_and, and_false, not_true_eq_false, not_false_eq_true, Int.reduceAdd, Int.reduceSub, Int.reduceMul, ↓if_pos, ↓if_neg, Option.bind_some, Option.toList_some, Option.toList_none, List.append_nil, List.cons_append, List.nil_append, znat, znat1, zpm1, zcm1, zof0, zof1, zof2, zof3, zofa0, zofa1, b_X3_wrongRow_4, e]
  · simp (disch := omega) only [nrm_id, zix, ↓reduceIte, if_true, if_false, true_and, and_true, false_and, and_false, not_true_eq_false, not_false_eq_true, Int.reduceAdd, Int.reduceSub, Int.reduceMul, ↓if_pos, ↓if_neg, Option.bind_some, Option.toList_some, Option.toList_none, List.append_nil, List.cons_append, List.nil_append, znat, znat1, zpm1, zcm1, zof0, zof1, zof2, zof3, zofa0, zofa1, b_X3_wrongRow_4, e, b_X3_wrongRow_49]
  · have h3 := h2 e
    rcases ho with rfl | rfl
    · simp (disch := omega) only [nrm_id, zix, ↓reduceIte, if_true, if_false, true_and, and_true, false_and, and_false, not_true_eq_false, not_false_eq_true, Int.reduceAdd, Int.reduceSub, Int.reduceMul, ↓if_pos, ↓if_neg, Option.bind_some, Option.toList_some, Option.toList_none, List.append_nil, List.cons_append, List.nil_append, znat, znat1, zpm1, zcm1, zof0, zof1, zof2, zof3, zofa0, zofa1, b_X3_wrongRow_4, e, b_X3_wrongRow_49]
    · by_cases q : σ 48 i = 0
      · simp (disch := omega) only [nrm_id, zix, ↓reduceIte, if_true, if_false, true_and, and_true, false_and, and_false, not_true_eq_false, not_false_eq_true, Int.reduceAdd, Int.reduceSub, Int.reduceMul, ↓if_pos, ↓if_neg, Option.bind_some, Option.toList_some, Option.toList_none, List.append_nil, List.cons_append, List.nil_append, znat, znat1, zpm1, zcm1, zof0, zof1, zof2, zof3, zofa0, zofa1, b_X3_wrongRow_4, e, b_X3_wrongRow_49, q]
      · simp (disch := omega) only [nrm_id, zix, ↓reduceIte, if_true, if_false, true_and, and_true, false_and, and_false, not_true_eq_false, not_false_eq_true, Int.reduceAdd, Int.reduceSub, Int.reduceMul, ↓if_pos, ↓if_neg, Option.bind_some, Option.toList_some, Option.toList_none, List.append_nil, List.cons_append, List.nil_append, znat, znat1, zpm1, zcm1, zof0, zof1, zof2, zof3, zofa0, zofa1, b_X3_wrongRow_4, e, b_X3_wrongRow_49]
theorem r_wrongRowN (d : Nat) {σ : zS} {x : Int} (hx : R32 x) (hn : ¬ (0 ≤ x ∧ x < 8)) (o : Int) : zc (d + 2) mX3_wrongRow [zR (some 36), zI x, zI o] σ = some (some (zI (-1)), σ) := by
  rw [e_X3_wrongRow, r_isShelf _ _ hx]
  simp (disch := omega) only [nrm_id, zix, ↓reduceIte, if_true, if_false, true_and, and_true, false_and, and_false, not_true_eq_false, not_false_eq_true, Int.reduceAdd, Int.reduceSub, Int.reduceMul, ↓if_pos, ↓if_neg, Option.bind_some, Option.toList_some, Option.toList_none, List.append_nil, List.cons_append, List.nil_append, znat, znat1, zpm1, zcm1, zof0, zof1, zof2, zof3, zofa0, zofa1, b_X3_wrongRow_4]
theorem mfold_dec0 : True := trivial
def mfold (b : Nat → Int) : Nat → Int
  | 0 => 0
  | n + 1 => zor (mfold b n) (zshl (b n) n)
theorem mfold_dec : ∀ B : Nat, B < 256 → ∀ p : Nat, p < 9 → (∀ r : Nat, r < 8 → p ≤ r → mbit (B : Int) r = 0) → mfold (mbit (B : Int)) p = B := by decide +kernel
theorem mfold_congr {f g : Nat → Int} {n : Nat} (h : ∀ r, r < n → f r = g r) : mfold f n = mfold g n := by
  induction n with
  | zero => rfl
  | succ n ih => unfold mfold; rw [ih fun r hr => h r (by omega), h n (by omega)]
section SYS2
variable {σ : zS} {K : zK} {T : Int}
theorem p_blocks (h : zSysK K T σ) {x : Int} (hx : R32 x) : zP mX2_blocks mX3_blocks [zI x] σ := by
  intro d
  have h0 := h
  obtain ⟨hC, hM, hO, hT1, hT2, hT, -, -⟩ := h
  have hp := hO.1
  by_cases q : 0 ≤ x ∧ x < K.1
  · obtain ⟨r, rfl, hr⟩ := zix_of q.1 q.2
    have hb := hO.2.2.2.2.2 r (by omega)
    have e5 := hM.2.2.2.2.2 r (by omega)
    obtain ⟨σ1, g1, g2, g3, g4⟩ := s_blockOrFree (d + 17) zCo1 hC hO hr
    have hM1 : AbsM σ1 37 K := AbsM_fr hM (g4 37 (by decide))
    have hs1 : zScr ([1, 2, 3, 4, 37] ++ zSc) σ σ1 := zScr_of g4 (by simp) (by simp)
    have f5 := hM1.2.2.2.2.2 r (by omega)
    have hT1' : σ1 1 2 = T := by rw [g3]; exact hT1
    have hT2' : σ1 37 2 = T := by rw [g4 37 (by decide)]; exact hT2
    rcases hb.1 with e | e
    · rw [if_neg (by omega)] at g2
      have h1 := AbsM_tip (AbsM_blk hM1 (r := r) (v := 1)) (r := r) (v := 0)
      refine ⟨σ1, zup (zup σ1 37 (6 + 4 * r) 1) 37 (5 + 4 * r) 0, zI 1, ?_, ?_, mblk K ((2 ^ r : Nat) : Int), T, ?_⟩
      · have hbl := s_isBlocked (d + 19) zCo1 g2 (r := r) (by omega)
        have e1 : (mblk K ((2 ^ r : Nat) : Int)).2.2.2.2.2 r = 1 := if_pos (by rw [mbit_pow, if_pos rfl])
        rw [e1] at hbl
        rw [e_X2_blocks]
        simp (disch := omega) only [nrm_id, zix, ↓reduceIte, if_true, if_false, true_and, and_true, false_and, and_false, not_true_eq_false, not_false_eq_true, Int.reduceAdd, Int.reduceSub, Int.reduceMul, ↓if_pos, ↓if_neg, Option.bind_some, Option.toList_some, Option.toList_none, List.append_nil, List.cons_append, List.nil_append, znat, znat1, zpm1, zcm1, zof0, zof1, zof2, zof3, zofa0, zofa1, g1, b_X2_blocks_8, hbl, b_X2_blocks_21]
      · rw [e_X3_blocks]
        simp (disch := omega) only [nrm_id, zix, ↓reduceIte, if_true, if_false, true_and, and_true, false_and, and_false, not_true_eq_false, not_false_eq_true, Int.reduceAdd, Int.reduceSub, Int.reduceMul, ↓if_pos, ↓if_neg, Option.bind_some, Option.toList_some, Option.toList_none, List.append_nil, List.cons_append, List.nil_append, znat, znat1, zpm1, zcm1, zof0, zof1, zof2, zof3, zofa0, zofa1, r_isRowY _ hM1 hO hr, b_X3_blocks_5, e_X3_turnsBlock, r_of, b_X3_turnsBlock_10, f5, e, b_X3_turnsBlock_22, b_X3_turnsBlock_38, b_X3_blocks_15, b_X3_blocks_24, zup_ix, zup_at]
      · refine zSys_upd h0 (zScr_tr hs1 (zScr_tr (zScr_of (ps := [37]) (zFr_up (by simp)) (by simp) (by simp)) (zScr_of (ps := [37]) (zFr_up (by simp)) (by simp) (by simp)))) ?_ (AbsM_eq h1 ⟨rfl, rfl, fun _ _ => rfl, fun _ _ => rfl, fun j hj => ?_, fun j hj => ?_⟩) (mblk_ok hO (fun j hj hm => ?_)) ?_ ?_ hT
        · exact AbsC_fr g2 (by rw [zup_ne (by decide), zup_ne (by decide)]) (by rw [zup_ne (by decide), zup_ne (by decide)]) (by rw [zup_ne (by decide), zup_ne (by decide)]) (by rw [zup_ne (by decide), zup_ne (by decide)])
        · show (if j = r then 0 else K.2.2.2.2.1 j) = if mbit ((2 ^ r : Nat) : Int) j = 1 then 0 else K.2.2.2.2.1 j
          rw [mbit_pow]
          by_cases ej : j = r
          · subst ej; simp
          · rw [if_neg ej, if_neg (by rw [if_neg (Ne.symm ej)]; decide)]
        · show (if j = r then 1 else K.2.2.2.2.2 j) = if mbit ((2 ^ r : Nat) : Int) j = 1 then 1 else K.2.2.2.2.2 j
          rw [mbit_pow]
          by_cases ej : j = r
          · subst ej; simp
          · rw [if_neg ej, if_neg (by rw [if_neg (Ne.symm ej)]; decide)]
        · rw [mbit_pow] at hm
          by_cases ej : r = j
          · omega
          · rw [if_neg ej] at hm; exact absurd hm (by decide)
        · rw [zup_ne (by decide), zup_ne (by decide)]; exact hT1'
        · rw [zup_ix (by omega), zup_ix (by omega)]; exact hT2'
    · rw [if_pos e] at g2
      refine ⟨σ1, zup σ1 37 (6 + 4 * r) 0, zI 0, ?_, ?_, mfree K r, T, ?_⟩
      · have hbl := s_isBlocked (d + 19) zCo1 g2 (r := r) (by omega)
        have e1 : (mfree K r).2.2.2.2.2 r = 0 := if_pos rfl
        rw [e1] at hbl
        rw [e_X2_blocks]
        simp (disch := omega) only [nrm_id, zix, ↓reduceIte, if_true, if_false, true_and, and_true, false_and, and_false, not_true_eq_false, not_false_eq_true, Int.reduceAdd, Int.reduceSub, Int.reduceMul, ↓if_pos, ↓if_neg, Option.bind_some, Option.toList_some, Option.toList_none, List.append_nil, List.cons_append, List.nil_append, znat, znat1, zpm1, zcm1, zof0, zof1, zof2, zof3, zofa0, zofa1, g1, b_X2_blocks_8, hbl, b_X2_blocks_21]
      · rw [e_X3_blocks]
        simp (disch := omega) only [nrm_id, zix, ↓reduceIte, if_true, if_false, true_and, and_true, false_and, and_false, not_true_eq_false, not_false_eq_true, Int.reduceAdd, Int.reduceSub, Int.reduceMul, ↓if_pos, ↓if_neg, Option.bind_some, Option.toList_some, Option.toList_none, List.append_nil, List.cons_append, List.nil_append, znat, znat1, zpm1, zcm1, zof0, zof1, zof2, zof3, zofa0, zofa1, r_isRowY _ hM1 hO hr, b_X3_blocks_5, e_X3_turnsBlock, r_of, b_X3_turnsBlock_10, f5, e, b_X3_turnsBlock_22, b_X3_blocks_15, b_X3_blocks_24, zup_at]
      · refine zSys_upd h0 (zScr_tr hs1 (zScr_of (ps := [37]) (zFr_up (by simp)) (by simp) (by simp))) ?_ (AbsM_blk hM1) (mfree_ok hO) ?_ ?_ hT
        · exact AbsC_fr g2 (zup_ne (by decide)) (zup_ne (by decide)) (zup_ne (by decide)) (zup_ne (by decide))
        · rw [zup_ne (by decide)]; exact hT1'
        · rw [zup_ix (by omega)]; exact hT2'
  · refine ⟨σ, σ, zI (-1), ?_, ?_, K, T, h0⟩
    · rw [e_X2_blocks]
      simp (disch := omega) only [nrm_id, zix, ↓reduceIte, if_true, if_false, true_and, and_true, false_and, and_false, not_true_eq_false, not_false_eq_true, Int.reduceAdd, Int.reduceSub, Int.reduceMul, ↓if_pos, ↓if_neg, Option.bind_some, Option.toList_some, Option.toList_none, List.append_nil, List.cons_append, List.nil_append, znat, znat1, zpm1, zcm1, zof0, zof1, zof2, zof3, zofa0, zofa1, s_blockOrFreeN _ zCo1 hC hO hx.1 hx.2 q, b_X2_blocks_8]
    · rw [e_X3_blocks]
      simp (disch := omega) only [nrm_id, zix, ↓reduceIte, if_true, if_false, true_and, and_true, false_and, and_false, not_true_eq_false, not_false_eq_true, Int.reduceAdd, Int.reduceSub, Int.reduceMul, ↓if_pos, ↓if_neg, Option.bind_some, Option.toList_some, Option.toList_none, List.append_nil, List.cons_append, List.nil_append, znat, znat1, zpm1, zcm1, zof0, zof1, zof2, zof3, zofa0, zofa1, r_isRowN _ hM hO hx q, b_X3_blocks_5]
theorem p_change (h : zSysK K T σ) {x y : Int} (hx : R32 x) (hy : R32 y) : zP mX2_change mX3_change [zI x, zI y] σ := by
  intro d
  have h0 := h
  obtain ⟨hC, hM, hO, hT1, hT2, hT, -, -⟩ := h
  have hp := hO.1
  obtain ⟨x1, x2⟩ := hx
  obtain ⟨y1, y2⟩ := hy
  by_cases q : (0 ≤ x ∧ x < K.1) ∧ (0 ≤ y ∧ y < K.1) ∧ x ≠ y
  · obtain ⟨qx, qy, qn⟩ := q
    obtain ⟨a, rfl, ha⟩ := zix_of qx.1 qx.2
    obtain ⟨b, rfl, hb⟩ := zix_of qy.1 qy.2
    have hab : a ≠ b := fun e => qn (by rw [e])
    obtain ⟨σ1, g1, g2, g3, g4⟩ := s_changePlaces (d + 16) zCo1 hC hO ha hb hab
    have hM1 : AbsM σ1 37 K := AbsM_fr hM (g4 37 (by decide))
    obtain ⟨σ2, k1, k2, k3, k4⟩ := r_changes (d + 17) zAr37 hM1 (x := a) (y := b) (by omega) (by omega) hab
    refine ⟨σ1, σ2, zI 1, ?_, ?_, mchg K a b, T, zSys_upd h0 (zScr_tr (zScr_of g4 (by simp) (by simp)) (zScr_of k4 (by simp) (by simp))) ?_ k2 (mchg_ok hO (by omega) (by omega)) ?_ ?_ hT⟩
    · rw [e_X2_change]
      simp (disch := omega) only [nrm_id, zix, ↓reduceIte, if_true, if_false, true_and, and_true, false_and, and_false, not_true_eq_false, not_false_eq_true, Int.reduceAdd, Int.reduceSub, Int.reduceMul, ↓if_pos, ↓if_neg, Option.bind_some, Option.toList_some, Option.toList_none, List.append_nil, List.cons_append, List.nil_append, znat, znat1, zpm1, zcm1, zof0, zof1, zof2, zof3, zofa0, zofa1, g1, b_X2_change_9]
    · rw [e_X3_change]
      simp (disch := omega) only [nrm_id, zix, ↓reduceIte, if_true, if_false, true_and, and_true, false_and, and_false, not_true_eq_false, not_false_eq_true, Int.reduceAdd, Int.reduceSub, Int.reduceMul, ↓if_pos, ↓if_neg, Option.bind_some, Option.toList_some, Option.toList_none, List.append_nil, List.cons_append, List.nil_append, znat, znat1, zpm1, zcm1, zof0, zof1, zof2, zof3, zofa0, zofa1, r_isRowY _ hM1 hO ha, r_isRowY _ hM1 hO hb, b_X3_change_5, b_X3_change_13, k1, b_X3_change_32]
    · exact AbsC_fr g2 (k4 1 (by decide)) (k4 2 (by decide)) (k4 3 (by decide)) (k4 4 (by decide))
    · rw [k4 1 (by decide), g3]; exact hT1
    · rw [k3, g4 37 (by decide)]; exact hT2
  · refine ⟨σ, σ, zI (-1), ?_, ?_, K, T, h0⟩
    · rw [e_X2_change]
      simp (disch := omega) only [nrm_id, zix, ↓reduceIte, if_true, if_false, true_and, and_true, false_and, and_false, not_true_eq_false, not_false_eq_true, Int.reduceAdd, Int.reduceSub, Int.reduceMul, ↓if_pos, ↓if_neg, Option.bind_some, Option.toList_some, Option.toList_none, List.append_nil, List.cons_append, List.nil_append, znat, znat1, zpm1, zcm1, zof0, zof1, zof2, zof3, zofa0, zofa1, s_changePlacesN _ zCo1 hC hO x1 x2 y1 y2 q, b_X2_change_9]
    · rw [e_X3_change]
      by_cases qx : 0 ≤ x ∧ x < K.1
      · by_cases qy : 0 ≤ y ∧ y < K.1
        · simp (disch := omega) only [nrm_id, zix, ↓reduceIte, if_true, if_false, true_and, and_true, false_and, and_false, not_true_eq_false, not_false_eq_true, Int.reduceAdd, Int.reduceSub, Int.reduceMul, ↓if_pos, ↓if_neg, Option.bind_some, Option.toList_some, Option.toList_none, List.append_nil, List.cons_append, List.nil_append, znat, znat1, zpm1, zcm1, zof0, zof1, zof2, zof3, zofa0, zofa1, r_isRow _ hM hO, b_X3_change_5, b_X3_change_13]
        · simp (disch := omega) only [nrm_id, zix, ↓reduceIte, if_true, if_false, true_and, and_true, false_and, and_false, not_true_eq_false, not_false_eq_true, Int.reduceAdd, Int.reduceSub, Int.reduceMul, ↓if_pos, ↓if_neg, Option.bind_some, Option.toList_some, Option.toList_none, List.append_nil, List.cons_append, List.nil_append, znat, znat1, zpm1, zcm1, zof0, zof1, zof2, zof3, zofa0, zofa1, r_isRow _ hM hO, b_X3_change_5, b_X3_change_13]
      · simp (disch := omega) only [nrm_id, zix, ↓reduceIte, if_true, if_false, true_and, and_true, false_and, and_false, not_true_eq_false, not_false_eq_true, Int.reduceAdd, Int.reduceSub, Int.reduceMul, ↓if_pos, ↓if_neg, Option.bind_some, Option.toList_some, Option.toList_none, List.append_nil, List.cons_append, List.nil_append, znat, znat1, zpm1, zcm1, zof0, zof1, zof2, zof3, zofa0, zofa1, r_isRowN _ hM hO ⟨x1, x2⟩ qx, b_X3_change_5]
theorem p_rounds (h : zSysK K T σ) {x : Int} (hx : R32 x) : zP mX2_rounds mX3_rounds [zI x] σ := by
  intro d
  have h0 := h
  obtain ⟨hC, hM, hO, hT1, hT2, hT, -, -⟩ := h
  have hp := hO.1
  obtain ⟨x1, x2⟩ := hx
  by_cases q : 1 ≤ x ∧ x ≤ 60
  · by_cases q2 : T + x ≤ 999
    · obtain ⟨n, rfl⟩ := Int.eq_ofNat_of_zero_le (show 0 ≤ x by omega)
      obtain ⟨σ1, g1, g2, g3, g4⟩ := s_travel (d + 15) zCo1 hC hO hT1 hT (n := n) (by omega) q2
      have hM1 : AbsM σ1 37 K := AbsM_fr hM (g4 37 (by decide))
      obtain ⟨σ2, k1, k2, k3, k4⟩ := r_roundsOn (d + 16) zAr37 hM1 hO (n := n) (by omega)
      have hT2' : σ1 37 2 = T := by rw [g4 37 (by decide)]; exact hT2
      have hO2 := mrounds_ok hO n
      refine ⟨σ1, σ2, zI (msum (mrounds n K).2.2.2.2.1 (mrounds n K).1), ?_, ?_, mrounds n K, T + n, zSys_upd h0 (zScr_tr (zScr_of g4 (by simp [zSc]) (by simp)) (zScr_of k4 (by simp [zSc]) (by simp))) ?_ k2 hO2 ?_ ?_ (by omega)⟩
      · rw [e_X2_rounds]
        simp (disch := omega) only [nrm_id, zix, ↓reduceIte, if_true, if_false, true_and, and_true, false_and, and_false, not_true_eq_false, not_false_eq_true, Int.reduceAdd, Int.reduceSub, Int.reduceMul, ↓if_pos, ↓if_neg, Option.bind_some, Option.toList_some, Option.toList_none, List.append_nil, List.cons_append, List.nil_append, znat, znat1, zpm1, zcm1, zof0, zof1, zof2, zof3, zofa0, zofa1, g1, b_X2_rounds_21, s_allTips _ zCo1 g2 hO2, b_X2_rounds_31]
      · rw [e_X3_rounds]
        simp (disch := omega) only [nrm_id, zix, ↓reduceIte, if_true, if_false, true_and, and_true, false_and, and_false, not_true_eq_false, not_false_eq_true, Int.reduceAdd, Int.reduceSub, Int.reduceMul, ↓if_pos, ↓if_neg, Option.bind_some, Option.toList_some, Option.toList_none, List.append_nil, List.cons_append, List.nil_append, znat, znat1, zpm1, zcm1, zof0, zof1, zof2, zof3, zofa0, zofa1, r_isIn, b_X3_rounds_7, hT2', k1, b_X3_rounds_38, r_tipsAll _ zAr37 k2 hO2, b_X3_rounds_45]
      · exact AbsC_fr g2 (k4 1 (by decide)) (k4 2 (by decide)) (k4 3 (by decide)) (k4 4 (by decide))
      · rw [k4 1 (by decide), g3]
      · rw [k3, hT2']
    · refine ⟨σ, σ, zI (-3), ?_, ?_, K, T, h0⟩
      · rw [e_X2_rounds]
        simp (disch := omega) only [nrm_id, zix, ↓reduceIte, if_true, if_false, true_and, and_true, false_and, and_false, not_true_eq_false, not_false_eq_true, Int.reduceAdd, Int.reduceSub, Int.reduceMul, ↓if_pos, ↓if_neg, Option.bind_some, Option.toList_some, Option.toList_none, List.append_nil, List.cons_append, List.nil_append, znat, znat1, zpm1, zcm1, zof0, zof1, zof2, zof3, zofa0, zofa1, s_travelN _ zCo1 hT1 hT x1 x2 (fun w => q2 w.2.2), b_X2_rounds_21]
      · rw [e_X3_rounds]
        simp (disch := omega) only [nrm_id, zix, ↓reduceIte, if_true, if_false, true_and, and_true, false_and, and_false, not_true_eq_false, not_false_eq_true, Int.reduceAdd, Int.reduceSub, Int.reduceMul, ↓if_pos, ↓if_neg, Option.bind_some, Option.toList_some, Option.toList_none, List.append_nil, List.cons_append, List.nil_append, znat, znat1, zpm1, zcm1, zof0, zof1, zof2, zof3, zofa0, zofa1, r_isIn, b_X3_rounds_7, hT2]
  · refine ⟨σ, σ, zI (-1), ?_, ?_, K, T, h0⟩
    · rw [e_X2_rounds]
      by_cases q1 : x < 1 <;> simp (disch := omega) only [nrm_id, zix, ↓reduceIte, if_true, if_false, true_and, and_true, false_and, and_false, not_true_eq_false, not_false_eq_true, Int.reduceAdd, Int.reduceSub, Int.reduceMul, ↓if_pos, ↓if_neg, Option.bind_some, Option.toList_some, Option.toList_none, List.append_nil, List.cons_append, List.nil_append, znat, znat1, zpm1, zcm1, zof0, zof1, zof2, zof3, zofa0, zofa1]
    · rw [e_X3_rounds]
      simp (disch := omega) only [nrm_id, zix, ↓reduceIte, if_true, if_false, true_and, and_true, false_and, and_false, not_true_eq_false, not_false_eq_true, Int.reduceAdd, Int.reduceSub, Int.reduceMul, ↓if_pos, ↓if_neg, Option.bind_some, Option.toList_some, Option.toList_none, List.append_nil, List.cons_append, List.nil_append, znat, znat1, zpm1, zcm1, zof0, zof1, zof2, zof3, zofa0, zofa1, r_isIn, b_X3_rounds_7]
theorem r_adds (d : Nat) (h : AbsM σ 37 K) (hO : mOk K) (hp : K.1 < 8) (k f : Int) : ∃ σ' : zS, zc (d + 1) mX3_adds [zR (some 36), zI k, zI f] σ = some (none, σ') ∧ AbsM σ' 37 (madd K k f) ∧ σ' 37 2 = σ 37 2 ∧ zFr [37] σ σ' := by
  have hb := (hO.2.2.2.2.2 K.1 hp).2.1 (Nat.le_refl _)
  have h1 := AbsM_blk (AbsM_tip (AbsM_fig (AbsM_kind h (r := K.1) (v := k)) (r := K.1) (v := f)) (r := K.1) (v := 0)) (r := K.1) (v := 0)
  refine ⟨zup (zup (zup (zup (zup σ 37 (3 + 4 * K.1) k) 37 (4 + 4 * K.1) f) 37 (5 + 4 * K.1) 0) 37 (6 + 4 * K.1) 0) 37 0 ((K.1 : Int) + 1), ?_, ?_, ?_, zFr_tr (zFr_tr (zFr_tr (zFr_tr (zFr_up (by simp)) (zFr_up (by simp))) (zFr_up (by simp))) (zFr_up (by simp))) (zFr_up (by simp))⟩
  · rw [e_X3_adds, h.1]
    simp (disch := omega) only [nrm_id, zix, ↓reduceIte, if_true, if_false, true_and, and_true, false_and, and_false, not_true_eq_false, not_false_eq_true, Int.reduceAdd, Int.reduceSub, Int.reduceMul, ↓if_pos, ↓if_neg, Option.bind_some, Option.toList_some, Option.toList_none, List.append_nil, List.cons_append, List.nil_append, znat, znat1, zpm1, zcm1, zof0, zof1, zof2, zof3, zofa0, zofa1, r_of, b_X3_adds_16, b_X3_adds_27, b_X3_adds_38, b_X3_adds_49, zup_ix, h.1]
  · obtain ⟨g0, g1, e1, e2, e3, e5⟩ := h1
    refine ⟨by rw [zup_at]; rfl, by rw [zup_ix (by omega)]; exact g1, fun j hj => by rw [zup_ix (by omega)]; exact e1 j hj, fun j hj => by rw [zup_ix (by omega)]; exact e2 j hj, fun j hj => by rw [zup_ix (by omega)]; exact e3 j hj, fun j hj => ?_⟩
    rw [zup_ix (by omega), e5 j hj]
    show (if j = K.1 then 0 else K.2.2.2.2.2 j) = K.2.2.2.2.2 j
    split
    · rename_i e; rw [e, hb]
    · rfl
  · rw [zup_ix (by omega), zup_ix (by omega), zup_ix (by omega), zup_ix (by omega), zup_ix (by omega)]
theorem p_comes (h : zSysK K T σ) {x : Int} (hx : R32 x) : zP mX2_comes mX3_comes [zI x] σ := by
  intro d
  have h0 := h
  obtain ⟨hC, hM, hO, hT1, hT2, hT, -, hS⟩ := h
  have hp := hO.1
  by_cases q : 0 ≤ x ∧ x < 8
  · obtain ⟨i, rfl, hi⟩ := zix_of q.1 q.2
    obtain ⟨s1, s2, s3, -⟩ := hS i hi
    have hq := zSh_of i hi
    have hk := r_wrongKept (σ := σ) (d + 17) hi (by rw [s2]; exact s1)
    rw [s2] at hk
    rcases s1 with e | e | e
    · refine ⟨σ, σ, zI (-11), ?_, ?_, K, T, h0⟩
      · rw [e_X2_comes]
        simp (disch := omega) only [nrm_id, zix, ↓reduceIte, if_true, if_false, true_and, and_true, false_and, and_false, not_true_eq_false, not_false_eq_true, Int.reduceAdd, Int.reduceSub, Int.reduceMul, ↓if_pos, ↓if_neg, Option.bind_some, Option.toList_some, Option.toList_none, List.append_nil, List.cons_append, List.nil_append, znat, znat1, zpm1, zcm1, zof0, zof1, zof2, zof3, zofa0, zofa1, s_shelfAt _ _ hi, b_X2_comes_5 _ _ hq, s_refusal _ hq (Or.inl rfl) (Or.inl e), e, b_X2_comes_17 _ _ _ hq]
      · rw [e] at hk
        rw [e_X3_comes]
        simp (disch := omega) only [nrm_id, zix, ↓reduceIte, if_true, if_false, true_and, and_true, false_and, and_false, not_true_eq_false, not_false_eq_true, Int.reduceAdd, Int.reduceSub, Int.reduceMul, ↓if_pos, ↓if_neg, Option.bind_some, Option.toList_some, Option.toList_none, List.append_nil, List.cons_append, List.nil_append, znat, znat1, zpm1, zcm1, zof0, zof1, zof2, zof3, zofa0, zofa1, hk, b_X3_comes_5]
    · obtain ⟨t1, t2, t3, t4⟩ := s3 e
      rw [e] at hk
      by_cases q2 : K.1 < 8
      · obtain ⟨σ1, g1, g2, g3, g4⟩ := s_sitDown (d + 19) zCo1 hC hO t3 t4 q2
        have hM1 : AbsM σ1 37 K := AbsM_fr hM (g4 37 (by decide))
        obtain ⟨σ2, k1, k2, k3, k4⟩ := r_adds (d + 18) hM1 hO q2 (σ (20 + 2 * i) 1) (σ (20 + 2 * i) 2)
        have f45 := g4 45 (by decide)
        have f46 := g4 46 (by decide)
        have f47 := g4 47 (by decide)
        have f37 := hM1.1
        have hk1 := r_wrongKept (σ := σ1) (d + 17) hi (by rw [f45, s2]; exact Or.inr (Or.inl e))
        rw [f45, s2, e] at hk1
        refine ⟨σ1, σ2, zI (K.1 : Int), ?_, ?_, madd K (σ (20 + 2 * i) 1) (σ (20 + 2 * i) 2), T, zSys_upd h0 (zScr_tr (zScr_of g4 (by simp) (by simp)) (zScr_of k4 (by simp) (by simp))) ?_ k2 (madd_ok hO q2 t3 t4) ?_ ?_ hT⟩
        · rw [e_X2_comes]
          simp (disch := omega) only [nrm_id, zix, ↓reduceIte, if_true, if_false, true_and, and_true, false_and, and_false, not_true_eq_false, not_false_eq_true, Int.reduceAdd, Int.reduceSub, Int.reduceMul, ↓if_pos, ↓if_neg, Option.bind_some, Option.toList_some, Option.toList_none, List.append_nil, List.cons_append, List.nil_append, znat, znat1, zpm1, zcm1, zof0, zof1, zof2, zof3, zofa0, zofa1, s_shelfAt _ _ hi, b_X2_comes_5 _ _ hq, s_refusal _ hq (Or.inl rfl) (Or.inr (Or.inl e)), e, b_X2_comes_17 _ _ _ hq, g1, b_X2_comes_39 _ _ _ _ hq, g2.1]
        · rw [e_X3_comes]
          simp (disch := omega) only [nrm_id, zix, ↓reduceIte, if_true, if_false, true_and, and_true, false_and, and_false, not_true_eq_false, not_false_eq_true, Int.reduceAdd, Int.reduceSub, Int.reduceMul, ↓if_pos, ↓if_neg, Option.bind_some, Option.toList_some, Option.toList_none, List.append_nil, List.cons_append, List.nil_append, znat, znat1, zpm1, zcm1, zof0, zof1, zof2, zof3, zofa0, zofa1, hk1, b_X3_comes_5, f37, f46, f47, t1, t2, k1, b_X3_comes_42, k2.1]
        · exact AbsC_fr g2 (k4 1 (by decide)) (k4 2 (by decide)) (k4 3 (by decide)) (k4 4 (by decide))
        · rw [k4 1 (by decide), g3]; exact hT1
        · rw [k3, g4 37 (by decide)]; exact hT2
      · have hsd := s_sitDownN (d + 19) zCo1 hC hO (k := σ (20 + 2 * i) 1) (f := σ (20 + 2 * i) 2) (by omega) (by omega) (fun w => q2 w.1)
        have f37 := hM.1
        refine ⟨σ, σ, zI (-2), ?_, ?_, K, T, h0⟩
        · rw [e_X2_comes]
          simp (disch := omega) only [nrm_id, zix, ↓reduceIte, if_true, if_false, true_and, and_true, false_and, and_false, not_true_eq_false, not_false_eq_true, Int.reduceAdd, Int.reduceSub, Int.reduceMul, ↓if_pos, ↓if_neg, Option.bind_some, Option.toList_some, Option.toList_none, List.append_nil, List.cons_append, List.nil_append, znat, znat1, zpm1, zcm1, zof0, zof1, zof2, zof3, zofa0, zofa1, s_shelfAt _ _ hi, b_X2_comes_5 _ _ hq, s_refusal _ hq (Or.inl rfl) (Or.inr (Or.inl e)), e, b_X2_comes_17 _ _ _ hq, hsd, b_X2_comes_39 _ _ _ _ hq]
        · rw [e_X3_comes]
          simp (disch := omega) only [nrm_id, zix, ↓reduceIte, if_true, if_false, true_and, and_true, false_and, and_false, not_true_eq_false, not_false_eq_true, Int.reduceAdd, Int.reduceSub, Int.reduceMul, ↓if_pos, ↓if_neg, Option.bind_some, Option.toList_some, Option.toList_none, List.append_nil, List.cons_append, List.nil_append, znat, znat1, zpm1, zcm1, zof0, zof1, zof2, zof3, zofa0, zofa1, hk, b_X3_comes_5, f37]
    · refine ⟨σ, σ, zI (-12), ?_, ?_, K, T, h0⟩
      · rw [e_X2_comes]
        simp (disch := omega) only [nrm_id, zix, ↓reduceIte, if_true, if_false, true_and, and_true, false_and, and_false, not_true_eq_false, not_false_eq_true, Int.reduceAdd, Int.reduceSub, Int.reduceMul, ↓if_pos, ↓if_neg, Option.bind_some, Option.toList_some, Option.toList_none, List.append_nil, List.cons_append, List.nil_append, znat, znat1, zpm1, zcm1, zof0, zof1, zof2, zof3, zofa0, zofa1, s_shelfAt _ _ hi, b_X2_comes_5 _ _ hq, s_refusal _ hq (Or.inl rfl) (Or.inr (Or.inr e)), e, b_X2_comes_17 _ _ _ hq]
      · rw [e] at hk
        rw [e_X3_comes]
        simp (disch := omega) only [nrm_id, zix, ↓reduceIte, if_true, if_false, true_and, and_true, false_and, and_false, not_true_eq_false, not_false_eq_true, Int.reduceAdd, Int.reduceSub, Int.reduceMul, ↓if_pos, ↓if_neg, Option.bind_some, Option.toList_some, Option.toList_none, List.append_nil, List.cons_append, List.nil_append, znat, znat1, zpm1, zcm1, zof0, zof1, zof2, zof3, zofa0, zofa1, hk, b_X3_comes_5]
  · refine ⟨σ, σ, zI (-1), ?_, ?_, K, T, h0⟩
    · rw [e_X2_comes]
      simp (disch := omega) only [nrm_id, zix, ↓reduceIte, if_true, if_false, true_and, and_true, false_and, and_false, not_true_eq_false, not_false_eq_true, Int.reduceAdd, Int.reduceSub, Int.reduceMul, ↓if_pos, ↓if_neg, Option.bind_some, Option.toList_some, Option.toList_none, List.append_nil, List.cons_append, List.nil_append, znat, znat1, zpm1, zcm1, zof0, zof1, zof2, zof3, zofa0, zofa1, s_shelfAtN _ _ hx q, b_X2_comes_5_2]
    · rw [e_X3_comes]
      simp (disch := omega) only [nrm_id, zix, ↓reduceIte, if_true, if_false, true_and, and_true, false_and, and_false, not_true_eq_false, not_false_eq_true, Int.reduceAdd, Int.reduceSub, Int.reduceMul, ↓if_pos, ↓if_neg, Option.bind_some, Option.toList_some, Option.toList_none, List.append_nil, List.cons_append, List.nil_append, znat, znat1, zpm1, zcm1, zof0, zof1, zof2, zof3, zofa0, zofa1, r_wrongKeptN _ hx q, b_X3_comes_5]
end SYS2
