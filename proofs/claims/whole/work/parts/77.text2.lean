/-! the reference's reading -/
def mTx (τ : zS) (i n : Nat) (w : Nat → Int) (p : Nat) : Prop := τ 36 7 = 100 * (i : Int) ∧ τ 36 8 = n ∧ τ 36 6 = p ∧ ∀ j, j < 100 → τ 50 (100 * i + j) = w j
/-- nothing but the reading's own places has changed -/
def mRd (τ τ' : zS) : Prop := (∀ q, q ≠ 42 → q ≠ 36 → τ' q = τ q) ∧ ∀ j, j ≠ 6 → τ' 36 j = τ 36 j
theorem mRd_rf (τ : zS) : mRd τ τ := ⟨fun _ _ _ => rfl, fun _ _ => rfl⟩
theorem mRd_tr {a b c : zS} (h1 : mRd a b) (h2 : mRd b c) : mRd a c := ⟨fun q h h' => (h2.1 q h h').trans (h1.1 q h h'), fun j h => (h2.2 j h).trans (h1.2 j h)⟩
theorem mRd_pl (τ : zS) (v : Int) : mRd τ (zup τ 36 6 v) := ⟨fun _ _ h => zup_ne h, fun _ h => zup_ix h⟩
theorem mRd_nr (τ : zS) (k : Nat) (v : Int) : mRd τ (zup τ 42 k v) := ⟨fun _ h _ => zup_ne h, fun _ _ => by rw [zup_ne (by decide)]⟩
theorem mTx_pl {τ : zS} {i n : Nat} {w : Nat → Int} {p : Nat} (h : mTx τ i n w p) {v : Int} {p' : Nat} (e : v = (p' : Int)) : mTx (zup τ 36 6 v) i n w p' := by
  obtain ⟨h1, h2, h3, h4⟩ := h
  exact ⟨by rw [zup_ix (by decide)]; exact h1, by rw [zup_ix (by decide)]; exact h2, by rw [zup_at]; exact e, fun j hj => by rw [zup_ne (by decide)]; exact h4 j hj⟩
theorem mTx_nr {τ : zS} {i n : Nat} {w : Nat → Int} {p : Nat} (h : mTx τ i n w p) (k : Nat) (v : Int) : mTx (zup τ 42 k v) i n w p := by
  obtain ⟨h1, h2, h3, h4⟩ := h
  exact ⟨by rw [zup_ne (by decide)]; exact h1, by rw [zup_ne (by decide)]; exact h2, by rw [zup_ne (by decide)]; exact h3, fun j hj => by rw [zup_ne (by decide)]; exact h4 j hj⟩
theorem zand_p : ∀ k : Nat, k < 128 → zand (k : Int) 255 = (k : Int) := by decide +kernel
theorem zand_m : ∀ k : Nat, k < 128 → zand (-(k : Int) - 1) 255 = 255 - (k : Int) := by decide +kernel
section SYS32
variable {σ : zS} {K : zK} {T : Int}
theorem r_here (d : Nat) {i n p : Nat} {w : Nat → Int} (h : mTx σ i n w p) (hi : i < 8) (hn : n ≤ 100) (hb : ∀ j, j < 100 → -128 ≤ w j ∧ w j ≤ 127) (hp : p < 1000) : ∃ v : Int, zc d mX3_here [zR (some 36)] σ = some (some (zI v), σ) ∧ (-1 ≤ v ∧ v ≤ 255) ∧ ((v = mby w n p ∧ 0 ≤ v ∧ v ≤ 127) ∨ (mby w n p < 0 ∧ (v < 0 ∨ 127 < v))) := by
  obtain ⟨h1, h2, h3, h4⟩ := h
  by_cases q : p < n
  · have e := h4 p (by omega)
    have hr := hb p (by omega)
    have ez : (100 * (i : Int) + (p : Int)).toNat = 100 * i + p := by omega
    have em : mby w n p = w p := if_pos q
    have hz : zand (w p) 255 = if 0 ≤ w p then w p else 256 + w p := by
      by_cases c : 0 ≤ w p
      · obtain ⟨k, hk⟩ := Int.eq_ofNat_of_zero_le c
        rw [if_pos c, hk]
        exact zand_p k (by omega)
      · obtain ⟨k, hk⟩ := Int.eq_ofNat_of_zero_le (show 0 ≤ -(w p) - 1 by omega)
        have e2 : w p = -(k : Int) - 1 := by omega
        rw [if_neg c, e2, zand_m k (by omega)]
        omega
    refine ⟨if 0 ≤ w p then w p else 256 + w p, ?_, ?_, ?_⟩
    · rw [e_X3_here, h1, h2, h3]
      simp (disch := omega) only [nrm_id, zix, ↓reduceIte, if_true, if_false, true_and, and_true, false_and, and_false, not_true_eq_false, not_false_eq_true, Int.reduceAdd, Int.reduceSub, Int.reduceMul, ↓if_pos, ↓if_neg, Option.bind_some, Option.toList_some, Option.toList_none, List.append_nil, List.cons_append, List.nil_append, znat, znat1, zpm1, zcm1, zof0, zof1, zof2, zof3, zofa0, zofa1, ez, e, hz]
    · split <;> omega
    · rw [em]
      split <;> omega
  · have em : mby w n p = -1 := if_neg q
    refine ⟨-1, ?_, by omega, Or.inr ⟨by omega, by omega⟩⟩
    rw [e_X3_here, h1, h2, h3]
    simp (disch := omega) only [nrm_id, zix, ↓reduceIte, if_true, if_false, true_and, and_true, false_and, and_false, not_true_eq_false, not_false_eq_true, Int.reduceAdd, Int.reduceSub, Int.reduceMul, ↓if_pos, ↓if_neg, Option.bind_some, Option.toList_some, Option.toList_none, List.append_nil, List.cons_append, List.nil_append, znat, znat1, zpm1, zcm1, zof0, zof1, zof2, zof3, zofa0, zofa1]
/-- digits' number -/
def mvl (b : Nat → Int) : Nat → Nat → Int → Int
  | 0, _, v => v
  | m + 1, p, v => mvl b m (p + 1) (10 * v + b p - 48)
theorem r_rdNum (d : Nat) {i n : Nat} {w : Nat → Int} (hi : i < 8) (hn : n ≤ 100) (hb : ∀ j, j < 100 → -128 ≤ w j ∧ w j ≤ 127) {k : Nat} (hk : k < 2) {dg : Nat} (hdg : dg ≤ 2) : ∀ (m x p : Nat) (v : Int) (τ : zS), x + m = dg → p + m < 900 → mTx τ i n w p → τ 42 k = v → (0 ≤ v ∧ (2 ≤ m → v = 0) ∧ (1 ≤ m → v ≤ 9) ∧ v ≤ 99) → ∃ (τ' : zS) (ok : Int), zq (d + 1) mX3_readsNumber 9 [some (zR (some 36)), some (zI k), some (zI dg), some (zI x)] [] τ = some (some (zI ok), τ') ∧ mTx τ' i n w (mfd (mby w n) m p) ∧ mRd τ τ' ∧ (∀ j, j ≠ k → τ' 42 j = τ 42 j) ∧ ((ok = 1 ∧ mfd (mby w n) m p = p + m ∧ τ' 42 k = mvl (mby w n) m p v) ∨ (ok = 0 ∧ mfd (mby w n) m p < p + m)) := by
  intro m
  induction m with
  | zero =>
    intro x p v τ hx hp hT hv hvr
    refine ⟨τ, 1, ?_, hT, mRd_rf _, fun _ _ => rfl, Or.inl ⟨rfl, rfl, hv⟩⟩
    rw [b_X3_readsNumber_9]
    simp (disch := omega) only [nrm_id, zix, ↓reduceIte, if_true, if_false, true_and, and_true, false_and, and_false, not_true_eq_false, not_false_eq_true, Int.reduceAdd, Int.reduceSub, Int.reduceMul, ↓if_pos, ↓if_neg, Option.bind_some, Option.toList_some, Option.toList_none, List.append_nil, List.cons_append, List.nil_append, znat, znat1, zpm1, zcm1, zof0, zof1, zof2, zof3, zofa0, zofa1]
  | succ m ih =>
    intro x p v τ hx hp hT hv hvr
    obtain ⟨h, e1, e2, e3⟩ := r_here d hT hi hn hb (by omega)
    have hin := r_isIn d τ (x := h) (l := 48) (m := 57) ⟨by omega, by omega⟩ ⟨by omega, by omega⟩ ⟨by omega, by omega⟩
    by_cases c : 48 ≤ mby w n p ∧ mby w n p ≤ 57
    · have eh : h = mby w n p := by
        rcases e3 with e3 | e3
        · exact e3.1
        · omega
      rw [if_pos (by omega)] at hin
      have h6 := hT.2.2.1
      have hT2 : mTx (zup (zup τ 42 k (10 * v + h - 48)) 36 6 ((p : Int) + 1)) i n w (p + 1) := mTx_pl (mTx_nr hT _ _) (by omega)
      obtain ⟨τ', ok, k1, k2, k3, k4, k5⟩ := ih (x + 1) (p + 1) (10 * v + h - 48) _ (by omega) (by omega) hT2 (by rw [zup_ne (by decide), zup_at]) (by
        obtain ⟨v1, v2, v3, v4⟩ := hvr
        have v5 := v3 (by omega)
        clear ih e3 hin
        by_cases m2 : 2 ≤ m + 1
        · have v6 := v2 m2
          clear v2 v3
          refine ⟨by omega, fun z => by omega, fun z => by omega, by omega⟩
        · clear v2 v3
          refine ⟨by omega, fun z => by omega, fun z => by omega, by omega⟩)
      rw [mfd_y c]
      refine ⟨τ', ok, ?_, k2, mRd_tr (mRd_tr (mRd_nr _ _ _) (mRd_pl _ _)) k3, fun j hj => by rw [k4 j hj, zup_ne (by decide), zup_ix hj], ?_⟩
      · have v9 := hvr.2.2.1 (by omega)
        have v0 := hvr.1
        clear e3 hvr
        rw [b_X3_readsNumber_9]
        simp (disch := omega) only [nrm_id, zix, ↓reduceIte, if_true, if_false, true_and, and_true, false_and, and_false, not_true_eq_false, not_false_eq_true, Int.reduceAdd, Int.reduceSub, Int.reduceMul, ↓if_pos, ↓if_neg, Option.bind_some, Option.toList_some, Option.toList_none, List.append_nil, List.cons_append, List.nil_append, znat, znat1, zpm1, zcm1, zof0, zof1, zof2, zof3, zofa0, zofa1, e1, b_X3_readsNumber_18, hin, b_X3_readsNumber_25, hv, b_X3_readsNumber_48, zup_ne, h6]
        exact k1
      · rcases k5 with ⟨z1, z2, z3⟩ | ⟨z1, z2⟩
        · refine Or.inl ⟨z1, by omega, ?_⟩
          rw [z3, eh]
          rfl
        · exact Or.inr ⟨z1, by omega⟩
    · rw [mfd_n c]
      refine ⟨τ, 0, ?_, hT, mRd_rf _, fun _ _ => rfl, Or.inr ⟨rfl, by omega⟩⟩
      have hn0 : ¬ (48 ≤ h ∧ h ≤ 57) := by
        rcases e3 with e3 | e3 <;> omega
      rw [if_neg hn0] at hin
      clear e3 hn0
      rw [b_X3_readsNumber_9]
      simp (disch := omega) only [nrm_id, zix, ↓reduceIte, if_true, if_false, true_and, and_true, false_and, and_false, not_true_eq_false, not_false_eq_true, Int.reduceAdd, Int.reduceSub, Int.reduceMul, ↓if_pos, ↓if_neg, Option.bind_some, Option.toList_some, Option.toList_none, List.append_nil, List.cons_append, List.nil_append, znat, znat1, zpm1, zcm1, zof0, zof1, zof2, zof3, zofa0, zofa1, e1, b_X3_readsNumber_18, hin, b_X3_readsNumber_25]
end SYS32
