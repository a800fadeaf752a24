section SYS26
variable {σ : zS} {K : zK} {T : Int}
theorem r_isYoung (d : Nat) (h : AbsM σ 37 K) (hO : mOk K) {i : Nat} (hi : i + 1 < K.1) : zc (d + 1) mX3_isYoung [zR (some 36), zI ((i : Int) + 1)] σ = some (some (zI ((my K i : Nat) : Int)), σ) := by
  have hp := hO.1
  have hk := hO.2.2.1 (i + 1) (by omega)
  have e1 := h.2.2.1 (i + 1) (by omega)
  rw [e_X3_isYoung]
  by_cases k3 : K.2.2.1 (i + 1) = 3
  · have em : my K i = 1 := if_pos ⟨hi, Or.inl k3⟩
    rw [em]
    simp (disch := omega) only [nrm_id, zix, ↓reduceIte, if_true, if_false, true_and, and_true, false_and, and_false, not_true_eq_false, not_false_eq_true, Int.reduceAdd, Int.reduceSub, Int.reduceMul, ↓if_pos, ↓if_neg, Option.bind_some, Option.toList_some, Option.toList_none, List.append_nil, List.cons_append, List.nil_append, znat, znat1, zpm1, zcm1, zof0, zof1, zof2, zof3, zofa0, zofa1, r_of, b_X3_isYoung_9, e1, k3, b_X3_isYoung_29]
    rfl
  · by_cases k6 : K.2.2.1 (i + 1) = 6
    · have em : my K i = 1 := if_pos ⟨hi, Or.inr k6⟩
      rw [em]
      simp (disch := omega) only [nrm_id, zix, ↓reduceIte, if_true, if_false, true_and, and_true, false_and, and_false, not_true_eq_false, not_false_eq_true, Int.reduceAdd, Int.reduceSub, Int.reduceMul, ↓if_pos, ↓if_neg, Option.bind_some, Option.toList_some, Option.toList_none, List.append_nil, List.cons_append, List.nil_append, znat, znat1, zpm1, zcm1, zof0, zof1, zof2, zof3, zofa0, zofa1, r_of, b_X3_isYoung_9, e1, k6, b_X3_isYoung_23, b_X3_isYoung_29]
      rfl
    · have em : my K i = 0 := if_neg (fun z => z.2.elim k3 k6)
      rw [em]
      simp (disch := omega) only [nrm_id, zix, ↓reduceIte, if_true, if_false, true_and, and_true, false_and, and_false, not_true_eq_false, not_false_eq_true, Int.reduceAdd, Int.reduceSub, Int.reduceMul, ↓if_pos, ↓if_neg, Option.bind_some, Option.toList_some, Option.toList_none, List.append_nil, List.cons_append, List.nil_append, znat, znat1, zpm1, zcm1, zof0, zof1, zof2, zof3, zofa0, zofa1, r_of, b_X3_isYoung_9, e1, b_X3_isYoung_23]
      rfl
theorem my_last (K : zK) {p : Nat} (hp : K.1 = p) : mal (my K) p = mal (my K) (p - 1) ∧ mct (my K) p = mct (my K) (p - 1) := by
  cases p with
  | zero => exact ⟨rfl, rfl⟩
  | succ n =>
    have e : my K n = 0 := if_neg (fun z => by have := z.1; omega)
    refine ⟨?_, ?_⟩
    · rw [mal_s, e, if_neg (by decide), Nat.or_zero]; rfl
    · rw [mct_s, e, Nat.add_zero]; rfl
theorem mA_pop (K : zK) (hp : K.1 ≤ 8) : mpop ((mal (my K) (K.1 - 1) : Nat) : Int) = ((mct (my K) K.1 : Nat) : Int) := by
  have h1 := mal_lt (my K) (K.1 - 1)
  have h2 : mal (my K) (K.1 - 1) < 256 := Nat.lt_of_lt_of_le h1 (show (2 : Nat) ^ (K.1 - 1) ≤ 2 ^ 8 from Nat.pow_le_pow_right (by decide) (by omega))
  rw [mpop_ct _ h2]
  have e : (8 : Nat) = (K.1 - 1) + (8 - (K.1 - 1)) := by omega
  rw [e, mct_ge _ h1, mct_al (my K) (my_01 K) (K.1 - 1) (K.1 - 1) (Nat.le_refl _), (my_last K rfl).2]
theorem r_lookAll (d : Nat) (h : AbsM σ 37 K) (hO : mOk K) (t v a : Int) : ∀ (m r : Nat), r + m = K.1 - 1 → zq (d + 2) mX3_looksRound 39 [some (zR (some 36)), some (zI t), some (zI v), some (zI a), some (zI ((mal (my K) r : Nat) : Int)), some (zI r), none, none, none, none, none, none, none] [] σ = zq (d + 2) mX3_looksRound 91 [some (zR (some 36)), some (zI t), some (zI v), some (zI a), some (zI ((mal (my K) (K.1 - 1) : Nat) : Int)), some (zJ 0), none, some (zJ 1), none, some (zI 0), none, none, none] [] σ := by
  have hp := hO.1
  have h0 : σ 37 0 = (K.1 : Int) := h.1
  intro m
  induction m with
  | zero =>
    intro r hr
    have hr' : r = K.1 - 1 := by omega
    subst hr'
    rw [b_X3_looksRound_39, h0]
    simp (disch := omega) only [nrm_id, zix, ↓reduceIte, if_true, if_false, true_and, and_true, false_and, and_false, not_true_eq_false, not_false_eq_true, Int.reduceAdd, Int.reduceSub, Int.reduceMul, ↓if_pos, ↓if_neg, Option.bind_some, Option.toList_some, Option.toList_none, List.append_nil, List.cons_append, List.nil_append, znat, znat1, zpm1, zcm1, zof0, zof1, zof2, zof3, zofa0, zofa1]
  | succ m ih =>
    intro r hr
    have k1 := ih (r + 1) (by omega)
    have hy := r_isYoung d h hO (i := r) (by omega)
    have hl := mal_lt (my K) r
    have hl2 : mal (my K) r < 256 := Nat.lt_of_lt_of_le hl (show (2 : Nat) ^ r ≤ 2 ^ 8 from Nat.pow_le_pow_right (by decide) (by omega))
    have hl3 : (2 : Nat) ^ r < 256 := Nat.lt_of_lt_of_le (Nat.pow_lt_pow_right (by decide) (show r < 8 by omega)) (Nat.le_refl _)
    rw [b_X3_looksRound_39, h0]
    rcases my_01 K r with e | e
    · have ez : zor ((mal (my K) r : Nat) : Int) 0 = ((mal (my K) r : Nat) : Int) := zor_0 (by omega)
      rw [e] at hy
      rw [mal_s, e, if_neg (by decide), Nat.or_zero] at k1
      simp (disch := omega) only [nrm_id, zix, ↓reduceIte, if_true, if_false, true_and, and_true, false_and, and_false, not_true_eq_false, not_false_eq_true, Int.reduceAdd, Int.reduceSub, Int.reduceMul, ↓if_pos, ↓if_neg, Option.bind_some, Option.toList_some, Option.toList_none, List.append_nil, List.cons_append, List.nil_append, znat, znat1, zpm1, zcm1, zof0, zof1, zof2, zof3, zofa0, zofa1, hy, b_X3_looksRound_62, b_X3_looksRound_73, ez]
      exact k1
    · have ez : zor ((mal (my K) r : Nat) : Int) (zshl 1 (r : Int)) = ((mal (my K) r ||| 2 ^ r : Nat) : Int) := by
        rw [zshl1 r (by omega)]
        exact zor_nat (Nat.lt_trans hl2 (by decide)) (Nat.lt_trans hl3 (by decide))
      rw [e] at hy
      rw [mal_s, e, if_pos rfl] at k1
      simp (disch := omega) only [nrm_id, zix, ↓reduceIte, if_true, if_false, true_and, and_true, false_and, and_false, not_true_eq_false, not_false_eq_true, Int.reduceAdd, Int.reduceSub, Int.reduceMul, ↓if_pos, ↓if_neg, Option.bind_some, Option.toList_some, Option.toList_none, List.append_nil, List.cons_append, List.nil_append, znat, znat1, zpm1, zcm1, zof0, zof1, zof2, zof3, zofa0, zofa1, hy, b_X3_looksRound_62, b_X3_looksRound_73, ez]
      exact k1
theorem r_lookBelow (d : Nat) {A c : Nat} (hA : A < 256) (hc : mpop (A : Int) = (c : Int)) (hc8 : c ≤ 8) {t : Nat} (ht : 2 ≤ t ∧ t ≤ 20) (v a : Int) (x5 : Int) : ∀ (m k : Nat), k + m = c → zq (d + 2) mX3_looksRound 91 [some (zR (some 36)), some (zI t), some (zI v), some (zI a), some (zI (A : Int)), some (zJ x5), none, some (zJ ((t ^ k : Nat) : Int)), none, some (zI k), none, none, none] [] σ = zq (d + 2) mX3_looksRound 117 [some (zR (some 36)), some (zI t), some (zI v), some (zI a), some (zI (A : Int)), some (zJ x5), none, some (zJ ((t ^ c : Nat) : Int)), none, some (zI 0), none, none, none] [] σ := by
  have hb := r_bits (σ := σ) (d + 1) (S := (A : Int)) (by omega) (by omega)
  rw [hc] at hb
  intro m
  induction m with
  | zero =>
    intro k hk
    have hk' : k = c := by omega
    subst hk'
    rw [b_X3_looksRound_91]
    simp (disch := omega) only [nrm_id, zix, ↓reduceIte, if_true, if_false, true_and, and_true, false_and, and_false, not_true_eq_false, not_false_eq_true, Int.reduceAdd, Int.reduceSub, Int.reduceMul, ↓if_pos, ↓if_neg, Option.bind_some, Option.toList_some, Option.toList_none, List.append_nil, List.cons_append, List.nil_append, znat, znat1, zpm1, zcm1, zof0, zof1, zof2, zof3, zofa0, zofa1, hb, b_X3_looksRound_98]
  | succ m ih =>
    intro k hk
    have k1 := ih (k + 1) (by omega)
    rw [Nat.pow_succ, Int.natCast_mul] at k1
    rw [b_X3_looksRound_91]
    simp (disch := omega) only [nrm_id, zix, ↓reduceIte, if_true, if_false, true_and, and_true, false_and, and_false, not_true_eq_false, not_false_eq_true, Int.reduceAdd, Int.reduceSub, Int.reduceMul, ↓if_pos, ↓if_neg, Option.bind_some, Option.toList_some, Option.toList_none, List.append_nil, List.cons_append, List.nil_append, znat, znat1, zpm1, zcm1, zof0, zof1, zof2, zof3, zofa0, zofa1, hb, b_X3_looksRound_98]
    exact k1
theorem r_lookWeight (d : Nat) {A c b S : Nat} (hA : A < 256) (hc : mpop (A : Int) = (c : Int)) (hc8 : c ≤ 8) {t : Nat} (ht : 2 ≤ t ∧ t ≤ 20) (v a x5 x7 : Int) {s : Int} (hs : zc (d + 1) mX3_tipsAll [zR (some 38)] σ = some (some (zI s), σ)) : ∀ (m k : Nat), k + m = c → b ≤ k → zq (d + 2) mX3_looksRound 168 [some (zR (some 36)), some (zI t), some (zI v), some (zI a), some (zI (A : Int)), some (zJ x5), none, some (zJ x7), none, some (zI (S : Int)), some (zJ (((t - 1) ^ (k - b) : Nat) : Int)), none, some (zI k)] [] σ = zq (d + 2) mX3_looksRound 202 [some (zR (some 36)), some (zI t), some (zI v), some (zI a), some (zI (A : Int)), some (zJ x5), none, some (zJ x7), none, some (zI (S : Int)), some (zJ (((t - 1) ^ (c - b) : Nat) : Int)), none, some (zI c)] [zI s, zJ x5] σ := by
  have hb := r_bits (σ := σ) (d + 1) (S := (A : Int)) (by omega) (by omega)
  rw [hc] at hb
  intro m
  induction m with
  | zero =>
    intro k hk hbk
    have hk' : k = c := by omega
    subst hk'
    rw [b_X3_looksRound_168]
    simp (disch := omega) only [nrm_id, zix, ↓reduceIte, if_true, if_false, true_and, and_true, false_and, and_false, not_true_eq_false, not_false_eq_true, Int.reduceAdd, Int.reduceSub, Int.reduceMul, ↓if_pos, ↓if_neg, Option.bind_some, Option.toList_some, Option.toList_none, List.append_nil, List.cons_append, List.nil_append, znat, znat1, zpm1, zcm1, zof0, zof1, zof2, zof3, zofa0, zofa1, hb, b_X3_looksRound_175, hs]
  | succ m ih =>
    intro k hk hbk
    have k1 := ih (k + 1) (by omega) (by omega)
    rw [show k + 1 - b = k - b + 1 from by omega, Nat.pow_succ, Int.natCast_mul, show ((t - 1 : Nat) : Int) = (t : Int) - 1 from by omega] at k1
    rw [b_X3_looksRound_168]
    simp (disch := omega) only [nrm_id, zix, ↓reduceIte, if_true, if_false, true_and, and_true, false_and, and_false, not_true_eq_false, not_false_eq_true, Int.reduceAdd, Int.reduceSub, Int.reduceMul, ↓if_pos, ↓if_neg, Option.bind_some, Option.toList_some, Option.toList_none, List.append_nil, List.cons_append, List.nil_append, znat, znat1, zpm1, zcm1, zof0, zof1, zof2, zof3, zofa0, zofa1, hb, b_X3_looksRound_175]
    exact k1
theorem mlk_ok (hO : mOk K) (S : Int) : mOk (Kst K (mrtS K S)) := by
  refine mset_ok hO (fun r hr => ?_) (fun r hr e => ?_)
  · unfold mrtS
    split
    · split
      · omega
      · exact mnew_rng hO hr (mah_rng hO hr)
    · exact hO.2.2.2.2.1 r hr
  · have h2 := (mround_ok hO).2.2.2.2.2 r hr
    have h3 : mrt K K.2.2.2.2.1 r = 0 := h2.2.2 e
    unfold mrtS
    unfold mrt at h3
    by_cases q : r < K.1
    · rw [if_pos q] at h3 ⊢
      rw [h3]
      split <;> rfl
    · rw [if_neg q] at h3 ⊢
      exact h3
theorem mlk_sum (hO : mOk K) {S : Nat} : mtS (Kst K (mrtS K (S : Int))) = ((mst (mTn K) S K.1 : Nat) : Int) := by
  have hp := hO.1
  have e : ∀ n, n ≤ K.1 → msum (mrtS K (S : Int)) n = ((mst (mTn K) S n : Nat) : Int) := by
    intro n
    induction n with
    | zero => intro _; rfl
    | succ n ih =>
      intro hn
      show msum (mrtS K (S : Int)) n + mrtS K (S : Int) n = _
      rw [ih (by omega), mst_s, Int.natCast_add]
      congr 1
      have h1 := (mTn_is hO (j := n) (by omega)).1
      have h2 : mrt K K.2.2.2.2.1 n = (mTn K n : Int) := h1
      unfold mrt at h2
      rw [if_pos (by omega)] at h2
      unfold mrtS
      rw [if_pos (by omega), mbit_test, h2]
      cases S.testBit n <;> rfl
  exact e K.1 (Nat.le_refl _)
/-- what one set gives -/
def mlg (K : zK) (t v : Nat) (S : Nat) : Nat := if mst (mTn K) S K.1 < v + 1 then mwt (mup1 (my K)) (mwp1 (my K) t) S K.1 else 0
theorem mlg_all (hp : K.1 ≤ 8) (t v : Nat) : nsum (mlg K t v) (mal (my K) (K.1 - 1) + 1) = mF (mup1 (my K)) (mwp1 (my K) t) (mTn K) K.1 (v + 1) := by
  have h1 := mal_lt (my K) K.1
  rw [(my_last K rfl).1] at h1
  unfold mF
  obtain ⟨k, hk⟩ : ∃ k, 2 ^ K.1 = mal (my K) (K.1 - 1) + 1 + k := ⟨2 ^ K.1 - (mal (my K) (K.1 - 1) + 1), by omega⟩
  rw [hk, nsum_add (fun S => if mst (mTn K) S K.1 < v + 1 then mwt (mup1 (my K)) (mwp1 (my K) t) S K.1 else 0) (mal (my K) (K.1 - 1) + 1) k]
  have hz : nsum (fun x => (fun S => if mst (mTn K) S K.1 < v + 1 then mwt (mup1 (my K)) (mwp1 (my K) t) S K.1 else 0) (mal (my K) (K.1 - 1) + 1 + x)) k = 0 := by
    refine nsum_zero fun x hx => ?_
    have hlt : mal (my K) (K.1 - 1) + 1 + x < 2 ^ K.1 := by omega
    have hn : ¬ ∀ j, (mal (my K) (K.1 - 1) + 1 + x).testBit j = true → (mal (my K) (K.1 - 1)).testBit j = true := fun z => by
      have := msub_le z
      omega
    obtain ⟨j, hj⟩ := Classical.not_forall.mp hn
    obtain ⟨j1, j2⟩ := Classical.not_imp.mp hj
    have hjp : j < K.1 := by
      by_cases q : j < K.1
      · exact q
      · rw [Nat.testBit_lt_two_pow (Nat.lt_of_lt_of_le hlt (Nat.pow_le_pow_right (by decide) (by omega)))] at j1
        exact absurd j1 Bool.false_ne_true
    have hyj : my K j ≠ 1 := fun e => by
      rw [← (my_last K rfl).1, mal_bit] at j2
      exact j2 (decide_eq_true ⟨hjp, e⟩)
    show (if mst (mTn K) (mal (my K) (K.1 - 1) + 1 + x) K.1 < v + 1 then mwt (mup1 (my K)) (mwp1 (my K) t) (mal (my K) (K.1 - 1) + 1 + x) K.1 else 0) = 0
    rw [mwt_no j1 hyj hjp]
    split <;> rfl
  rw [hz, Nat.add_zero]
  rfl
end SYS26
