section SYS22
variable {σ : zS} {K : zK} {T : Int}
theorem s_drawn (d : Nat) (x : Int) : zc d mX2_drawn [zI x] σ = some (some (zI (mdr x)), σ) := e_X2_drawn d x σ
theorem s_nextSeed (d : Nat) (x : Int) : zc d mX2_nextSeed [zI x] σ = some (some (zI (mseed x)), σ) := e_X2_nextSeed d x σ
theorem s_drawLoop (d : Nat) (hO : mOk K) (x : Int) : ∀ (m i : Nat) (τ : zS), i + m = K.1 → AbsC τ 6 (mtripK K x i) → ∃ τ', zq (d + 2) mX2_drawTrip 36 [some (zR (some 0)), none, some (zI (msq (mseed x) i)), some (zI i)] [] τ = some (some (zI (msq (mseed x) K.1)), τ') ∧ AbsC τ' 6 (mtripK K x K.1) ∧ zScr zSc τ τ' := by
  have hp := hO.1
  intro m
  induction m with
  | zero =>
    intro i τ hi hA
    have hi' : i = K.1 := by omega
    subst hi'
    refine ⟨τ, ?_, hA, zScr_rf _ _⟩
    have h0 : τ 6 0 = (K.1 : Int) := hA.1
    rw [b_X2_drawTrip_36, h0]
    simp (disch := omega) only [nrm_id, zix, ↓reduceIte, if_true, if_false, true_and, and_true, false_and, and_false, not_true_eq_false, not_false_eq_true, Int.reduceAdd, Int.reduceSub, Int.reduceMul, ↓if_pos, ↓if_neg, Option.bind_some, Option.toList_some, Option.toList_none, List.append_nil, List.cons_append, List.nil_append, znat, znat1, zpm1, zcm1, zof0, zof1, zof2, zof3, zofa0, zofa1]
  | succ m ih =>
    intro i τ hi hA
    have h0 : τ 6 0 = (K.1 : Int) := hA.1
    have hd := mdr_rng (msq (mseed x) (i + 1))
    have ht := tmod_rng hd.1 (show (0 : Int) < 5 by decide)
    have em : mseed (msq (mseed x) i) = msq (mseed x) (i + 1) := rfl
    by_cases q : (mdr (msq (mseed x) (i + 1))).tmod 5 = 0
    · have h2 : (2 : Nat) ^ i < 256 := by
        have := Nat.pow_lt_pow_right (a := 2) (by decide) (show i < 8 from by omega)
        omega
      have h3 : 0 ≤ ((2 ^ i : Nat) : Int) ∧ ((2 ^ i : Nat) : Int) < 256 := by
        generalize (2 : Nat) ^ i = z at h2 ⊢
        omega
      obtain ⟨τ1, b1, b2, -, b3⟩ := s_block d zCo6 hA (mtripK_ok hO x (by omega)) (R := ((2 ^ i : Nat) : Int)) h3 (fun j hj e => by
        rw [mbit_pow] at e
        by_cases q : i = j
        · subst q; show i < K.1; omega
        · rw [if_neg q] at e; exact absurd e (by decide))
      have hA2 : AbsC τ1 6 (mtripK K x (i + 1)) := by
        refine AbsC_eq b2 ⟨rfl, rfl, fun _ _ => rfl, fun _ _ => rfl, fun j _ => ?_, fun j _ => ?_⟩
        · show (if mbit ((2 ^ i : Nat) : Int) j = 1 then (0 : Int) else 0) = 0
          split <;> rfl
        · show (if mbit ((2 ^ i : Nat) : Int) j = 1 then (1 : Int) else if j < i ∧ (mdr (msq (mseed x) (j + 1))).tmod 5 = 0 then 1 else 0) = if j < i + 1 ∧ (mdr (msq (mseed x) (j + 1))).tmod 5 = 0 then 1 else 0
          rw [mbit_pow]
          by_cases e : i = j
          · subst e; rw [if_pos rfl, if_pos rfl, if_pos ⟨by omega, q⟩]
          · rw [if_neg e, if_neg (by decide)]
            by_cases e2 : j < i ∧ (mdr (msq (mseed x) (j + 1))).tmod 5 = 0
            · rw [if_pos e2, if_pos ⟨by omega, e2.2⟩]
            · rw [if_neg e2, if_neg (fun z => e2 ⟨by have := z.1; omega, z.2⟩)]
      obtain ⟨τ2, k1, k2, k3⟩ := ih (i + 1) τ1 (by omega) hA2
      refine ⟨τ2, ?_, k2, zScr_tr (zScr_of b3 (by simp [zSc]) (by simp)) k3⟩
      rw [b_X2_drawTrip_36, h0]
      simp (disch := omega) only [nrm_id, zix, ↓reduceIte, if_true, if_false, true_and, and_true, false_and, and_false, not_true_eq_false, not_false_eq_true, Int.reduceAdd, Int.reduceSub, Int.reduceMul, ↓if_pos, ↓if_neg, Option.bind_some, Option.toList_some, Option.toList_none, List.append_nil, List.cons_append, List.nil_append, znat, znat1, zpm1, zcm1, zof0, zof1, zof2, zof3, zofa0, zofa1, s_nextSeed, em, b_X2_drawTrip_51, s_drawn, b_X2_drawTrip_56, q, zshl1, b1, b_X2_drawTrip_71]
      exact k1
    · have hA2 : AbsC τ 6 (mtripK K x (i + 1)) := by
        refine AbsC_eq hA ⟨rfl, rfl, fun _ _ => rfl, fun _ _ => rfl, fun _ _ => rfl, fun j _ => ?_⟩
        show (if j < i ∧ (mdr (msq (mseed x) (j + 1))).tmod 5 = 0 then (1 : Int) else 0) = if j < i + 1 ∧ (mdr (msq (mseed x) (j + 1))).tmod 5 = 0 then 1 else 0
        by_cases e2 : j < i ∧ (mdr (msq (mseed x) (j + 1))).tmod 5 = 0
        · rw [if_pos e2, if_pos ⟨by omega, e2.2⟩]
        · rw [if_neg e2, if_neg (fun z => e2 ⟨by have e3 : j ≠ i := (fun e => q (e ▸ z.2)); have := z.1; omega, z.2⟩)]
      obtain ⟨τ2, k1, k2, k3⟩ := ih (i + 1) τ (by omega) hA2
      refine ⟨τ2, ?_, k2, k3⟩
      rw [b_X2_drawTrip_36, h0]
      simp (disch := omega) only [nrm_id, zix, ↓reduceIte, if_true, if_false, true_and, and_true, false_and, and_false, not_true_eq_false, not_false_eq_true, Int.reduceAdd, Int.reduceSub, Int.reduceMul, ↓if_pos, ↓if_neg, Option.bind_some, Option.toList_some, Option.toList_none, List.append_nil, List.cons_append, List.nil_append, znat, znat1, zpm1, zcm1, zof0, zof1, zof2, zof3, zofa0, zofa1, s_nextSeed, em, b_X2_drawTrip_51, s_drawn, b_X2_drawTrip_56, b_X2_drawTrip_71]
      exact k1
end SYS22
