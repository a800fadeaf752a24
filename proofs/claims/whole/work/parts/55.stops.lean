theorem mbit_lt {S p j : Nat} (hS : S < 2 ^ p) (h : mbit (S : Int) j = 1) : j < p := by
  by_cases q : j < p
  · exact q
  · exfalso
    rw [mbit_test, Nat.testBit_lt_two_pow (Nat.lt_of_lt_of_le hS (Nat.pow_le_pow_right (by decide) (by omega)))] at h
    exact absurd h (by decide)
theorem mpop_rng (S : Int) : 0 ≤ mpop S ∧ mpop S ≤ 10 := by
  have e := msum_rng (f := mbit S) (a := 0) (b := 1) 10 (fun r _ => by rcases mbit_01 S r with e | e <;> rw [e] <;> decide)
  unfold mpop
  omega
theorem mpop_all : ∀ p : Nat, p < 9 → mpop ((2 ^ p - 1 : Nat) : Int) = (p : Int) := by decide +kernel
def mstp (z : Nat → Int) : Nat → Nat → Nat → Nat
  | 0, _, f => f
  | m + 1, s, f => if mpop (s : Int) < mpop (f : Int) ∧ z s = 0 then mstp z m (s + 1) s else mstp z m (s + 1) f
theorem mstp_t {z : Nat → Int} {m s f : Nat} (h1 : mpop (s : Int) < mpop (f : Int)) (h2 : z s = 0) : mstp z (m + 1) s f = mstp z m (s + 1) s := by
  unfold mstp
  rw [if_pos ⟨h1, h2⟩]
  cases m <;> rfl
theorem mstp_f {z : Nat → Int} {m s f : Nat} (h : ¬ (mpop (s : Int) < mpop (f : Int) ∧ z s = 0)) : mstp z (m + 1) s f = mstp z m (s + 1) f := by
  unfold mstp
  rw [if_neg h]
  cases m <;> rfl
theorem mtip_0 {t : Nat → Int} : ∀ n : Nat, n ≤ 8 → (∀ r, r < n → 0 ≤ t r) → (mtip t n = 0 ↔ msum t n = 0) := by
  intro n
  induction n with
  | zero => intro _ _; exact ⟨fun _ => rfl, fun _ => rfl⟩
  | succ n ih =>
    intro hn h
    have ih := ih (by omega) (fun r hr => h r (by omega))
    have h0 := h n (by omega)
    have hs : 0 ≤ msum t n := by
      clear ih
      have : ∀ m, m ≤ n → 0 ≤ msum t m := by
        intro m
        induction m with
        | zero => intro _; exact Int.le_refl _
        | succ m ih2 => intro hm; have := ih2 (by omega); have := h m (by omega); unfold msum; omega
      exact this n (Nat.le_refl _)
    rw [mtip_succ]
    unfold msum
    by_cases q : t n ≤ 0
    · rw [if_pos q, ih]
      constructor <;> intro <;> omega
    · rw [if_neg q]
      constructor
      · intro e
        exfalso
        have h2 : (2 : Nat) ^ n < 256 := by
          have := Nat.pow_lt_pow_right (a := 2) (by decide) (show n < 8 from by omega)
          omega
        have b := mbit_zor (mtip_rng t n (by omega)) (R := zshl 1 (n : Int)) (by rw [zshl1 n (by omega)]; generalize (2 : Nat) ^ n = z at h2 ⊢; omega) n
        rw [e, zshl1 n (by omega), mbit_pow, if_pos rfl, if_pos rfl] at b
        have : mbit 0 n = 0 := by simp [mbit]
        rw [this] at b
        exact absurd b (by decide)
      · intro e; omega
section SYS15
variable {σ : zS} {K : zK} {T : Int}
theorem s_nobody (d : Nat) (h : zSysK K T σ) {S n : Nat} (hS : S < 2 ^ K.1) (hn : n < 1000) : ∃ σ1, zc (d + 5) mX2_nobodyTips [zR (some 0), zI S, zI n] σ = some (some (zI (if mtS (mrounds n (mblk K S)) = 0 then 1 else 0)), σ1) ∧ zScr zSc σ σ1 := by
  have hp := h.2.2.1.1
  have h256 : S < 256 := Nat.lt_of_lt_of_le hS (show (2 : Nat) ^ K.1 ≤ 2 ^ 8 from Nat.pow_le_pow_right (by decide) hp)
  have hm : ∀ j, j < 8 → mbit (S : Int) j = 1 → j < K.1 := fun j _ e => mbit_lt hS e
  obtain ⟨σ1, g1, g2, g3⟩ := s_thinkOnBlocked d h.1 h.2.2.1 hn (R := (S : Int)) (by omega) hm
  have hO := mrounds_ok (mblk_ok h.2.2.1 hm) n
  have hr := mtS_rng hO
  refine ⟨σ1, ?_, zScr_of g3 (by simp [zSc]) (by simp)⟩
  rw [e_X2_nobodyTips]
  by_cases q : mtS (mrounds n (mblk K S)) = 0
  · simp (disch := omega) only [nrm_id, zix, ↓reduceIte, if_true, if_false, true_and, and_true, false_and, and_false, not_true_eq_false, not_false_eq_true, Int.reduceAdd, Int.reduceSub, Int.reduceMul, ↓if_pos, ↓if_neg, Option.bind_some, Option.toList_some, Option.toList_none, List.append_nil, List.cons_append, List.nil_append, znat, znat1, zpm1, zcm1, zof0, zof1, zof2, zof3, zofa0, zofa1, g1, b_X2_nobodyTips_6, zC_tips _ g2 hO, b_X2_nobodyTips_13]
  · simp (disch := omega) only [nrm_id, zix, ↓reduceIte, if_true, if_false, true_and, and_true, false_and, and_false, not_true_eq_false, not_false_eq_true, Int.reduceAdd, Int.reduceSub, Int.reduceMul, ↓if_pos, ↓if_neg, Option.bind_some, Option.toList_some, Option.toList_none, List.append_nil, List.cons_append, List.nil_append, znat, znat1, zpm1, zcm1, zof0, zof1, zof2, zof3, zofa0, zofa1, g1, b_X2_nobodyTips_6, zC_tips _ g2 hO, b_X2_nobodyTips_13]
abbrev mblkp (K : zK) (S : Nat) (i : Nat) : zK := (K.1, K.2.1, K.2.2.1, K.2.2.2.1, fun r => if r < i ∧ mbit (S : Int) r = 1 then 0 else K.2.2.2.2.1 r, fun r => if r < i ∧ mbit (S : Int) r = 1 then 1 else K.2.2.2.2.2 r)
/-- the reference's rows blocked by a set, then rounds -/
theorem r_blkset (d : Nat) (h : zSysK K T σ) {S n : Nat} (hS : S < 2 ^ K.1) (hn : n < 1000) (f : Int) : ∃ σ1 σ2, zc (d + 4) mX3_copies [zR (some 37), zR (some 38)] σ = some (none, σ1) ∧ zq (d + 5) mX3_stops 65 [some (zR (some 36)), some (zI n), some (zI f), some (zI S), some (zI 0)] [] σ1 = zq (d + 5) mX3_stops 109 [some (zR (some 36)), some (zI n), some (zI f), some (zI S), some (zI (K.1 : Int))] [] σ2 ∧ AbsM σ2 38 (mrounds n (mblk K S)) ∧ zScr zSc σ σ2 := by
  have hp := h.2.2.1.1
  have h256 : S < 256 := Nat.lt_of_lt_of_le hS (show (2 : Nat) ^ K.1 ≤ 2 ^ 8 from Nat.pow_le_pow_right (by decide) hp)
  have hm : ∀ j, j < 8 → mbit (S : Int) j = 1 → j < K.1 := fun j _ e => mbit_lt hS e
  obtain ⟨σ1, a1, a2, a3⟩ := r_copies (d + 4) zAr37 zAr38 σ
  have lp : ∀ (m i : Nat) (τ : zS), i + m = K.1 → τ 37 0 = (K.1 : Int) → AbsM τ 38 (mblkp K S i) → ∃ τ' : zS, zq (d + 5) mX3_stops 65 [some (zR (some 36)), some (zI n), some (zI f), some (zI S), some (zI i)] [] τ = zq (d + 5) mX3_stops 109 [some (zR (some 36)), some (zI n), some (zI f), some (zI S), some (zI (K.1 : Int))] [] τ' ∧ AbsM τ' 38 (mrounds n (mblk K S)) ∧ zFr [38, 41] τ τ' := by
    intro m
    induction m with
    | zero =>
      intro i τ hi h37 hA
      have hi' : i = K.1 := by omega
      subst hi'
      have hA2 : AbsM τ 38 (mblk K S) := AbsM_eq hA ⟨rfl, rfl, fun _ _ => rfl, fun _ _ => rfl, fun j hj => ?_, fun j hj => ?_⟩
      · obtain ⟨τ', c1, c2, -, c3⟩ := r_roundsOn (d + 1) zAr38 hA2 (mblk_ok h.2.2.1 hm) hn
        refine ⟨τ', ?_, c2, c3⟩
        rw [b_X3_stops_65, h37]
        simp (disch := omega) only [nrm_id, zix, ↓reduceIte, if_true, if_false, true_and, and_true, false_and, and_false, not_true_eq_false, not_false_eq_true, Int.reduceAdd, Int.reduceSub, Int.reduceMul, ↓if_pos, ↓if_neg, Option.bind_some, Option.toList_some, Option.toList_none, List.append_nil, List.cons_append, List.nil_append, znat, znat1, zpm1, zcm1, zof0, zof1, zof2, zof3, zofa0, zofa1, c1]
      · show (if j < K.1 ∧ mbit (S : Int) j = 1 then 0 else K.2.2.2.2.1 j) = if mbit (S : Int) j = 1 then 0 else K.2.2.2.2.1 j
        by_cases e : mbit (S : Int) j = 1
        · rw [if_pos ⟨hm j hj e, e⟩, if_pos e]
        · rw [if_neg (fun z => e z.2), if_neg e]
      · show (if j < K.1 ∧ mbit (S : Int) j = 1 then 1 else K.2.2.2.2.2 j) = if mbit (S : Int) j = 1 then 1 else K.2.2.2.2.2 j
        by_cases e : mbit (S : Int) j = 1
        · rw [if_pos ⟨hm j hj e, e⟩, if_pos e]
        · rw [if_neg (fun z => e z.2), if_neg e]
    | succ m ih =>
      intro i τ hi h37 hA
      by_cases q : mbit (S : Int) i = 1
      · obtain ⟨τ1, b1, b2, -, b3⟩ := r_blocksIn (d + 3) zAr38 hA (r := i) (by omega)
        have hA2 : AbsM τ1 38 (mblkp K S (i + 1)) := AbsM_eq b2 ⟨rfl, rfl, fun _ _ => rfl, fun _ _ => rfl, fun j hj => ?_, fun j hj => ?_⟩
        · obtain ⟨τ2, k1, k2, k3⟩ := ih (i + 1) τ1 (by omega) (by rw [b3 37 (by simp)]; exact h37) hA2
          refine ⟨τ2, ?_, k2, zFr_tr (zFr_mono b3 (by simp)) k3⟩
          rw [b_X3_stops_65, h37]
          simp (disch := omega) only [nrm_id, zix, ↓reduceIte, if_true, if_false, true_and, and_true, false_and, and_false, not_true_eq_false, not_false_eq_true, Int.reduceAdd, Int.reduceSub, Int.reduceMul, ↓if_pos, ↓if_neg, Option.bind_some, Option.toList_some, Option.toList_none, List.append_nil, List.cons_append, List.nil_append, znat, znat1, zpm1, zcm1, zof0, zof1, zof2, zof3, zofa0, zofa1, r_has, q, b_X3_stops_82, b1, b_X3_stops_94]
          exact k1
        · show (if mbit ((2 ^ i : Nat) : Int) j = 1 then 0 else if j < i ∧ mbit (S : Int) j = 1 then 0 else K.2.2.2.2.1 j) = if j < i + 1 ∧ mbit (S : Int) j = 1 then 0 else K.2.2.2.2.1 j
          rw [mbit_pow]
          by_cases e : i = j
          · subst e; rw [if_pos rfl, if_pos rfl, if_pos ⟨by omega, q⟩]
          · rw [if_neg e, if_neg (by decide)]
            by_cases e2 : j < i ∧ mbit (S : Int) j = 1
            · rw [if_pos e2, if_pos ⟨by omega, e2.2⟩]
            · rw [if_neg e2, if_neg (fun z => e2 ⟨by omega, z.2⟩)]
        · show (if mbit ((2 ^ i : Nat) : Int) j = 1 then 1 else if j < i ∧ mbit (S : Int) j = 1 then 1 else K.2.2.2.2.2 j) = if j < i + 1 ∧ mbit (S : Int) j = 1 then 1 else K.2.2.2.2.2 j
          rw [mbit_pow]
          by_cases e : i = j
          · subst e; rw [if_pos rfl, if_pos rfl, if_pos ⟨by omega, q⟩]
          · rw [if_neg e, if_neg (by decide)]
            by_cases e2 : j < i ∧ mbit (S : Int) j = 1
            · rw [if_pos e2, if_pos ⟨by omega, e2.2⟩]
            · rw [if_neg e2, if_neg (fun z => e2 ⟨by omega, z.2⟩)]
      · have q0 : mbit (S : Int) i = 0 := (mbit_01 (S : Int) i).resolve_right q
        have hA2 : AbsM τ 38 (mblkp K S (i + 1)) := AbsM_eq hA ⟨rfl, rfl, fun _ _ => rfl, fun _ _ => rfl, fun j hj => ?_, fun j hj => ?_⟩
        · obtain ⟨τ2, k1, k2, k3⟩ := ih (i + 1) τ (by omega) h37 hA2
          refine ⟨τ2, ?_, k2, k3⟩
          rw [b_X3_stops_65, h37]
          simp (disch := omega) only [nrm_id, zix, ↓reduceIte, if_true, if_false, true_and, and_true, false_and, and_false, not_true_eq_false, not_false_eq_true, Int.reduceAdd, Int.reduceSub, Int.reduceMul, ↓if_pos, ↓if_neg, Option.bind_some, Option.toList_some, Option.toList_none, List.append_nil, List.cons_append, List.nil_append, znat, znat1, zpm1, zcm1, zof0, zof1, zof2, zof3, zofa0, zofa1, r_has, q0, b_X3_stops_82, b_X3_stops_94]
          exact k1
        · show (if j < i ∧ mbit (S : Int) j = 1 then 0 else K.2.2.2.2.1 j) = if j < i + 1 ∧ mbit (S : Int) j = 1 then 0 else K.2.2.2.2.1 j
          by_cases e2 : j < i ∧ mbit (S : Int) j = 1
          · rw [if_pos e2, if_pos ⟨by omega, e2.2⟩]
          · rw [if_neg e2, if_neg (fun z => e2 ⟨by have e3 : j ≠ i := (fun e => q (e ▸ z.2)); omega, z.2⟩)]
        · show (if j < i ∧ mbit (S : Int) j = 1 then 1 else K.2.2.2.2.2 j) = if j < i + 1 ∧ mbit (S : Int) j = 1 then 1 else K.2.2.2.2.2 j
          by_cases e2 : j < i ∧ mbit (S : Int) j = 1
          · rw [if_pos e2, if_pos ⟨by omega, e2.2⟩]
          · rw [if_neg e2, if_neg (fun z => e2 ⟨by have e3 : j ≠ i := (fun e => q (e ▸ z.2)); omega, z.2⟩)]
  have hA0 : AbsM σ1 38 (mblkp K S 0) := by
    refine AbsM_eq (AbsM_copy h.2.1 a2) ⟨rfl, rfl, fun _ _ => rfl, fun _ _ => rfl, fun j hj => ?_, fun j hj => ?_⟩
    · show K.2.2.2.2.1 j = if j < 0 ∧ mbit (S : Int) j = 1 then 0 else K.2.2.2.2.1 j
      rw [if_neg (fun z => by omega)]
    · show K.2.2.2.2.2 j = if j < 0 ∧ mbit (S : Int) j = 1 then 1 else K.2.2.2.2.2 j
      rw [if_neg (fun z => by omega)]
  obtain ⟨σ2, k1, k2, k3⟩ := lp K.1 0 σ1 (by omega) (by rw [a3 37 (by simp)]; exact h.2.1.1) hA0
  exact ⟨σ1, σ2, a1, k1, k2, zScr_tr (zScr_of a3 (by simp [zSc]) (by simp)) (zScr_of k3 (by simp [zSc]) (by simp))⟩
theorem p_stops (h : zSysK K T σ) {x : Int} (hx : R32 x) : zP mX2_stops mX3_stops [zI x] σ := by
  have h0 := h
  obtain ⟨hC, hM, hO, hT1, hT2, hT, -, -⟩ := h
  have hp := hO.1
  obtain ⟨x1, x2⟩ := hx
  by_cases q : 1 ≤ x ∧ x ≤ 60
  · obtain ⟨n, rfl⟩ := Int.eq_ofNat_of_zero_le (show 0 ≤ x by omega)
    have hP2 : 2 ^ K.1 ≤ 256 := show (2 : Nat) ^ K.1 ≤ 2 ^ 8 from Nat.pow_le_pow_right (by decide) hp
    have hP1 : 1 ≤ 2 ^ K.1 := Nat.one_le_two_pow
    have hpa := mpop_all K.1 (by omega)
    have hz := zshl1 K.1 (by omega)
    generalize hPd : 2 ^ K.1 = P at hP2 hP1 hpa hz
    have hm : ∀ S, S < P → ∀ j, j < 8 → mbit (S : Int) j = 1 → j < K.1 := fun S hS j _ e => mbit_lt (hPd ▸ hS) e
    have hzr : ∀ S, S < P → 0 ≤ mtS (mrounds n (mblk K (S : Int))) ∧ mtS (mrounds n (mblk K (S : Int))) ≤ 80 := fun S hS => mtS_rng (mrounds_ok (mblk_ok hO (hm S hS)) n)
    obtain ⟨z, hzd⟩ : ∃ z : Nat → Int, ∀ S, z S = mtS (mrounds n (mblk K (S : Int))) := ⟨_, fun _ => rfl⟩
    refine zP_read h0 (zI ((mstp z (P - 1) 0 (P - 1) : Nat) : Int)) (fun d => ?_) (fun d τ hτ => ?_)
    · have lp : ∀ (m s f : Nat) (τ : zS), s + m = P - 1 → zSysK K T τ → ∃ τ', zq (d + 20) mX2_stops 39 [some (zR (some 0)), some (zI n), some (zI ((P : Int) - 1)), some (zI f), some (zI (mpop f)), some (zI s), none] [] τ = some (some (zI ((mstp z m s f : Nat) : Int)), τ') ∧ zScr zSc τ τ' := by
        intro m
        induction m with
        | zero =>
          intro s f τ hs hS
          refine ⟨τ, ?_, zScr_rf _ _⟩
          rw [b_X2_stops_39]
          simp (disch := omega) only [nrm_id, zix, ↓reduceIte, if_true, if_false, true_and, and_true, false_and, and_false, not_true_eq_false, not_false_eq_true, Int.reduceAdd, Int.reduceSub, Int.reduceMul, ↓if_pos, ↓if_neg, Option.bind_some, Option.toList_some, Option.toList_none, List.append_nil, List.cons_append, List.nil_append, znat, znat1, zpm1, zcm1, zof0, zof1, zof2, zof3, zofa0, zofa1, mstp]
        | succ m ih =>
          intro s f τ hs hS
          have b := s_bitCount (d + 19) τ (S := (s : Int)) (by omega) (by omega)
          have r1 := mpop_rng (s : Int)
          have r2 := mpop_rng (f : Int)
          rw [b_X2_stops_39]
          by_cases q1 : mpop (s : Int) < mpop (f : Int)
          · obtain ⟨τ1, g1, g2⟩ := s_nobody (d + 14) hS (S := s) (n := n) (by rw [hPd]; omega) (by omega)
            by_cases q2 : mtS (mrounds n (mblk K (s : Int))) = 0
            · rw [if_pos q2] at g1
              rw [mstp_t q1 ((hzd s).trans q2)]
              obtain ⟨τ2, k1, k2⟩ := ih (s + 1) s τ1 (by omega) (zSys_scr hS g2)
              refine ⟨τ2, ?_, zScr_tr g2 k2⟩
              simp (disch := omega) only [nrm_id, zix, ↓reduceIte, if_true, if_false, true_and, and_true, false_and, and_false, not_true_eq_false, not_false_eq_true, Int.reduceAdd, Int.reduceSub, Int.reduceMul, ↓if_pos, ↓if_neg, Option.bind_some, Option.toList_some, Option.toList_none, List.append_nil, List.cons_append, List.nil_append, znat, znat1, zpm1, zcm1, zof0, zof1, zof2, zof3, zofa0, zofa1, b, b_X2_stops_50, g1, b_X2_stops_66, b_X2_stops_76]
              exact k1
            · rw [if_neg q2] at g1
              rw [mstp_f (fun w => q2 ((hzd s).symm.trans w.2))]
              obtain ⟨τ2, k1, k2⟩ := ih (s + 1) f τ1 (by omega) (zSys_scr hS g2)
              refine ⟨τ2, ?_, zScr_tr g2 k2⟩
              simp (disch := omega) only [nrm_id, zix, ↓reduceIte, if_true, if_false, true_and, and_true, false_and, and_false, not_true_eq_false, not_false_eq_true, Int.reduceAdd, Int.reduceSub, Int.reduceMul, ↓if_pos, ↓if_neg, Option.bind_some, Option.toList_some, Option.toList_none, List.append_nil, List.cons_append, List.nil_append, znat, znat1, zpm1, zcm1, zof0, zof1, zof2, zof3, zofa0, zofa1, b, b_X2_stops_50, g1, b_X2_stops_66, b_X2_stops_76]
              exact k1
          · rw [mstp_f (fun w => q1 w.1)]
            obtain ⟨τ2, k1, k2⟩ := ih (s + 1) f τ (by omega) hS
            refine ⟨τ2, ?_, k2⟩
            simp (disch := omega) only [nrm_id, zix, ↓reduceIte, if_true, if_false, true_and, and_true, false_and, and_false, not_true_eq_false, not_false_eq_true, Int.reduceAdd, Int.reduceSub, Int.reduceMul, ↓if_pos, ↓if_neg, Option.bind_some, Option.toList_some, Option.toList_none, List.append_nil, List.cons_append, List.nil_append, znat, znat1, zpm1, zcm1, zof0, zof1, zof2, zof3, zofa0, zofa1, b, b_X2_stops_50, b_X2_stops_76]
            exact k1
      obtain ⟨σ2, k1, k2⟩ := lp (P - 1) 0 (P - 1) σ (by omega) h0
      refine ⟨σ2, ?_, k2⟩
      have ef : ((P - 1 : Nat) : Int) = (P : Int) - 1 := by omega
      rw [hpa, ef] at k1
      rw [e_X2_stops, hC.1, hz]
      simp (disch := omega) only [nrm_id, zix, ↓reduceIte, if_true, if_false, true_and, and_true, false_and, and_false, not_true_eq_false, not_false_eq_true, Int.reduceAdd, Int.reduceSub, Int.reduceMul, ↓if_pos, ↓if_neg, Option.bind_some, Option.toList_some, Option.toList_none, List.append_nil, List.cons_append, List.nil_append, znat, znat1, zpm1, zcm1, zof0, zof1, zof2, zof3, zofa0, zofa1]
      exact k1
    · have lp : ∀ (m s f : Nat) (τ : zS), s + m = P - 1 → f < P → mpop (f : Int) ≤ K.1 → zSysK K T τ → ∃ τ', zq (d + 20) mX3_stops 25 [some (zR (some 36)), some (zI n), some (zI f), some (zI s), none] [] τ = some (some (zI ((mstp z m s f : Nat) : Int)), τ') ∧ zScr zSc τ τ' := by
        intro m
        induction m with
        | zero =>
          intro s f τ hs hf hfp hS
          have hs' : s = P - 1 := by omega
          have b1 := r_bits (d + 19) τ (S := (s : Int)) (by omega) (by omega)
          have b2 := r_bits (d + 19) τ (S := (f : Int)) (by omega) (by omega)
          have r2 := mpop_rng (f : Int)
          rw [hs', hpa] at b1
          refine ⟨τ, ?_, zScr_rf _ _⟩
          rw [b_X3_stops_25, hS.2.1.1, hz, hs']
          simp (disch := omega) only [nrm_id, zix, ↓reduceIte, if_true, if_false, true_and, and_true, false_and, and_false, not_true_eq_false, not_false_eq_true, Int.reduceAdd, Int.reduceSub, Int.reduceMul, ↓if_pos, ↓if_neg, Option.bind_some, Option.toList_some, Option.toList_none, List.append_nil, List.cons_append, List.nil_append, znat, znat1, zpm1, zcm1, zof0, zof1, zof2, zof3, zofa0, zofa1, b1, b_X3_stops_41, b2, b_X3_stops_45, b_X3_stops_121]
          rw [b_X3_stops_25, hS.2.1.1, hz]
          simp (disch := omega) only [nrm_id, zix, ↓reduceIte, if_true, if_false, true_and, and_true, false_and, and_false, not_true_eq_false, not_false_eq_true, Int.reduceAdd, Int.reduceSub, Int.reduceMul, ↓if_pos, ↓if_neg, Option.bind_some, Option.toList_some, Option.toList_none, List.append_nil, List.cons_append, List.nil_append, znat, znat1, zpm1, zcm1, zof0, zof1, zof2, zof3, zofa0, zofa1, mstp]
        | succ m ih =>
          intro s f τ hs hf hfp hS
          have b1 := r_bits (d + 19) τ (S := (s : Int)) (by omega) (by omega)
          have b2 := r_bits (d + 19) τ (S := (f : Int)) (by omega) (by omega)
          have r1 := mpop_rng (s : Int)
          have r2 := mpop_rng (f : Int)
          rw [b_X3_stops_25, hS.2.1.1, hz]
          by_cases q1 : mpop (s : Int) < mpop (f : Int)
          · obtain ⟨τ1, τ2, g1, g2, g3, g4⟩ := r_blkset (d + 15) hS (S := s) (n := n) (by rw [hPd]; omega) (by omega) (f : Int)
            have hO2 := mrounds_ok (mblk_ok hO (hm s (by omega))) n
            have tp := r_tipping (d + 18) zAr38 g3 hO2
            have tz := mtip_0 (t := (mrounds n (mblk K (s : Int))).2.2.2.2.1) (mrounds n (mblk K (s : Int))).1 hO2.1 (fun r hr => (hO2.2.2.2.2.1 r (by have := hO2.1; omega)).1)
            have tr := mtip_rng (mrounds n (mblk K (s : Int))).2.2.2.2.1 (mrounds n (mblk K (s : Int))).1 hO2.1
            by_cases q2 : mtS (mrounds n (mblk K (s : Int))) = 0
            · rw [tz.mpr q2] at tp
              rw [mstp_t q1 ((hzd s).trans q2)]
              obtain ⟨τ3, k1, k2⟩ := ih (s + 1) s τ2 (by omega) (by omega) (by omega) (zSys_scr hS g4)
              refine ⟨τ3, ?_, zScr_tr g4 k2⟩
              simp (disch := omega) only [nrm_id, zix, ↓reduceIte, if_true, if_false, true_and, and_true, false_and, and_false, not_true_eq_false, not_false_eq_true, Int.reduceAdd, Int.reduceSub, Int.reduceMul, ↓if_pos, ↓if_neg, Option.bind_some, Option.toList_some, Option.toList_none, List.append_nil, List.cons_append, List.nil_append, znat, znat1, zpm1, zcm1, zof0, zof1, zof2, zof3, zofa0, zofa1, b1, b_X3_stops_41, b2, b_X3_stops_45, g1, b_X3_stops_62]
              refine g2.trans ?_
              rw [b_X3_stops_109]
              simp (disch := omega) only [nrm_id, zix, ↓reduceIte, if_true, if_false, true_and, and_true, false_and, and_false, not_true_eq_false, not_false_eq_true, Int.reduceAdd, Int.reduceSub, Int.reduceMul, ↓if_pos, ↓if_neg, Option.bind_some, Option.toList_some, Option.toList_none, List.append_nil, List.cons_append, List.nil_append, znat, znat1, zpm1, zcm1, zof0, zof1, zof2, zof3, zofa0, zofa1, tp, b_X3_stops_116, b_X3_stops_121]
              exact k1
            · have q3 : ¬ mtip (mrounds n (mblk K (s : Int))).2.2.2.2.1 (mrounds n (mblk K (s : Int))).1 = 0 := fun e => q2 (tz.mp e)
              rw [mstp_f (fun w => q2 ((hzd s).symm.trans w.2))]
              obtain ⟨τ3, k1, k2⟩ := ih (s + 1) f τ2 (by omega) hf hfp (zSys_scr hS g4)
              refine ⟨τ3, ?_, zScr_tr g4 k2⟩
              simp (disch := omega) only [nrm_id, zix, ↓reduceIte, if_true, if_false, true_and, and_true, false_and, and_false, not_true_eq_false, not_false_eq_true, Int.reduceAdd, Int.reduceSub, Int.reduceMul, ↓if_pos, ↓if_neg, Option.bind_some, Option.toList_some, Option.toList_none, List.append_nil, List.cons_append, List.nil_append, znat, znat1, zpm1, zcm1, zof0, zof1, zof2, zof3, zofa0, zofa1, b1, b_X3_stops_41, b2, b_X3_stops_45, g1, b_X3_stops_62]
              refine g2.trans ?_
              rw [b_X3_stops_109]
              simp (disch := omega) only [nrm_id, zix, ↓reduceIte, if_true, if_false, true_and, and_true, false_and, and_false, not_true_eq_false, not_false_eq_true, Int.reduceAdd, Int.reduceSub, Int.reduceMul, ↓if_pos, ↓if_neg, Option.bind_some, Option.toList_some, Option.toList_none, List.append_nil, List.cons_append, List.nil_append, znat, znat1, zpm1, zcm1, zof0, zof1, zof2, zof3, zofa0, zofa1, tp, b_X3_stops_116, b_X3_stops_121]
              exact k1
          · rw [mstp_f (fun w => q1 w.1)]
            obtain ⟨τ3, k1, k2⟩ := ih (s + 1) f τ (by omega) hf hfp hS
            refine ⟨τ3, ?_, k2⟩
            simp (disch := omega) only [nrm_id, zix, ↓reduceIte, if_true, if_false, true_and, and_true, false_and, and_false, not_true_eq_false, not_false_eq_true, Int.reduceAdd, Int.reduceSub, Int.reduceMul, ↓if_pos, ↓if_neg, Option.bind_some, Option.toList_some, Option.toList_none, List.append_nil, List.cons_append, List.nil_append, znat, znat1, zpm1, zcm1, zof0, zof1, zof2, zof3, zofa0, zofa1, b1, b_X3_stops_41, b2, b_X3_stops_45, b_X3_stops_121]
            exact k1
      obtain ⟨σ2, k1, k2⟩ := lp (P - 1) 0 (P - 1) τ (by omega) (by omega) (by rw [hpa]; exact Int.le_refl _) hτ
      refine ⟨σ2, ?_, k2⟩
      have ef : ((P - 1 : Nat) : Int) = (P : Int) - 1 := by omega
      rw [ef] at k1
      rw [e_X3_stops, r_isIn _ _ ⟨x1, x2⟩ (by omega) (by omega)]
      simp (disch := omega) only [nrm_id, zix, ↓reduceIte, if_true, if_false, true_and, and_true, false_and, and_false, not_true_eq_false, not_false_eq_true, Int.reduceAdd, Int.reduceSub, Int.reduceMul, ↓if_pos, ↓if_neg, Option.bind_some, Option.toList_some, Option.toList_none, List.append_nil, List.cons_append, List.nil_append, znat, znat1, zpm1, zcm1, zof0, zof1, zof2, zof3, zofa0, zofa1, b_X3_stops_7, hτ.2.1.1, hz]
      exact k1
  · refine zP_same h0 (zI (-1)) (fun d => ?_) (fun d => ?_)
    · rw [e_X2_stops]
      by_cases q5 : x < 1 <;> simp (disch := omega) only [nrm_id, zix, ↓reduceIte, if_true, if_false, true_and, and_true, false_and, and_false, not_true_eq_false, not_false_eq_true, Int.reduceAdd, Int.reduceSub, Int.reduceMul, ↓if_pos, ↓if_neg, Option.bind_some, Option.toList_some, Option.toList_none, List.append_nil, List.cons_append, List.nil_append, znat, znat1, zpm1, zcm1, zof0, zof1, zof2, zof3, zofa0, zofa1]
    · rw [e_X3_stops]
      simp (disch := omega) only [nrm_id, zix, ↓reduceIte, if_true, if_false, true_and, and_true, false_and, and_false, not_true_eq_false, not_false_eq_true, Int.reduceAdd, Int.reduceSub, Int.reduceMul, ↓if_pos, ↓if_neg, Option.bind_some, Option.toList_some, Option.toList_none, List.append_nil, List.cons_append, List.nil_append, znat, znat1, zpm1, zcm1, zof0, zof1, zof2, zof3, zofa0, zofa1, r_isIn, b_X3_stops_7]
end SYS15
