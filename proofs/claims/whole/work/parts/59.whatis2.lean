/-- the set of all for which he would tip as told -/
def mset (g : Nat → Int) : Nat → Int
  | 0 => 0
  | n + 1 => if g n = 0 then mset g n else zor (mset g n) (zshl 1 n)
theorem mset_t {g : Nat → Int} {n : Nat} (h : g n = 0) : mset g (n + 1) = mset g n := by
  show (if g n = 0 then _ else _) = _
  rw [if_pos h]
theorem mset_f {g : Nat → Int} {n : Nat} (h : g n = 1) : mset g (n + 1) = zor (mset g n) (zshl 1 n) := by
  show (if g n = 0 then _ else _) = _
  rw [if_neg (by rw [h]; decide)]
theorem mset_rng (g : Nat → Int) : ∀ n : Nat, n ≤ 10 → 0 ≤ mset g n ∧ mset g n < 1024 := by
  intro n
  induction n with
  | zero => intro _; exact ⟨Int.le_refl _, (by decide : (0 : Int) < 1024)⟩
  | succ n ih =>
    intro hn
    have ih := ih (by omega)
    unfold mset
    split
    · exact ih
    · obtain ⟨a, ha⟩ := Int.eq_ofNat_of_zero_le ih.1
      have h2 : (2 : Nat) ^ n < 1024 := by
        have := Nat.pow_lt_pow_right (a := 2) (by decide) (show n < 10 from by omega)
        omega
      rw [ha, zshl1 n (by omega), zor_nat (by omega) (by omega)]
      have := Nat.or_lt_two_pow (x := a) (y := 2 ^ n) (n := 10) (by omega) (by omega)
      omega
theorem zor_00 {x : Int} (h : 0 ≤ x ∧ x < 1024) : zor x 0 = x := by
  obtain ⟨n, rfl⟩ := Int.eq_ofNat_of_zero_le h.1
  have e : zor (n : Int) ((0 : Nat) : Int) = ((n ||| 0 : Nat) : Int) := zor_nat (by omega) (by omega)
  rw [Nat.or_zero] at e
  exact e
section SYS18
variable {σ : zS} {K : zK} {T : Int}
theorem s_kinds (d : Nat) (h : zSysK K T σ) {i : Nat} (hi : i < 8) {n : Nat} (hn : σ (20 + 2 * i) 4 = n) (hn2 : n ≤ 100) (h3 : 0 ≤ σ (20 + 2 * i) 3 ∧ σ (20 + 2 * i) 3 ≤ 2) {w : Nat → Int} (hw : σ (20 + 2 * i + 1) = w) (hwr : ∀ j, j < 100 → R32 (w j)) {l : Int} (hl : mleast (σ (20 + 2 * i) 3) = l) {r : Nat} (hr : r < K.1) : ∃ σ1, zc (d + 5) mX2_kindsAsTold [zR (some 0), zR (some (20 + 2 * i)), zI r] σ = some (some (zI (mset (fun k => mtold (mKf K r k (K.2.2.2.1 r)) w l r n 0) 8)), σ1) ∧ zScr zSc σ σ1 := by
  have hO := h.2.2.1
  have hp := hO.1
  have hq := zSh_of i hi
  obtain ⟨g, hg⟩ : ∃ g : Nat → Int, g = fun k : Nat => mtold (mKf K r (k : Int) (K.2.2.2.1 r)) w l r n 0 := ⟨_, rfl⟩
  rw [← hg]
  have hgk : ∀ k : Nat, g k = mtold (mKf K r k (K.2.2.2.1 r)) w l r n 0 := fun k => by rw [hg]
  have lp : ∀ (m k : Nat) (τ : zS), k + m = 8 → zSysK K T τ → zScr zSc σ τ → ∃ τ', zq (d + 5) mX2_kindsAsTold 5 [some (zR (some 0)), some (zR (some (20 + 2 * i))), some (zI r), some (zI (mset g k)), some (zI k)] [] τ = some (some (zI (mset g 8)), τ') ∧ zScr zSc τ τ' := by
    intro m
    induction m with
    | zero =>
      intro k τ hk hS hs
      refine ⟨τ, ?_, zScr_rf _ _⟩
      rw [b_X2_kindsAsTold_5 _ _ _ _ hq, show k = 8 from by omega]
      rfl
    | succ m ih =>
      intro k τ hk hS hs
      have f1 : τ (20 + 2 * i) = σ (20 + 2 * i) := hs.1 _ (zSc_sh i hi).1 (by omega)
      have f2 : τ (20 + 2 * i + 1) = w := by rw [hs.1 _ (zSc_sh i hi).2 (by omega)]; exact hw
      have e3 : τ 3 r = K.2.2.2.1 r := hS.1.2.2.2.1 r (by omega)
      obtain ⟨τ1, g1, g2⟩ := s_would d hS hi (n := n) (by rw [f1]; exact hn) hn2 (by rw [f1]; exact h3) f2 hwr (by rw [f1]; exact hl) hr (l := l) (k := (k : Int)) (f := K.2.2.2.1 r) (by omega) (hO.2.2.2.1 r (by omega))
      obtain ⟨τ2, k1, k2⟩ := ih (k + 1) τ1 (by omega) (zSys_scr hS g2) (zScr_tr hs g2)
      refine ⟨τ2, ?_, zScr_tr g2 k2⟩
      rw [b_X2_kindsAsTold_5 _ _ _ _ hq]
      rw [← hgk k] at g1
      rcases (hgk k).symm ▸ mtold_01 (mKf K r k (K.2.2.2.1 r)) w l r n 0 with z | z
      · rw [z] at g1
        rw [mset_t z] at k1
        simp (disch := omega) only [nrm_id, zix, ↓reduceIte, if_true, if_false, true_and, and_true, false_and, and_false, not_true_eq_false, not_false_eq_true, Int.reduceAdd, Int.reduceSub, Int.reduceMul, ↓if_pos, ↓if_neg, Option.bind_some, Option.toList_some, Option.toList_none, List.append_nil, List.cons_append, List.nil_append, znat, znat1, zpm1, zcm1, zof0, zof1, zof2, zof3, zofa0, zofa1, e3, g1, b_X2_kindsAsTold_29 _ _ _ _ _ hq, b_X2_kindsAsTold_39 _ _ _ _ hq]
        exact k1
      · rw [z] at g1
        rw [mset_f z] at k1
        simp (disch := omega) only [nrm_id, zix, ↓reduceIte, if_true, if_false, true_and, and_true, false_and, and_false, not_true_eq_false, not_false_eq_true, Int.reduceAdd, Int.reduceSub, Int.reduceMul, ↓if_pos, ↓if_neg, Option.bind_some, Option.toList_some, Option.toList_none, List.append_nil, List.cons_append, List.nil_append, znat, znat1, zpm1, zcm1, zof0, zof1, zof2, zof3, zofa0, zofa1, e3, g1, b_X2_kindsAsTold_29 _ _ _ _ _ hq, b_X2_kindsAsTold_39 _ _ _ _ hq]
        exact k1
  obtain ⟨σ2, k1, k2⟩ := lp 8 0 σ (by omega) h (zScr_rf _ _)
  refine ⟨σ2, ?_, k2⟩
  rw [e_X2_kindsAsTold _ _ hq]
  exact k1
theorem s_figures (d : Nat) (h : zSysK K T σ) {i : Nat} (hi : i < 8) {n : Nat} (hn : σ (20 + 2 * i) 4 = n) (hn2 : n ≤ 100) (h3 : 0 ≤ σ (20 + 2 * i) 3 ∧ σ (20 + 2 * i) 3 ≤ 2) {w : Nat → Int} (hw : σ (20 + 2 * i + 1) = w) (hwr : ∀ j, j < 100 → R32 (w j)) {l : Int} (hl : mleast (σ (20 + 2 * i) 3) = l) {r : Nat} (hr : r < K.1) : ∃ σ1, zc (d + 5) mX2_figuresAsTold [zR (some 0), zR (some (20 + 2 * i)), zI r] σ = some (some (zI (mset (fun k => mtold (mKf K r (K.2.2.1 r) k) w l r n 0) 10)), σ1) ∧ zScr zSc σ σ1 := by
  have hO := h.2.2.1
  have hp := hO.1
  have hq := zSh_of i hi
  obtain ⟨g, hg⟩ : ∃ g : Nat → Int, g = fun k : Nat => mtold (mKf K r (K.2.2.1 r) (k : Int)) w l r n 0 := ⟨_, rfl⟩
  rw [← hg]
  have hgk : ∀ k : Nat, g k = mtold (mKf K r (K.2.2.1 r) k) w l r n 0 := fun k => by rw [hg]
  have lp : ∀ (m k : Nat) (τ : zS), k + m = 10 → zSysK K T τ → zScr zSc σ τ → ∃ τ', zq (d + 5) mX2_figuresAsTold 5 [some (zR (some 0)), some (zR (some (20 + 2 * i))), some (zI r), some (zI (mset g k)), some (zI k)] [] τ = some (some (zI (mset g 10)), τ') ∧ zScr zSc τ τ' := by
    intro m
    induction m with
    | zero =>
      intro k τ hk hS hs
      refine ⟨τ, ?_, zScr_rf _ _⟩
      rw [b_X2_figuresAsTold_5 _ _ _ _ hq, show k = 10 from by omega]
      rfl
    | succ m ih =>
      intro k τ hk hS hs
      have f1 : τ (20 + 2 * i) = σ (20 + 2 * i) := hs.1 _ (zSc_sh i hi).1 (by omega)
      have f2 : τ (20 + 2 * i + 1) = w := by rw [hs.1 _ (zSc_sh i hi).2 (by omega)]; exact hw
      have e3 : τ 2 r = K.2.2.1 r := hS.1.2.2.1 r (by omega)
      obtain ⟨τ1, g1, g2⟩ := s_would d hS hi (n := n) (by rw [f1]; exact hn) hn2 (by rw [f1]; exact h3) f2 hwr (by rw [f1]; exact hl) hr (l := l) (k := K.2.2.1 r) (f := (k : Int)) (hO.2.2.1 r (by omega)) (by omega)
      obtain ⟨τ2, k1, k2⟩ := ih (k + 1) τ1 (by omega) (zSys_scr hS g2) (zScr_tr hs g2)
      refine ⟨τ2, ?_, zScr_tr g2 k2⟩
      rw [b_X2_figuresAsTold_5 _ _ _ _ hq]
      rw [← hgk k] at g1
      rcases (hgk k).symm ▸ mtold_01 (mKf K r (K.2.2.1 r) k) w l r n 0 with z | z
      · rw [z] at g1
        rw [mset_t z] at k1
        simp (disch := omega) only [nrm_id, zix, ↓reduceIte, if_true, if_false, true_and, and_true, false_and, and_false, not_true_eq_false, not_false_eq_true, Int.reduceAdd, Int.reduceSub, Int.reduceMul, ↓if_pos, ↓if_neg, Option.bind_some, Option.toList_some, Option.toList_none, List.append_nil, List.cons_append, List.nil_append, znat, znat1, zpm1, zcm1, zof0, zof1, zof2, zof3, zofa0, zofa1, e3, g1, b_X2_figuresAsTold_29 _ _ _ _ _ hq, b_X2_figuresAsTold_39 _ _ _ _ hq]
        exact k1
      · rw [z] at g1
        rw [mset_f z] at k1
        simp (disch := omega) only [nrm_id, zix, ↓reduceIte, if_true, if_false, true_and, and_true, false_and, and_false, not_true_eq_false, not_false_eq_true, Int.reduceAdd, Int.reduceSub, Int.reduceMul, ↓if_pos, ↓if_neg, Option.bind_some, Option.toList_some, Option.toList_none, List.append_nil, List.cons_append, List.nil_append, znat, znat1, zpm1, zcm1, zof0, zof1, zof2, zof3, zofa0, zofa1, e3, g1, b_X2_figuresAsTold_29 _ _ _ _ _ hq, b_X2_figuresAsTold_39 _ _ _ _ hq]
        exact k1
  obtain ⟨σ2, k1, k2⟩ := lp 10 0 σ (by omega) h (zScr_rf _ _)
  refine ⟨σ2, ?_, k2⟩
  rw [e_X2_figuresAsTold _ _ hq]
  exact k1
end SYS18
