/-! the law's loop: what one step does -/
abbrev zLL (i : Int) : zL := [some (zR (some 52)), some (zR (some 0)), some (zR (some 36)), some (zR (some 51)), some (zI i), none, none, none]
theorem zc_rv {d : Nat} {k : zM} {vs : List zV} {σ σ' : zS} {rv : Option zV} (h : zc d k vs σ = some (rv, σ')) : ∃ (i : Instr) (len : Nat) (S : List zV), zkind i len = (1, 0) ∧ zret k.2.2.2.1 i S = some rv := by
  unfold zc at h
  rw [Option.bind_eq_some_iff] at h
  obtain ⟨q, hq, hr⟩ := h
  obtain ⟨f, hf⟩ := zD_some.mp hq
  obtain ⟨rv2, hrv, he⟩ := Option.map_eq_some_iff.mp hr
  cases he
  obtain ⟨qo, qr⟩ := q
  dsimp only at hrv
  subst hrv
  obtain ⟨i, len, -, hk, hret⟩ := zrun_ret _ _ _ _ _ _ _ _ _ _ _ hf
  exact ⟨i, len, _, hk, hret⟩
theorem zc_I {d : Nat} {k : zM} {vs : List zV} {σ σ' : zS} {v : zV} (hk : k.2.2.2.1 = some .int ∨ k.2.2.2.1 = some .boolean) (h : zc d k vs σ = some (some v, σ')) : ∃ a, v = zI a := by
  obtain ⟨i, len, S, h1, h2⟩ := zc_rv h
  obtain ⟨-, hc⟩ := zret_inv h1 h2
  rcases hc with ⟨-, a, -, e, -⟩ | ⟨-, a, -, -, e⟩ | ⟨-, a, C, -, -, e⟩ | ⟨-, -, e, -⟩
  · cases e; exact ⟨a, rfl⟩
  · rcases hk with h | h <;> rw [h] at e <;> cases e
  · rcases hk with h | h <;> rw [h] at e <;> cases e
  · cases e
theorem zc_J {d : Nat} {k : zM} {vs : List zV} {σ σ' : zS} {v : zV} (hk : k.2.2.2.1 = some .long) (h : zc d k vs σ = some (some v, σ')) : ∃ a, v = zJ a := by
  obtain ⟨i, len, S, h1, h2⟩ := zc_rv h
  obtain ⟨-, hc⟩ := zret_inv h1 h2
  rcases hc with ⟨-, a, -, -, e⟩ | ⟨-, a, -, e, -⟩ | ⟨-, a, C, -, -, e⟩ | ⟨-, -, e, -⟩
  · rcases e with e | ⟨e, -⟩ <;> rw [hk] at e <;> cases e
  · cases e; exact ⟨a, rfl⟩
  · rw [hk] at e; cases e
  · cases e
def zStepOk (i : Int) (xs : Nat → Int) (σ : zS) (q : zQ) : Prop := (∃ σ', q = (none, 1553, zLL i, [], σ') ∧ zSys σ') ∨ q = (none, 1377, zLL i, [zR (some 51), zI (xs (nrm (i + 2)).toNat), zI (xs (nrm (i + 1)).toNat), zR (some 0)], σ) ∨ q = (none, 1535, zLL i, [zI (xs (nrm (i + 1)).toNat), zR (some 0)], σ)
theorem zJeq (a : Int) : nrm (if nrL a < nrL a then -1 else if nrL a = nrL a then 0 else 1) = 0 := by rw [if_neg (Int.lt_irrefl _), if_pos rfl]; rfl
theorem zif_ex {c : Prop} {i : Decidable c} {A B : Option zQ} {P : zQ → Prop} (h1 : ∃ q, A = some q ∧ P q) (h2 : ∃ q, B = some q ∧ P q) : ∃ q, (@ite _ c i A B) = some q ∧ P q := by
  by_cases h : c
  · rw [if_pos h]; exact h1
  · rw [if_neg h]; exact h2
section LSTEP
variable {σ : zS} {i : Int} {Lx : Nat} {xs : Nat → Int}
theorem lj_coach (h : zSys σ) (hz : ∀ k : Int, 0 ≤ k → k ≤ 5 → zix (i + k) Lx) (hx : ∀ n, R32 (xs n)) (d : Nat) : ∃ q, ((if zix (i + 1) Lx then (zc (d + 20) mX2_coach [zR (some 0), zI (xs (nrm (i + 1)).toNat)] σ).bind fun r => zw (d + 20 + 1) Lx xs 230 (zLL i) (r.1.toList ++ []) r.2 else none)) = some q ∧ zStepOk i xs σ q := by
  obtain ⟨K, T, h⟩ := h
  have hp : zP mX2_coach mX3_coach [zI (xs (nrm (i + 1)).toNat)] σ := p_coach h (hx _)
  obtain ⟨σ1, σ2, v, h1, h2, h3⟩ := hp d
  obtain ⟨a, rfl⟩ := zc_I (by first | exact Or.inl rfl | exact Or.inr rfl) h1
  rw [if_pos (hz 1 (by decide) (by decide)), h1]
  show ∃ q, zw (d + 20 + 1) Lx xs 230 (zLL i) [zI a] σ1 = some q ∧ _
  rw [b_L_law_230, if_pos (hz 1 (by decide) (by decide)), h2]
  show ∃ q, zw (d + 20 + 1) Lx xs 240 (zLL i) [zI a, zI a] σ2 = some q ∧ _
  rw [b_L_law_240, if_pos rfl]
  exact ⟨_, rfl, Or.inl ⟨σ2, rfl, h3⟩⟩
theorem lj_seat (h : zSys σ) (hz : ∀ k : Int, 0 ≤ k → k ≤ 5 → zix (i + k) Lx) (hx : ∀ n, R32 (xs n)) (d : Nat) : ∃ q, ((if zix (i + 1) Lx then (if zix (i + 2) Lx then (zc (d + 20) mX2_seat [zR (some 0), zI (xs (nrm (i + 1)).toNat), zI (xs (nrm (i + 2)).toNat)] σ).bind fun r => zw (d + 20 + 1) Lx xs 261 (zLL i) (r.1.toList ++ []) r.2 else none) else none)) = some q ∧ zStepOk i xs σ q := by
  obtain ⟨K, T, h⟩ := h
  have hp : zP mX2_seat mX3_seat [zI (xs (nrm (i + 1)).toNat), zI (xs (nrm (i + 2)).toNat)] σ := p_seat h (hx _) (hx _)
  obtain ⟨σ1, σ2, v, h1, h2, h3⟩ := hp d
  obtain ⟨a, rfl⟩ := zc_I (by first | exact Or.inl rfl | exact Or.inr rfl) h1
  rw [if_pos (hz 1 (by decide) (by decide)), if_pos (hz 2 (by decide) (by decide)), h1]
  show ∃ q, zw (d + 20 + 1) Lx xs 261 (zLL i) [zI a] σ1 = some q ∧ _
  rw [b_L_law_261, if_pos (hz 1 (by decide) (by decide)), if_pos (hz 2 (by decide) (by decide)), h2]
  show ∃ q, zw (d + 20 + 1) Lx xs 277 (zLL i) [zI a, zI a] σ2 = some q ∧ _
  rw [b_L_law_277, if_pos rfl]
  exact ⟨_, rfl, Or.inl ⟨σ2, rfl, h3⟩⟩
theorem lj_comes (h : zSys σ) (hz : ∀ k : Int, 0 ≤ k → k ≤ 5 → zix (i + k) Lx) (hx : ∀ n, R32 (xs n)) (d : Nat) : ∃ q, ((if zix (i + 1) Lx then (zc (d + 20) mX2_comes [zR (some 0), zI (xs (nrm (i + 1)).toNat)] σ).bind fun r => zw (d + 20 + 1) Lx xs 292 (zLL i) (r.1.toList ++ []) r.2 else none)) = some q ∧ zStepOk i xs σ q := by
  obtain ⟨K, T, h⟩ := h
  have hp : zP mX2_comes mX3_comes [zI (xs (nrm (i + 1)).toNat)] σ := p_comes h (hx _)
  obtain ⟨σ1, σ2, v, h1, h2, h3⟩ := hp d
  obtain ⟨a, rfl⟩ := zc_I (by first | exact Or.inl rfl | exact Or.inr rfl) h1
  rw [if_pos (hz 1 (by decide) (by decide)), h1]
  show ∃ q, zw (d + 20 + 1) Lx xs 292 (zLL i) [zI a] σ1 = some q ∧ _
  rw [b_L_law_292, if_pos (hz 1 (by decide) (by decide)), h2]
  show ∃ q, zw (d + 20 + 1) Lx xs 302 (zLL i) [zI a, zI a] σ2 = some q ∧ _
  rw [b_L_law_302, if_pos rfl]
  exact ⟨_, rfl, Or.inl ⟨σ2, rfl, h3⟩⟩
theorem lj_tips (h : zSys σ) (hz : ∀ k : Int, 0 ≤ k → k ≤ 5 → zix (i + k) Lx) (hx : ∀ n, R32 (xs n)) (d : Nat) : ∃ q, ((if zix (i + 1) Lx then (if zix (i + 2) Lx then (zc (d + 20) mX2_tips [zR (some 0), zI (xs (nrm (i + 1)).toNat), zI (xs (nrm (i + 2)).toNat)] σ).bind fun r => zw (d + 20 + 1) Lx xs 323 (zLL i) (r.1.toList ++ []) r.2 else none) else none)) = some q ∧ zStepOk i xs σ q := by
  obtain ⟨K, T, h⟩ := h
  have hp : zP mX2_tips mX3_tips [zI (xs (nrm (i + 1)).toNat), zI (xs (nrm (i + 2)).toNat)] σ := p_tips h (hx _) (hx _)
  obtain ⟨σ1, σ2, v, h1, h2, h3⟩ := hp d
  obtain ⟨a, rfl⟩ := zc_I (by first | exact Or.inl rfl | exact Or.inr rfl) h1
  rw [if_pos (hz 1 (by decide) (by decide)), if_pos (hz 2 (by decide) (by decide)), h1]
  show ∃ q, zw (d + 20 + 1) Lx xs 323 (zLL i) [zI a] σ1 = some q ∧ _
  rw [b_L_law_323, if_pos (hz 1 (by decide) (by decide)), if_pos (hz 2 (by decide) (by decide)), h2]
  show ∃ q, zw (d + 20 + 1) Lx xs 339 (zLL i) [zI a, zI a] σ2 = some q ∧ _
  rw [b_L_law_339, if_pos rfl]
  exact ⟨_, rfl, Or.inl ⟨σ2, rfl, h3⟩⟩
theorem lj_blocks (h : zSys σ) (hz : ∀ k : Int, 0 ≤ k → k ≤ 5 → zix (i + k) Lx) (hx : ∀ n, R32 (xs n)) (d : Nat) : ∃ q, ((if zix (i + 1) Lx then (zc (d + 20) mX2_blocks [zR (some 0), zI (xs (nrm (i + 1)).toNat)] σ).bind fun r => zw (d + 20 + 1) Lx xs 354 (zLL i) (r.1.toList ++ []) r.2 else none)) = some q ∧ zStepOk i xs σ q := by
  obtain ⟨K, T, h⟩ := h
  have hp : zP mX2_blocks mX3_blocks [zI (xs (nrm (i + 1)).toNat)] σ := p_blocks h (hx _)
  obtain ⟨σ1, σ2, v, h1, h2, h3⟩ := hp d
  obtain ⟨a, rfl⟩ := zc_I (by first | exact Or.inl rfl | exact Or.inr rfl) h1
  rw [if_pos (hz 1 (by decide) (by decide)), h1]
  show ∃ q, zw (d + 20 + 1) Lx xs 354 (zLL i) [zI a] σ1 = some q ∧ _
  rw [b_L_law_354, if_pos (hz 1 (by decide) (by decide)), h2]
  show ∃ q, zw (d + 20 + 1) Lx xs 364 (zLL i) [zI a, zI a] σ2 = some q ∧ _
  rw [b_L_law_364, if_pos rfl]
  exact ⟨_, rfl, Or.inl ⟨σ2, rfl, h3⟩⟩
theorem lj_hour (h : zSys σ) (hz : ∀ k : Int, 0 ≤ k → k ≤ 5 → zix (i + k) Lx) (hx : ∀ n, R32 (xs n)) (d : Nat) : ∃ q, ((if zix (i + 1) Lx then (zc (d + 20) mX2_hour [zR (some 0), zI (xs (nrm (i + 1)).toNat)] σ).bind fun r => zw (d + 20 + 1) Lx xs 379 (zLL i) (r.1.toList ++ []) r.2 else none)) = some q ∧ zStepOk i xs σ q := by
  obtain ⟨K, T, h⟩ := h
  have hp : zP mX2_hour mX3_hour [zI (xs (nrm (i + 1)).toNat)] σ := p_hour h (hx _)
  obtain ⟨σ1, σ2, v, h1, h2, h3⟩ := hp d
  obtain ⟨a, rfl⟩ := zc_I (by first | exact Or.inl rfl | exact Or.inr rfl) h1
  rw [if_pos (hz 1 (by decide) (by decide)), h1]
  show ∃ q, zw (d + 20 + 1) Lx xs 379 (zLL i) [zI a] σ1 = some q ∧ _
  rw [b_L_law_379, if_pos (hz 1 (by decide) (by decide)), h2]
  show ∃ q, zw (d + 20 + 1) Lx xs 389 (zLL i) [zI a, zI a] σ2 = some q ∧ _
  rw [b_L_law_389, if_pos rfl]
  exact ⟨_, rfl, Or.inl ⟨σ2, rfl, h3⟩⟩
theorem lj_change (h : zSys σ) (hz : ∀ k : Int, 0 ≤ k → k ≤ 5 → zix (i + k) Lx) (hx : ∀ n, R32 (xs n)) (d : Nat) : ∃ q, ((if zix (i + 1) Lx then (if zix (i + 2) Lx then (zc (d + 20) mX2_change [zR (some 0), zI (xs (nrm (i + 1)).toNat), zI (xs (nrm (i + 2)).toNat)] σ).bind fun r => zw (d + 20 + 1) Lx xs 410 (zLL i) (r.1.toList ++ []) r.2 else none) else none)) = some q ∧ zStepOk i xs σ q := by
  obtain ⟨K, T, h⟩ := h
  have hp : zP mX2_change mX3_change [zI (xs (nrm (i + 1)).toNat), zI (xs (nrm (i + 2)).toNat)] σ := p_change h (hx _) (hx _)
  obtain ⟨σ1, σ2, v, h1, h2, h3⟩ := hp d
  obtain ⟨a, rfl⟩ := zc_I (by first | exact Or.inl rfl | exact Or.inr rfl) h1
  rw [if_pos (hz 1 (by decide) (by decide)), if_pos (hz 2 (by decide) (by decide)), h1]
  show ∃ q, zw (d + 20 + 1) Lx xs 410 (zLL i) [zI a] σ1 = some q ∧ _
  rw [b_L_law_410, if_pos (hz 1 (by decide) (by decide)), if_pos (hz 2 (by decide) (by decide)), h2]
  show ∃ q, zw (d + 20 + 1) Lx xs 426 (zLL i) [zI a, zI a] σ2 = some q ∧ _
  rw [b_L_law_426, if_pos rfl]
  exact ⟨_, rfl, Or.inl ⟨σ2, rfl, h3⟩⟩
theorem lj_rounds (h : zSys σ) (hz : ∀ k : Int, 0 ≤ k → k ≤ 5 → zix (i + k) Lx) (hx : ∀ n, R32 (xs n)) (d : Nat) : ∃ q, ((if zix (i + 1) Lx then (zc (d + 20) mX2_rounds [zR (some 0), zI (xs (nrm (i + 1)).toNat)] σ).bind fun r => zw (d + 20 + 1) Lx xs 441 (zLL i) (r.1.toList ++ []) r.2 else none)) = some q ∧ zStepOk i xs σ q := by
  obtain ⟨K, T, h⟩ := h
  have hp : zP mX2_rounds mX3_rounds [zI (xs (nrm (i + 1)).toNat)] σ := p_rounds h (hx _)
  obtain ⟨σ1, σ2, v, h1, h2, h3⟩ := hp d
  obtain ⟨a, rfl⟩ := zc_I (by first | exact Or.inl rfl | exact Or.inr rfl) h1
  rw [if_pos (hz 1 (by decide) (by decide)), h1]
  show ∃ q, zw (d + 20 + 1) Lx xs 441 (zLL i) [zI a] σ1 = some q ∧ _
  rw [b_L_law_441, if_pos (hz 1 (by decide) (by decide)), h2]
  show ∃ q, zw (d + 20 + 1) Lx xs 451 (zLL i) [zI a, zI a] σ2 = some q ∧ _
  rw [b_L_law_451, if_pos rfl]
  exact ⟨_, rfl, Or.inl ⟨σ2, rfl, h3⟩⟩
theorem lj_behind (h : zSys σ) (hz : ∀ k : Int, 0 ≤ k → k ≤ 5 → zix (i + k) Lx) (hx : ∀ n, R32 (xs n)) (d : Nat) : ∃ q, ((if zix (i + 1) Lx then (if zix (i + 2) Lx then (if zix (i + 3) Lx then (zc (d + 20) mX2_behind [zR (some 0), zI (xs (nrm (i + 1)).toNat), zI (xs (nrm (i + 2)).toNat), zI (xs (nrm (i + 3)).toNat)] σ).bind fun r => zw (d + 20 + 1) Lx xs 478 (zLL i) (r.1.toList ++ []) r.2 else none) else none) else none)) = some q ∧ zStepOk i xs σ q := by
  obtain ⟨K, T, h⟩ := h
  have hp : zP mX2_behind mX3_behind [zI (xs (nrm (i + 1)).toNat), zI (xs (nrm (i + 2)).toNat), zI (xs (nrm (i + 3)).toNat)] σ := p_behind h (hx _) (hx _) (hx _)
  obtain ⟨σ1, σ2, v, h1, h2, h3⟩ := hp d
  obtain ⟨a, rfl⟩ := zc_I (by first | exact Or.inl rfl | exact Or.inr rfl) h1
  rw [if_pos (hz 1 (by decide) (by decide)), if_pos (hz 2 (by decide) (by decide)), if_pos (hz 3 (by decide) (by decide)), h1]
  show ∃ q, zw (d + 20 + 1) Lx xs 478 (zLL i) [zI a] σ1 = some q ∧ _
  rw [b_L_law_478, if_pos (hz 1 (by decide) (by decide)), if_pos (hz 2 (by decide) (by decide)), if_pos (hz 3 (by decide) (by decide)), h2]
  show ∃ q, zw (d + 20 + 1) Lx xs 500 (zLL i) [zI a, zI a] σ2 = some q ∧ _
  rw [b_L_law_500, if_pos rfl]
  exact ⟨_, rfl, Or.inl ⟨σ2, rfl, h3⟩⟩
theorem lj_still (h : zSys σ) (hz : ∀ k : Int, 0 ≤ k → k ≤ 5 → zix (i + k) Lx) (hx : ∀ n, R32 (xs n)) (d : Nat) : ∃ q, ((zc (d + 20) mX2_still [zR (some 0)] σ).bind fun r => zw (d + 20 + 1) Lx xs 509 (zLL i) (r.1.toList ++ []) r.2) = some q ∧ zStepOk i xs σ q := by
  obtain ⟨K, T, h⟩ := h
  have hp : zP mX2_still mX3_still [] σ := p_still h
  obtain ⟨σ1, σ2, v, h1, h2, h3⟩ := hp d
  obtain ⟨a, rfl⟩ := zc_I (by first | exact Or.inl rfl | exact Or.inr rfl) h1
  rw [h1]
  show ∃ q, zw (d + 20 + 1) Lx xs 509 (zLL i) [zI a] σ1 = some q ∧ _
  rw [b_L_law_509, h2]
  show ∃ q, zw (d + 20 + 1) Lx xs 513 (zLL i) [zI a, zI a] σ2 = some q ∧ _
  rw [b_L_law_513, if_pos rfl]
  exact ⟨_, rfl, Or.inl ⟨σ2, rfl, h3⟩⟩
theorem lj_run (h : zSys σ) (hz : ∀ k : Int, 0 ≤ k → k ≤ 5 → zix (i + k) Lx) (hx : ∀ n, R32 (xs n)) (d : Nat) : ∃ q, ((if zix (i + 1) Lx then (if zix (i + 2) Lx then (zc (d + 20) mX2_run [zR (some 0), zI (xs (nrm (i + 1)).toNat), zI (xs (nrm (i + 2)).toNat)] σ).bind fun r => zw (d + 20 + 1) Lx xs 534 (zLL i) (r.1.toList ++ []) r.2 else none) else none)) = some q ∧ zStepOk i xs σ q := by
  obtain ⟨K, T, h⟩ := h
  have hp : zP mX2_run mX3_run [zI (xs (nrm (i + 1)).toNat), zI (xs (nrm (i + 2)).toNat)] σ := p_run h (hx _) (hx _)
  obtain ⟨σ1, σ2, v, h1, h2, h3⟩ := hp d
  obtain ⟨a, rfl⟩ := zc_I (by first | exact Or.inl rfl | exact Or.inr rfl) h1
  rw [if_pos (hz 1 (by decide) (by decide)), if_pos (hz 2 (by decide) (by decide)), h1]
  show ∃ q, zw (d + 20 + 1) Lx xs 534 (zLL i) [zI a] σ1 = some q ∧ _
  rw [b_L_law_534, if_pos (hz 1 (by decide) (by decide)), if_pos (hz 2 (by decide) (by decide)), h2]
  show ∃ q, zw (d + 20 + 1) Lx xs 550 (zLL i) [zI a, zI a] σ2 = some q ∧ _
  rw [b_L_law_550, if_pos rfl]
  exact ⟨_, rfl, Or.inl ⟨σ2, rfl, h3⟩⟩
theorem lj_longest (h : zSys σ) (hz : ∀ k : Int, 0 ≤ k → k ≤ 5 → zix (i + k) Lx) (hx : ∀ n, R32 (xs n)) (d : Nat) : ∃ q, ((if zix (i + 1) Lx then (if zix (i + 2) Lx then (zc (d + 20) mX2_longest [zR (some 0), zI (xs (nrm (i + 1)).toNat), zI (xs (nrm (i + 2)).toNat)] σ).bind fun r => zw (d + 20 + 1) Lx xs 571 (zLL i) (r.1.toList ++ []) r.2 else none) else none)) = some q ∧ zStepOk i xs σ q := by
  obtain ⟨K, T, h⟩ := h
  have hp : zP mX2_longest mX3_longest [zI (xs (nrm (i + 1)).toNat), zI (xs (nrm (i + 2)).toNat)] σ := p_longest h (hx _) (hx _)
  obtain ⟨σ1, σ2, v, h1, h2, h3⟩ := hp d
  obtain ⟨a, rfl⟩ := zc_I (by first | exact Or.inl rfl | exact Or.inr rfl) h1
  rw [if_pos (hz 1 (by decide) (by decide)), if_pos (hz 2 (by decide) (by decide)), h1]
  show ∃ q, zw (d + 20 + 1) Lx xs 571 (zLL i) [zI a] σ1 = some q ∧ _
  rw [b_L_law_571, if_pos (hz 1 (by decide) (by decide)), if_pos (hz 2 (by decide) (by decide)), h2]
  show ∃ q, zw (d + 20 + 1) Lx xs 587 (zLL i) [zI a, zI a] σ2 = some q ∧ _
  rw [b_L_law_587, if_pos rfl]
  exact ⟨_, rfl, Or.inl ⟨σ2, rfl, h3⟩⟩
theorem lj_began (h : zSys σ) (hz : ∀ k : Int, 0 ≤ k → k ≤ 5 → zix (i + k) Lx) (hx : ∀ n, R32 (xs n)) (d : Nat) : ∃ q, ((if zix (i + 1) Lx then (zc (d + 20) mX2_began [zR (some 0), zI (xs (nrm (i + 1)).toNat)] σ).bind fun r => zw (d + 20 + 1) Lx xs 602 (zLL i) (r.1.toList ++ []) r.2 else none)) = some q ∧ zStepOk i xs σ q := by
  obtain ⟨K, T, h⟩ := h
  have hp : zP mX2_began mX3_began [zI (xs (nrm (i + 1)).toNat)] σ := p_began h (hx _)
  obtain ⟨σ1, σ2, v, h1, h2, h3⟩ := hp d
  obtain ⟨a, rfl⟩ := zc_I (by first | exact Or.inl rfl | exact Or.inr rfl) h1
  rw [if_pos (hz 1 (by decide) (by decide)), h1]
  show ∃ q, zw (d + 20 + 1) Lx xs 602 (zLL i) [zI a] σ1 = some q ∧ _
  rw [b_L_law_602, if_pos (hz 1 (by decide) (by decide)), h2]
  show ∃ q, zw (d + 20 + 1) Lx xs 612 (zLL i) [zI a, zI a] σ2 = some q ∧ _
  rw [b_L_law_612, if_pos rfl]
  exact ⟨_, rfl, Or.inl ⟨σ2, rfl, h3⟩⟩
theorem lj_lost (h : zSys σ) (hz : ∀ k : Int, 0 ≤ k → k ≤ 5 → zix (i + k) Lx) (hx : ∀ n, R32 (xs n)) (d : Nat) : ∃ q, ((if zix (i + 1) Lx then (zc (d + 20) mX2_lost [zR (some 0), zI (xs (nrm (i + 1)).toNat)] σ).bind fun r => zw (d + 20 + 1) Lx xs 627 (zLL i) (r.1.toList ++ []) r.2 else none)) = some q ∧ zStepOk i xs σ q := by
  obtain ⟨K, T, h⟩ := h
  have hp : zP mX2_lost mX3_lost [zI (xs (nrm (i + 1)).toNat)] σ := p_lost h (hx _)
  obtain ⟨σ1, σ2, v, h1, h2, h3⟩ := hp d
  obtain ⟨a, rfl⟩ := zc_I (by first | exact Or.inl rfl | exact Or.inr rfl) h1
  rw [if_pos (hz 1 (by decide) (by decide)), h1]
  show ∃ q, zw (d + 20 + 1) Lx xs 627 (zLL i) [zI a] σ1 = some q ∧ _
  rw [b_L_law_627, if_pos (hz 1 (by decide) (by decide)), h2]
  show ∃ q, zw (d + 20 + 1) Lx xs 637 (zLL i) [zI a, zI a] σ2 = some q ∧ _
  rw [b_L_law_637, if_pos rfl]
  exact ⟨_, rfl, Or.inl ⟨σ2, rfl, h3⟩⟩
theorem lj_best (h : zSys σ) (hz : ∀ k : Int, 0 ≤ k → k ≤ 5 → zix (i + k) Lx) (hx : ∀ n, R32 (xs n)) (d : Nat) : ∃ q, ((if zix (i + 1) Lx then (zc (d + 20) mX2_best [zR (some 0), zI (xs (nrm (i + 1)).toNat)] σ).bind fun r => zw (d + 20 + 1) Lx xs 652 (zLL i) (r.1.toList ++ []) r.2 else none)) = some q ∧ zStepOk i xs σ q := by
  obtain ⟨K, T, h⟩ := h
  have hp : zP mX2_best mX3_best [zI (xs (nrm (i + 1)).toNat)] σ := p_best h (hx _)
  obtain ⟨σ1, σ2, v, h1, h2, h3⟩ := hp d
  obtain ⟨a, rfl⟩ := zc_I (by first | exact Or.inl rfl | exact Or.inr rfl) h1
  rw [if_pos (hz 1 (by decide) (by decide)), h1]
  show ∃ q, zw (d + 20 + 1) Lx xs 652 (zLL i) [zI a] σ1 = some q ∧ _
  rw [b_L_law_652, if_pos (hz 1 (by decide) (by decide)), h2]
  show ∃ q, zw (d + 20 + 1) Lx xs 662 (zLL i) [zI a, zI a] σ2 = some q ∧ _
  rw [b_L_law_662, if_pos rfl]
  exact ⟨_, rfl, Or.inl ⟨σ2, rfl, h3⟩⟩
theorem lj_laws (h : zSys σ) (hz : ∀ k : Int, 0 ≤ k → k ≤ 5 → zix (i + k) Lx) (hx : ∀ n, R32 (xs n)) (d : Nat) : ∃ q, ((if zix (i + 1) Lx then (zc (d + 20) mX2_laws [zR (some 0), zI (xs (nrm (i + 1)).toNat)] σ).bind fun r => zw (d + 20 + 1) Lx xs 677 (zLL i) (r.1.toList ++ []) r.2 else none)) = some q ∧ zStepOk i xs σ q := by
  obtain ⟨K, T, h⟩ := h
  have hp : zP mX2_laws mX3_laws [zI (xs (nrm (i + 1)).toNat)] σ := p_laws h (hx _)
  obtain ⟨σ1, σ2, v, h1, h2, h3⟩ := hp d
  obtain ⟨a, rfl⟩ := zc_I (by first | exact Or.inl rfl | exact Or.inr rfl) h1
  rw [if_pos (hz 1 (by decide) (by decide)), h1]
  show ∃ q, zw (d + 20 + 1) Lx xs 677 (zLL i) [zI a] σ1 = some q ∧ _
  rw [b_L_law_677, if_pos (hz 1 (by decide) (by decide)), h2]
  show ∃ q, zw (d + 20 + 1) Lx xs 687 (zLL i) [zI a, zI a] σ2 = some q ∧ _
  rw [b_L_law_687, if_pos rfl]
  exact ⟨_, rfl, Or.inl ⟨σ2, rfl, h3⟩⟩
theorem lj_pays (h : zSys σ) (hz : ∀ k : Int, 0 ≤ k → k ≤ 5 → zix (i + k) Lx) (hx : ∀ n, R32 (xs n)) (d : Nat) : ∃ q, ((if zix (i + 1) Lx then (zc (d + 20) mX2_pays [zR (some 0), zI (xs (nrm (i + 1)).toNat)] σ).bind fun r => zw (d + 20 + 1) Lx xs 702 (zLL i) (r.1.toList ++ []) r.2 else none)) = some q ∧ zStepOk i xs σ q := by
  obtain ⟨K, T, h⟩ := h
  have hp : zP mX2_pays mX3_pays [zI (xs (nrm (i + 1)).toNat)] σ := p_pays h (hx _)
  obtain ⟨σ1, σ2, v, h1, h2, h3⟩ := hp d
  obtain ⟨a, rfl⟩ := zc_I (by first | exact Or.inl rfl | exact Or.inr rfl) h1
  rw [if_pos (hz 1 (by decide) (by decide)), h1]
  show ∃ q, zw (d + 20 + 1) Lx xs 702 (zLL i) [zI a] σ1 = some q ∧ _
  rw [b_L_law_702, if_pos (hz 1 (by decide) (by decide)), h2]
  show ∃ q, zw (d + 20 + 1) Lx xs 712 (zLL i) [zI a, zI a] σ2 = some q ∧ _
  rw [b_L_law_712, if_pos rfl]
  exact ⟨_, rfl, Or.inl ⟨σ2, rfl, h3⟩⟩
theorem lj_price (h : zSys σ) (hz : ∀ k : Int, 0 ≤ k → k ≤ 5 → zix (i + k) Lx) (hx : ∀ n, R32 (xs n)) (d : Nat) : ∃ q, ((if zix (i + 1) Lx then (zc (d + 20) mX2_price [zR (some 0), zI (xs (nrm (i + 1)).toNat)] σ).bind fun r => zw (d + 20 + 1) Lx xs 727 (zLL i) (r.1.toList ++ []) r.2 else none)) = some q ∧ zStepOk i xs σ q := by
  obtain ⟨K, T, h⟩ := h
  have hp : zP mX2_price mX3_price [zI (xs (nrm (i + 1)).toNat)] σ := p_price h (hx _)
  obtain ⟨σ1, σ2, v, h1, h2, h3⟩ := hp d
  obtain ⟨a, rfl⟩ := zc_I (by first | exact Or.inl rfl | exact Or.inr rfl) h1
  rw [if_pos (hz 1 (by decide) (by decide)), h1]
  show ∃ q, zw (d + 20 + 1) Lx xs 727 (zLL i) [zI a] σ1 = some q ∧ _
  rw [b_L_law_727, if_pos (hz 1 (by decide) (by decide)), h2]
  show ∃ q, zw (d + 20 + 1) Lx xs 737 (zLL i) [zI a, zI a] σ2 = some q ∧ _
  rw [b_L_law_737, if_pos rfl]
  exact ⟨_, rfl, Or.inl ⟨σ2, rfl, h3⟩⟩
theorem lj_order (h : zSys σ) (hz : ∀ k : Int, 0 ≤ k → k ≤ 5 → zix (i + k) Lx) (hx : ∀ n, R32 (xs n)) (d : Nat) : ∃ q, ((if zix (i + 1) Lx then (if zix (i + 2) Lx then (zc (d + 20) mX2_order [zR (some 0), zI (xs (nrm (i + 1)).toNat), zI (xs (nrm (i + 2)).toNat)] σ).bind fun r => zw (d + 20 + 1) Lx xs 758 (zLL i) (r.1.toList ++ []) r.2 else none) else none)) = some q ∧ zStepOk i xs σ q := by
  obtain ⟨K, T, h⟩ := h
  have hp : zP mX2_order mX3_order [zI (xs (nrm (i + 1)).toNat), zI (xs (nrm (i + 2)).toNat)] σ := p_order h (hx _) (hx _)
  obtain ⟨σ1, σ2, v, h1, h2, h3⟩ := hp d
  obtain ⟨a, rfl⟩ := zc_I (by first | exact Or.inl rfl | exact Or.inr rfl) h1
  rw [if_pos (hz 1 (by decide) (by decide)), if_pos (hz 2 (by decide) (by decide)), h1]
  show ∃ q, zw (d + 20 + 1) Lx xs 758 (zLL i) [zI a] σ1 = some q ∧ _
  rw [b_L_law_758, if_pos (hz 1 (by decide) (by decide)), if_pos (hz 2 (by decide) (by decide)), h2]
  show ∃ q, zw (d + 20 + 1) Lx xs 774 (zLL i) [zI a, zI a] σ2 = some q ∧ _
  rw [b_L_law_774, if_pos rfl]
  exact ⟨_, rfl, Or.inl ⟨σ2, rfl, h3⟩⟩
theorem lj_swap (h : zSys σ) (hz : ∀ k : Int, 0 ≤ k → k ≤ 5 → zix (i + k) Lx) (hx : ∀ n, R32 (xs n)) (d : Nat) : ∃ q, ((if zix (i + 1) Lx then (zc (d + 20) mX2_swap [zR (some 0), zI (xs (nrm (i + 1)).toNat)] σ).bind fun r => zw (d + 20 + 1) Lx xs 789 (zLL i) (r.1.toList ++ []) r.2 else none)) = some q ∧ zStepOk i xs σ q := by
  obtain ⟨K, T, h⟩ := h
  have hp : zP mX2_swap mX3_swap [zI (xs (nrm (i + 1)).toNat)] σ := p_swap h (hx _)
  obtain ⟨σ1, σ2, v, h1, h2, h3⟩ := hp d
  obtain ⟨a, rfl⟩ := zc_I (by first | exact Or.inl rfl | exact Or.inr rfl) h1
  rw [if_pos (hz 1 (by decide) (by decide)), h1]
  show ∃ q, zw (d + 20 + 1) Lx xs 789 (zLL i) [zI a] σ1 = some q ∧ _
  rw [b_L_law_789, if_pos (hz 1 (by decide) (by decide)), h2]
  show ∃ q, zw (d + 20 + 1) Lx xs 799 (zLL i) [zI a, zI a] σ2 = some q ∧ _
  rw [b_L_law_799, if_pos rfl]
  exact ⟨_, rfl, Or.inl ⟨σ2, rfl, h3⟩⟩
theorem lj_stops (h : zSys σ) (hz : ∀ k : Int, 0 ≤ k → k ≤ 5 → zix (i + k) Lx) (hx : ∀ n, R32 (xs n)) (d : Nat) : ∃ q, ((if zix (i + 1) Lx then (zc (d + 20) mX2_stops [zR (some 0), zI (xs (nrm (i + 1)).toNat)] σ).bind fun r => zw (d + 20 + 1) Lx xs 814 (zLL i) (r.1.toList ++ []) r.2 else none)) = some q ∧ zStepOk i xs σ q := by
  obtain ⟨K, T, h⟩ := h
  have hp : zP mX2_stops mX3_stops [zI (xs (nrm (i + 1)).toNat)] σ := p_stops h (hx _)
  obtain ⟨σ1, σ2, v, h1, h2, h3⟩ := hp d
  obtain ⟨a, rfl⟩ := zc_I (by first | exact Or.inl rfl | exact Or.inr rfl) h1
  rw [if_pos (hz 1 (by decide) (by decide)), h1]
  show ∃ q, zw (d + 20 + 1) Lx xs 814 (zLL i) [zI a] σ1 = some q ∧ _
  rw [b_L_law_814, if_pos (hz 1 (by decide) (by decide)), h2]
  show ∃ q, zw (d + 20 + 1) Lx xs 824 (zLL i) [zI a, zI a] σ2 = some q ∧ _
  rw [b_L_law_824, if_pos rfl]
  exact ⟨_, rfl, Or.inl ⟨σ2, rfl, h3⟩⟩
theorem lj_ask (h : zSys σ) (hz : ∀ k : Int, 0 ≤ k → k ≤ 5 → zix (i + k) Lx) (hx : ∀ n, R32 (xs n)) (d : Nat) : ∃ q, ((if zix (i + 1) Lx then (zc (d + 20) mX2_ask [zR (some 0), zI (xs (nrm (i + 1)).toNat)] σ).bind fun r => zw (d + 20 + 1) Lx xs 839 (zLL i) (r.1.toList ++ []) r.2 else none)) = some q ∧ zStepOk i xs σ q := by
  obtain ⟨K, T, h⟩ := h
  have hp : zP mX2_ask mX3_ask [zI (xs (nrm (i + 1)).toNat)] σ := p_ask h (hx _)
  obtain ⟨σ1, σ2, v, h1, h2, h3⟩ := hp d
  obtain ⟨a, rfl⟩ := zc_I (by first | exact Or.inl rfl | exact Or.inr rfl) h1
  rw [if_pos (hz 1 (by decide) (by decide)), h1]
  show ∃ q, zw (d + 20 + 1) Lx xs 839 (zLL i) [zI a] σ1 = some q ∧ _
  rw [b_L_law_839, if_pos (hz 1 (by decide) (by decide)), h2]
  show ∃ q, zw (d + 20 + 1) Lx xs 849 (zLL i) [zI a, zI a] σ2 = some q ∧ _
  rw [b_L_law_849, if_pos rfl]
  exact ⟨_, rfl, Or.inl ⟨σ2, rfl, h3⟩⟩
theorem lj_bestHour (h : zSys σ) (hz : ∀ k : Int, 0 ≤ k → k ≤ 5 → zix (i + k) Lx) (hx : ∀ n, R32 (xs n)) (d : Nat) : ∃ q, ((if zix (i + 1) Lx then (zc (d + 20) mX2_bestHour [zR (some 0), zI (xs (nrm (i + 1)).toNat)] σ).bind fun r => zw (d + 20 + 1) Lx xs 864 (zLL i) (r.1.toList ++ []) r.2 else none)) = some q ∧ zStepOk i xs σ q := by
  obtain ⟨K, T, h⟩ := h
  have hp : zP mX2_bestHour mX3_bestHour [zI (xs (nrm (i + 1)).toNat)] σ := p_bestHour h (hx _)
  obtain ⟨σ1, σ2, v, h1, h2, h3⟩ := hp d
  obtain ⟨a, rfl⟩ := zc_I (by first | exact Or.inl rfl | exact Or.inr rfl) h1
  rw [if_pos (hz 1 (by decide) (by decide)), h1]
  show ∃ q, zw (d + 20 + 1) Lx xs 864 (zLL i) [zI a] σ1 = some q ∧ _
  rw [b_L_law_864, if_pos (hz 1 (by decide) (by decide)), h2]
  show ∃ q, zw (d + 20 + 1) Lx xs 874 (zLL i) [zI a, zI a] σ2 = some q ∧ _
  rw [b_L_law_874, if_pos rfl]
  exact ⟨_, rfl, Or.inl ⟨σ2, rfl, h3⟩⟩
theorem lj_two (h : zSys σ) (hz : ∀ k : Int, 0 ≤ k → k ≤ 5 → zix (i + k) Lx) (hx : ∀ n, R32 (xs n)) (d : Nat) : ∃ q, ((if zix (i + 1) Lx then (zc (d + 20) mX2_two [zR (some 0), zI (xs (nrm (i + 1)).toNat)] σ).bind fun r => zw (d + 20 + 1) Lx xs 889 (zLL i) (r.1.toList ++ []) r.2 else none)) = some q ∧ zStepOk i xs σ q := by
  obtain ⟨K, T, h⟩ := h
  have hp : zP mX2_two mX3_two [zI (xs (nrm (i + 1)).toNat)] σ := p_two h (hx _)
  obtain ⟨σ1, σ2, v, h1, h2, h3⟩ := hp d
  obtain ⟨a, rfl⟩ := zc_I (by first | exact Or.inl rfl | exact Or.inr rfl) h1
  rw [if_pos (hz 1 (by decide) (by decide)), h1]
  show ∃ q, zw (d + 20 + 1) Lx xs 889 (zLL i) [zI a] σ1 = some q ∧ _
  rw [b_L_law_889, if_pos (hz 1 (by decide) (by decide)), h2]
  show ∃ q, zw (d + 20 + 1) Lx xs 899 (zLL i) [zI a, zI a] σ2 = some q ∧ _
  rw [b_L_law_899, if_pos rfl]
  exact ⟨_, rfl, Or.inl ⟨σ2, rfl, h3⟩⟩
theorem lj_looksRound (h : zSys σ) (hz : ∀ k : Int, 0 ≤ k → k ≤ 5 → zix (i + k) Lx) (hx : ∀ n, R32 (xs n)) (d : Nat) : ∃ q, ((if zix (i + 1) Lx then (if zix (i + 2) Lx then (if zix (i + 3) Lx then (zc (d + 20) mX2_looksRound [zR (some 0), zI (xs (nrm (i + 1)).toNat), zI (xs (nrm (i + 2)).toNat), zI (xs (nrm (i + 3)).toNat)] σ).bind fun r => zw (d + 20 + 1) Lx xs 926 (zLL i) (r.1.toList ++ []) r.2 else none) else none) else none)) = some q ∧ zStepOk i xs σ q := by
  obtain ⟨K, T, h⟩ := h
  have hp : zP mX2_looksRound mX3_looksRound [zI (xs (nrm (i + 1)).toNat), zI (xs (nrm (i + 2)).toNat), zI (xs (nrm (i + 3)).toNat)] σ := p_looksRound h (hx _) (hx _) (hx _)
  obtain ⟨σ1, σ2, v, h1, h2, h3⟩ := hp d
  obtain ⟨a, rfl⟩ := zc_J rfl h1
  rw [if_pos (hz 1 (by decide) (by decide)), if_pos (hz 2 (by decide) (by decide)), if_pos (hz 3 (by decide) (by decide)), h1]
  show ∃ q, zw (d + 20 + 1) Lx xs 926 (zLL i) [zJ a] σ1 = some q ∧ _
  rw [b_L_law_926, if_pos (hz 1 (by decide) (by decide)), if_pos (hz 2 (by decide) (by decide)), if_pos (hz 3 (by decide) (by decide)), h2]
  show ∃ q, zw (d + 20 + 1) Lx xs 948 (zLL i) [zJ a, zJ a] σ2 = some q ∧ _
  rw [b_L_law_948, if_pos (zJeq a)]
  exact ⟨_, rfl, Or.inl ⟨σ2, rfl, h3⟩⟩
theorem lj_whatIs (h : zSys σ) (hz : ∀ k : Int, 0 ≤ k → k ≤ 5 → zix (i + k) Lx) (hx : ∀ n, R32 (xs n)) (d : Nat) : ∃ q, ((if zix (i + 1) Lx then (if zix (i + 2) Lx then (if zix (i + 3) Lx then (zc (d + 20) mX2_whatIs [zR (some 0), zI (xs (nrm (i + 1)).toNat), zI (xs (nrm (i + 2)).toNat), zI (xs (nrm (i + 3)).toNat)] σ).bind fun r => zw (d + 20 + 1) Lx xs 976 (zLL i) (r.1.toList ++ []) r.2 else none) else none) else none)) = some q ∧ zStepOk i xs σ q := by
  obtain ⟨K, T, h⟩ := h
  have hp : zP mX2_whatIs mX3_whatIs [zI (xs (nrm (i + 1)).toNat), zI (xs (nrm (i + 2)).toNat), zI (xs (nrm (i + 3)).toNat)] σ := p_whatIs h (hx _) (hx _) (hx _)
  obtain ⟨σ1, σ2, v, h1, h2, h3⟩ := hp d
  obtain ⟨a, rfl⟩ := zc_I (by first | exact Or.inl rfl | exact Or.inr rfl) h1
  rw [if_pos (hz 1 (by decide) (by decide)), if_pos (hz 2 (by decide) (by decide)), if_pos (hz 3 (by decide) (by decide)), h1]
  show ∃ q, zw (d + 20 + 1) Lx xs 976 (zLL i) [zI a] σ1 = some q ∧ _
  rw [b_L_law_976, if_pos (hz 1 (by decide) (by decide)), if_pos (hz 2 (by decide) (by decide)), if_pos (hz 3 (by decide) (by decide)), h2]
  show ∃ q, zw (d + 20 + 1) Lx xs 998 (zLL i) [zI a, zI a] σ2 = some q ∧ _
  rw [b_L_law_998, if_pos rfl]
  exact ⟨_, rfl, Or.inl ⟨σ2, rfl, h3⟩⟩
theorem lj_mean (h : zSys σ) (hz : ∀ k : Int, 0 ≤ k → k ≤ 5 → zix (i + k) Lx) (hx : ∀ n, R32 (xs n)) (d : Nat) : ∃ q, ((if zix (i + 1) Lx then (zc (d + 20) mX2_mean [zR (some 0), zI (xs (nrm (i + 1)).toNat)] σ).bind fun r => zw (d + 20 + 1) Lx xs 1013 (zLL i) (r.1.toList ++ []) r.2 else none)) = some q ∧ zStepOk i xs σ q := by
  obtain ⟨K, T, h⟩ := h
  have hp : zP mX2_mean mX3_mean [zI (xs (nrm (i + 1)).toNat)] σ := p_mean h (hx _)
  obtain ⟨σ1, σ2, v, h1, h2, h3⟩ := hp d
  obtain ⟨a, rfl⟩ := zc_J rfl h1
  rw [if_pos (hz 1 (by decide) (by decide)), h1]
  show ∃ q, zw (d + 20 + 1) Lx xs 1013 (zLL i) [zJ a] σ1 = some q ∧ _
  rw [b_L_law_1013, if_pos (hz 1 (by decide) (by decide)), h2]
  show ∃ q, zw (d + 20 + 1) Lx xs 1023 (zLL i) [zJ a, zJ a] σ2 = some q ∧ _
  rw [b_L_law_1023, if_pos (zJeq a)]
  exact ⟨_, rfl, Or.inl ⟨σ2, rfl, h3⟩⟩
theorem lj_tightest (h : zSys σ) (hz : ∀ k : Int, 0 ≤ k → k ≤ 5 → zix (i + k) Lx) (hx : ∀ n, R32 (xs n)) (d : Nat) : ∃ q, ((if zix (i + 1) Lx then (zc (d + 20) mX2_tightest [zR (some 0), zI (xs (nrm (i + 1)).toNat)] σ).bind fun r => zw (d + 20 + 1) Lx xs 1039 (zLL i) (r.1.toList ++ []) r.2 else none)) = some q ∧ zStepOk i xs σ q := by
  obtain ⟨K, T, h⟩ := h
  have hp : zP mX2_tightest mX3_tightest [zI (xs (nrm (i + 1)).toNat)] σ := p_tightest h (hx _)
  obtain ⟨σ1, σ2, v, h1, h2, h3⟩ := hp d
  obtain ⟨a, rfl⟩ := zc_I (by first | exact Or.inl rfl | exact Or.inr rfl) h1
  rw [if_pos (hz 1 (by decide) (by decide)), h1]
  show ∃ q, zw (d + 20 + 1) Lx xs 1039 (zLL i) [zI a] σ1 = some q ∧ _
  rw [b_L_law_1039, if_pos (hz 1 (by decide) (by decide)), h2]
  show ∃ q, zw (d + 20 + 1) Lx xs 1049 (zLL i) [zI a, zI a] σ2 = some q ∧ _
  rw [b_L_law_1049, if_pos rfl]
  exact ⟨_, rfl, Or.inl ⟨σ2, rfl, h3⟩⟩
theorem lj_forged (h : zSys σ) (hz : ∀ k : Int, 0 ≤ k → k ≤ 5 → zix (i + k) Lx) (hx : ∀ n, R32 (xs n)) (d : Nat) : ∃ q, ((if zix (i + 1) Lx then (zc (d + 20) mX2_forged [zR (some 0), zI (xs (nrm (i + 1)).toNat)] σ).bind fun r => zw (d + 20 + 1) Lx xs 1064 (zLL i) (r.1.toList ++ []) r.2 else none)) = some q ∧ zStepOk i xs σ q := by
  obtain ⟨K, T, h⟩ := h
  have hp : zP mX2_forged mX3_forged [zI (xs (nrm (i + 1)).toNat)] σ := p_forged h (hx _)
  obtain ⟨σ1, σ2, v, h1, h2, h3⟩ := hp d
  obtain ⟨a, rfl⟩ := zc_I (by first | exact Or.inl rfl | exact Or.inr rfl) h1
  rw [if_pos (hz 1 (by decide) (by decide)), h1]
  show ∃ q, zw (d + 20 + 1) Lx xs 1064 (zLL i) [zI a] σ1 = some q ∧ _
  rw [b_L_law_1064, if_pos (hz 1 (by decide) (by decide)), h2]
  show ∃ q, zw (d + 20 + 1) Lx xs 1074 (zLL i) [zI a, zI a] σ2 = some q ∧ _
  rw [b_L_law_1074, if_pos rfl]
  exact ⟨_, rfl, Or.inl ⟨σ2, rfl, h3⟩⟩
theorem lj_judge (h : zSys σ) (hz : ∀ k : Int, 0 ≤ k → k ≤ 5 → zix (i + k) Lx) (hx : ∀ n, R32 (xs n)) (d : Nat) : ∃ q, ((if zix (i + 1) Lx then (zc (d + 20) mX2_judge [zR (some 0), zI (xs (nrm (i + 1)).toNat)] σ).bind fun r => zw (d + 20 + 1) Lx xs 1089 (zLL i) (r.1.toList ++ []) r.2 else none)) = some q ∧ zStepOk i xs σ q := by
  obtain ⟨K, T, h⟩ := h
  have hp : zP mX2_judge mX3_judge [zI (xs (nrm (i + 1)).toNat)] σ := p_judge h (hx _)
  obtain ⟨σ1, σ2, v, h1, h2, h3⟩ := hp d
  obtain ⟨a, rfl⟩ := zc_I (by first | exact Or.inl rfl | exact Or.inr rfl) h1
  rw [if_pos (hz 1 (by decide) (by decide)), h1]
  show ∃ q, zw (d + 20 + 1) Lx xs 1089 (zLL i) [zI a] σ1 = some q ∧ _
  rw [b_L_law_1089, if_pos (hz 1 (by decide) (by decide)), h2]
  show ∃ q, zw (d + 20 + 1) Lx xs 1099 (zLL i) [zI a, zI a] σ2 = some q ∧ _
  rw [b_L_law_1099, if_pos rfl]
  exact ⟨_, rfl, Or.inl ⟨σ2, rfl, h3⟩⟩
theorem lj_trips (h : zSys σ) (hz : ∀ k : Int, 0 ≤ k → k ≤ 5 → zix (i + k) Lx) (hx : ∀ n, R32 (xs n)) (d : Nat) : ∃ q, ((if zix (i + 1) Lx then (if zix (i + 2) Lx then (if zix (i + 3) Lx then (zc (d + 20) mX2_trips [zR (some 0), zI (xs (nrm (i + 1)).toNat), zI (xs (nrm (i + 2)).toNat), zI (xs (nrm (i + 3)).toNat)] σ).bind fun r => zw (d + 20 + 1) Lx xs 1126 (zLL i) (r.1.toList ++ []) r.2 else none) else none) else none)) = some q ∧ zStepOk i xs σ q := by
  obtain ⟨K, T, h⟩ := h
  have hp : zP mX2_trips mX3_trips [zI (xs (nrm (i + 1)).toNat), zI (xs (nrm (i + 2)).toNat), zI (xs (nrm (i + 3)).toNat)] σ := p_trips h (hx _) (hx _) (hx _)
  obtain ⟨σ1, σ2, v, h1, h2, h3⟩ := hp d
  obtain ⟨a, rfl⟩ := zc_I (by first | exact Or.inl rfl | exact Or.inr rfl) h1
  rw [if_pos (hz 1 (by decide) (by decide)), if_pos (hz 2 (by decide) (by decide)), if_pos (hz 3 (by decide) (by decide)), h1]
  show ∃ q, zw (d + 20 + 1) Lx xs 1126 (zLL i) [zI a] σ1 = some q ∧ _
  rw [b_L_law_1126, if_pos (hz 1 (by decide) (by decide)), if_pos (hz 2 (by decide) (by decide)), if_pos (hz 3 (by decide) (by decide)), h2]
  show ∃ q, zw (d + 20 + 1) Lx xs 1148 (zLL i) [zI a, zI a] σ2 = some q ∧ _
  rw [b_L_law_1148, if_pos rfl]
  exact ⟨_, rfl, Or.inl ⟨σ2, rfl, h3⟩⟩
theorem lj_image (h : zSys σ) (hz : ∀ k : Int, 0 ≤ k → k ≤ 5 → zix (i + k) Lx) (hx : ∀ n, R32 (xs n)) (d : Nat) : ∃ q, ((zc (d + 20) mX2_image [zR (some 0)] σ).bind fun r => zw (d + 20 + 1) Lx xs 1157 (zLL i) (r.1.toList ++ []) r.2) = some q ∧ zStepOk i xs σ q := by
  obtain ⟨K, T, h⟩ := h
  have hp : zP mX2_image mX3_image [] σ := p_image h
  obtain ⟨σ1, σ2, v, h1, h2, h3⟩ := hp d
  obtain ⟨a, rfl⟩ := zc_I (by first | exact Or.inl rfl | exact Or.inr rfl) h1
  rw [h1]
  show ∃ q, zw (d + 20 + 1) Lx xs 1157 (zLL i) [zI a] σ1 = some q ∧ _
  rw [b_L_law_1157, h2]
  show ∃ q, zw (d + 20 + 1) Lx xs 1161 (zLL i) [zI a, zI a] σ2 = some q ∧ _
  rw [b_L_law_1161, if_pos rfl]
  exact ⟨_, rfl, Or.inl ⟨σ2, rfl, h3⟩⟩
theorem lj_restore (h : zSys σ) (hz : ∀ k : Int, 0 ≤ k → k ≤ 5 → zix (i + k) Lx) (hx : ∀ n, R32 (xs n)) (d : Nat) : ∃ q, ((zc (d + 20) mX2_restore [zR (some 0)] σ).bind fun r => zw (d + 20 + 1) Lx xs 1170 (zLL i) (r.1.toList ++ []) r.2) = some q ∧ zStepOk i xs σ q := by
  obtain ⟨K, T, h⟩ := h
  have hp : zP mX2_restore mX3_restore [] σ := p_restore h
  obtain ⟨σ1, σ2, v, h1, h2, h3⟩ := hp d
  obtain ⟨a, rfl⟩ := zc_I (by first | exact Or.inl rfl | exact Or.inr rfl) h1
  rw [h1]
  show ∃ q, zw (d + 20 + 1) Lx xs 1170 (zLL i) [zI a] σ1 = some q ∧ _
  rw [b_L_law_1170, h2]
  show ∃ q, zw (d + 20 + 1) Lx xs 1174 (zLL i) [zI a, zI a] σ2 = some q ∧ _
  rw [b_L_law_1174, if_pos rfl]
  exact ⟨_, rfl, Or.inl ⟨σ2, rfl, h3⟩⟩
theorem lj_count (h : zSys σ) (hz : ∀ k : Int, 0 ≤ k → k ≤ 5 → zix (i + k) Lx) (hx : ∀ n, R32 (xs n)) (d : Nat) : ∃ q, ((if zix (i + 1) Lx then (zc (d + 20) mX2_count [zR (some 0), zI (xs (nrm (i + 1)).toNat)] σ).bind fun r => zw (d + 20 + 1) Lx xs 1189 (zLL i) (r.1.toList ++ []) r.2 else none)) = some q ∧ zStepOk i xs σ q := by
  obtain ⟨K, T, h⟩ := h
  have hp : zP mX2_count mX3_count [zI (xs (nrm (i + 1)).toNat)] σ := p_count h (hx _)
  obtain ⟨σ1, σ2, v, h1, h2, h3⟩ := hp d
  obtain ⟨a, rfl⟩ := zc_I (by first | exact Or.inl rfl | exact Or.inr rfl) h1
  rw [if_pos (hz 1 (by decide) (by decide)), h1]
  show ∃ q, zw (d + 20 + 1) Lx xs 1189 (zLL i) [zI a] σ1 = some q ∧ _
  rw [b_L_law_1189, if_pos (hz 1 (by decide) (by decide)), h2]
  show ∃ q, zw (d + 20 + 1) Lx xs 1199 (zLL i) [zI a, zI a] σ2 = some q ∧ _
  rw [b_L_law_1199, if_pos rfl]
  exact ⟨_, rfl, Or.inl ⟨σ2, rfl, h3⟩⟩
theorem lj_keep (h : zSys σ) (hz : ∀ k : Int, 0 ≤ k → k ≤ 5 → zix (i + k) Lx) (hx : ∀ n, R32 (xs n)) (d : Nat) : ∃ q, ((if zix (i + 1) Lx then (if zix (i + 2) Lx then (if zix (i + 3) Lx then (if zix (i + 4) Lx then (zc (d + 20) mX2_keep [zR (some 0), zI (xs (nrm (i + 1)).toNat), zI (xs (nrm (i + 2)).toNat), zI (xs (nrm (i + 3)).toNat), zI (xs (nrm (i + 4)).toNat)] σ).bind fun r => zw (d + 20 + 1) Lx xs 1232 (zLL i) (r.1.toList ++ []) r.2 else none) else none) else none) else none)) = some q ∧ zStepOk i xs σ q := by
  obtain ⟨K, T, h⟩ := h
  have hp : zP mX2_keep mX3_keep [zI (xs (nrm (i + 1)).toNat), zI (xs (nrm (i + 2)).toNat), zI (xs (nrm (i + 3)).toNat), zI (xs (nrm (i + 4)).toNat)] σ := p_keep h (hx _) (hx _) (hx _) (hx _)
  obtain ⟨σ1, σ2, v, h1, h2, h3⟩ := hp d
  obtain ⟨a, rfl⟩ := zc_I (by first | exact Or.inl rfl | exact Or.inr rfl) h1
  rw [if_pos (hz 1 (by decide) (by decide)), if_pos (hz 2 (by decide) (by decide)), if_pos (hz 3 (by decide) (by decide)), if_pos (hz 4 (by decide) (by decide)), h1]
  show ∃ q, zw (d + 20 + 1) Lx xs 1232 (zLL i) [zI a] σ1 = some q ∧ _
  rw [b_L_law_1232, if_pos (hz 1 (by decide) (by decide)), if_pos (hz 2 (by decide) (by decide)), if_pos (hz 3 (by decide) (by decide)), if_pos (hz 4 (by decide) (by decide)), h2]
  show ∃ q, zw (d + 20 + 1) Lx xs 1260 (zLL i) [zI a, zI a] σ2 = some q ∧ _
  rw [b_L_law_1260, if_pos rfl]
  exact ⟨_, rfl, Or.inl ⟨σ2, rfl, h3⟩⟩
theorem lj_row (h : zSys σ) (hz : ∀ k : Int, 0 ≤ k → k ≤ 5 → zix (i + k) Lx) (hx : ∀ n, R32 (xs n)) (d : Nat) : ∃ q, ((if zix (i + 1) Lx then (if zix (i + 2) Lx then (if zix (i + 3) Lx then (zc (d + 20) mX2_row [zR (some 0), zI (xs (nrm (i + 1)).toNat), zI (xs (nrm (i + 2)).toNat), zI (xs (nrm (i + 3)).toNat)] σ).bind fun r => zw (d + 20 + 1) Lx xs 1287 (zLL i) (r.1.toList ++ []) r.2 else none) else none) else none)) = some q ∧ zStepOk i xs σ q := by
  obtain ⟨K, T, h⟩ := h
  have hp : zP mX2_row mX3_row [zI (xs (nrm (i + 1)).toNat), zI (xs (nrm (i + 2)).toNat), zI (xs (nrm (i + 3)).toNat)] σ := p_row h (hx _) (hx _) (hx _)
  obtain ⟨σ1, σ2, v, h1, h2, h3⟩ := hp d
  obtain ⟨a, rfl⟩ := zc_I (by first | exact Or.inl rfl | exact Or.inr rfl) h1
  rw [if_pos (hz 1 (by decide) (by decide)), if_pos (hz 2 (by decide) (by decide)), if_pos (hz 3 (by decide) (by decide)), h1]
  show ∃ q, zw (d + 20 + 1) Lx xs 1287 (zLL i) [zI a] σ1 = some q ∧ _
  rw [b_L_law_1287, if_pos (hz 1 (by decide) (by decide)), if_pos (hz 2 (by decide) (by decide)), if_pos (hz 3 (by decide) (by decide)), h2]
  show ∃ q, zw (d + 20 + 1) Lx xs 1309 (zLL i) [zI a, zI a] σ2 = some q ∧ _
  rw [b_L_law_1309, if_pos rfl]
  exact ⟨_, rfl, Or.inl ⟨σ2, rfl, h3⟩⟩
theorem lj_put (h : zSys σ) (hz : ∀ k : Int, 0 ≤ k → k ≤ 5 → zix (i + k) Lx) (hx : ∀ n, R32 (xs n)) (d : Nat) : ∃ q, ((if zix (i + 1) Lx then (if zix (i + 2) Lx then (if zix (i + 3) Lx then (zc (d + 20) mX2_put [zR (some 0), zI (xs (nrm (i + 1)).toNat), zI (xs (nrm (i + 2)).toNat), zI (xs (nrm (i + 3)).toNat)] σ).bind fun r => zw (d + 20 + 1) Lx xs 1336 (zLL i) (r.1.toList ++ []) r.2 else none) else none) else none)) = some q ∧ zStepOk i xs σ q := by
  obtain ⟨K, T, h⟩ := h
  have hp : zP mX2_put mX3_put [zI (xs (nrm (i + 1)).toNat), zI (xs (nrm (i + 2)).toNat), zI (xs (nrm (i + 3)).toNat)] σ := p_put h (hx _) (hx _) (hx _)
  obtain ⟨σ1, σ2, v, h1, h2, h3⟩ := hp d
  obtain ⟨a, rfl⟩ := zc_I (by first | exact Or.inl rfl | exact Or.inr rfl) h1
  rw [if_pos (hz 1 (by decide) (by decide)), if_pos (hz 2 (by decide) (by decide)), if_pos (hz 3 (by decide) (by decide)), h1]
  show ∃ q, zw (d + 20 + 1) Lx xs 1336 (zLL i) [zI a] σ1 = some q ∧ _
  rw [b_L_law_1336, if_pos (hz 1 (by decide) (by decide)), if_pos (hz 2 (by decide) (by decide)), if_pos (hz 3 (by decide) (by decide)), h2]
  show ∃ q, zw (d + 20 + 1) Lx xs 1358 (zLL i) [zI a, zI a] σ2 = some q ∧ _
  rw [b_L_law_1358, if_pos rfl]
  exact ⟨_, rfl, Or.inl ⟨σ2, rfl, h3⟩⟩
theorem lj_copy (h : zSys σ) (hz : ∀ k : Int, 0 ≤ k → k ≤ 5 → zix (i + k) Lx) (hx : ∀ n, R32 (xs n)) (d : Nat) : ∃ q, ((if zix (i + 1) Lx then (if zix (i + 2) Lx then (if zix (i + 3) Lx then (if zix (i + 4) Lx then (if zix (i + 5) Lx then (zc (d + 20) mX2_copy [zR (some 0), zI (xs (nrm (i + 1)).toNat), zI (xs (nrm (i + 2)).toNat), zI (xs (nrm (i + 3)).toNat), zI (xs (nrm (i + 4)).toNat), zI (xs (nrm (i + 5)).toNat)] σ).bind fun r => zw (d + 20 + 1) Lx xs 1464 (zLL i) (r.1.toList ++ []) r.2 else none) else none) else none) else none) else none)) = some q ∧ zStepOk i xs σ q := by
  obtain ⟨K, T, h⟩ := h
  have hp : zP mX2_copy mX3_copy [zI (xs (nrm (i + 1)).toNat), zI (xs (nrm (i + 2)).toNat), zI (xs (nrm (i + 3)).toNat), zI (xs (nrm (i + 4)).toNat), zI (xs (nrm (i + 5)).toNat)] σ := p_copy h (hx _) (hx _) (hx _) (hx _) (hx _)
  obtain ⟨σ1, σ2, v, h1, h2, h3⟩ := hp d
  obtain ⟨a, rfl⟩ := zc_I (by first | exact Or.inl rfl | exact Or.inr rfl) h1
  rw [if_pos (hz 1 (by decide) (by decide)), if_pos (hz 2 (by decide) (by decide)), if_pos (hz 3 (by decide) (by decide)), if_pos (hz 4 (by decide) (by decide)), if_pos (hz 5 (by decide) (by decide)), h1]
  show ∃ q, zw (d + 20 + 1) Lx xs 1464 (zLL i) [zI a] σ1 = some q ∧ _
  rw [b_L_law_1464, if_pos (hz 1 (by decide) (by decide)), if_pos (hz 2 (by decide) (by decide)), if_pos (hz 3 (by decide) (by decide)), if_pos (hz 4 (by decide) (by decide)), if_pos (hz 5 (by decide) (by decide)), h2]
  show ∃ q, zw (d + 20 + 1) Lx xs 1498 (zLL i) [zI a, zI a] σ2 = some q ∧ _
  rw [b_L_law_1498, if_pos rfl]
  exact ⟨_, rfl, Or.inl ⟨σ2, rfl, h3⟩⟩
theorem lj_cost (h : zSys σ) (hz : ∀ k : Int, 0 ≤ k → k ≤ 5 → zix (i + k) Lx) (hx : ∀ n, R32 (xs n)) (d : Nat) : ∃ q, ((if zix (i + 1) Lx then (zc (d + 20) mX2_cost [zR (some 0), zI (xs (nrm (i + 1)).toNat)] σ).bind fun r => zw (d + 20 + 1) Lx xs 1513 (zLL i) (r.1.toList ++ []) r.2 else none)) = some q ∧ zStepOk i xs σ q := by
  obtain ⟨K, T, h⟩ := h
  have hp : zP mX2_cost mX3_cost [zI (xs (nrm (i + 1)).toNat)] σ := p_cost h (hx _)
  obtain ⟨σ1, σ2, v, h1, h2, h3⟩ := hp d
  obtain ⟨a, rfl⟩ := zc_I (by first | exact Or.inl rfl | exact Or.inr rfl) h1
  rw [if_pos (hz 1 (by decide) (by decide)), h1]
  show ∃ q, zw (d + 20 + 1) Lx xs 1513 (zLL i) [zI a] σ1 = some q ∧ _
  rw [b_L_law_1513, if_pos (hz 1 (by decide) (by decide)), h2]
  show ∃ q, zw (d + 20 + 1) Lx xs 1523 (zLL i) [zI a, zI a] σ2 = some q ∧ _
  rw [b_L_law_1523, if_pos rfl]
  exact ⟨_, rfl, Or.inl ⟨σ2, rfl, h3⟩⟩
theorem l_step (h : zSys σ) (hz : ∀ k : Int, 0 ≤ k → k ≤ 5 → zix (i + k) Lx) (hlast : ¬ nrm ((Lx : Int) - 6) < nrm i) (hx : ∀ n, R32 (xs n)) (d : Nat) : ∃ q, zw (d + 20 + 1) Lx xs 23 (zLL i) [] σ = some q ∧ zStepOk i xs σ q := by
  have hz0 : zix i Lx := by have := hz 0 (by decide) (by decide); rw [Int.add_zero] at this; exact this
  rw [b_L_law_23, if_neg hlast, if_pos hz0]
  refine zif_ex (lj_coach h hz hx d) ?_
  refine zif_ex (lj_seat h hz hx d) ?_
  refine zif_ex (lj_comes h hz hx d) ?_
  refine zif_ex (lj_tips h hz hx d) ?_
  refine zif_ex (lj_blocks h hz hx d) ?_
  refine zif_ex (lj_hour h hz hx d) ?_
  refine zif_ex (lj_change h hz hx d) ?_
  refine zif_ex (lj_rounds h hz hx d) ?_
  refine zif_ex (lj_behind h hz hx d) ?_
  refine zif_ex (lj_still h hz hx d) ?_
  refine zif_ex (lj_run h hz hx d) ?_
  refine zif_ex (lj_longest h hz hx d) ?_
  refine zif_ex (lj_began h hz hx d) ?_
  refine zif_ex (lj_lost h hz hx d) ?_
  refine zif_ex (lj_best h hz hx d) ?_
  refine zif_ex (lj_laws h hz hx d) ?_
  refine zif_ex (lj_pays h hz hx d) ?_
  refine zif_ex (lj_price h hz hx d) ?_
  refine zif_ex (lj_order h hz hx d) ?_
  refine zif_ex (lj_swap h hz hx d) ?_
  refine zif_ex (lj_stops h hz hx d) ?_
  refine zif_ex (lj_ask h hz hx d) ?_
  refine zif_ex (lj_bestHour h hz hx d) ?_
  refine zif_ex (lj_two h hz hx d) ?_
  refine zif_ex (lj_looksRound h hz hx d) ?_
  refine zif_ex (lj_whatIs h hz hx d) ?_
  refine zif_ex (lj_mean h hz hx d) ?_
  refine zif_ex (lj_tightest h hz hx d) ?_
  refine zif_ex (lj_forged h hz hx d) ?_
  refine zif_ex (lj_judge h hz hx d) ?_
  refine zif_ex (lj_trips h hz hx d) ?_
  refine zif_ex (lj_image h hz hx d) ?_
  refine zif_ex (lj_restore h hz hx d) ?_
  refine zif_ex (lj_count h hz hx d) ?_
  refine zif_ex (lj_keep h hz hx d) ?_
  refine zif_ex (lj_row h hz hx d) ?_
  refine zif_ex (lj_put h hz hx d) ?_
  refine zif_ex (by rw [if_pos (hz 1 (by decide) (by decide)), if_pos (hz 2 (by decide) (by decide))]; exact ⟨_, rfl, Or.inr (Or.inl rfl)⟩) ?_
  refine zif_ex (lj_copy h hz hx d) ?_
  refine zif_ex (lj_cost h hz hx d) ?_
  refine zif_ex (by rw [if_pos (hz 1 (by decide) (by decide))]; exact ⟨_, rfl, Or.inr (Or.inr rfl)⟩) ?_
  exact ⟨_, rfl, Or.inl ⟨σ, rfl, h⟩⟩
end LSTEP
