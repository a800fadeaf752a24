section LAFTER
variable {σ : zS} {K : zK} {T : Int} {i : Int} {Lx : Nat} {xs : Nat → Int}
theorem l_after_toss (h : zSysK K T σ) (hz : ∀ k : Int, 0 ≤ k → k ≤ 5 → zix (i + k) Lx) (hx : ∀ n, R32 (xs n)) (d : Nat) : zw (d + 20 + 1) Lx xs 1538 (zLL i) [zI (mToss σ (xs (nrm (i + 1)).toNat))] σ = some (none, 1553, zLL i, [], σ) := by
  rw [b_L_law_1538, if_pos (hz 1 (by decide) (by decide)), p_toss h (hx _) d]
  show zw (d + 20 + 1) Lx xs 1548 (zLL i) [zI (mToss σ (xs (nrm (i + 1)).toNat)), zI (mToss σ (xs (nrm (i + 1)).toNat))] σ = _
  rw [b_L_law_1548, if_pos rfl]
theorem l_after_el (h : zSysK K T σ) (hz : ∀ k : Int, 0 ≤ k → k ≤ 5 → zix (i + k) Lx) (hx : ∀ n, R32 (xs n)) (d : Nat) : ∃ σ', zw (d + 20 + 1) Lx xs 1380 (zLL i) [zI (mElc σ (xs (nrm (i + 1)).toNat) (xs (nrm (i + 2)).toNat))] (mEls σ (xs (nrm (i + 1)).toNat) (xs (nrm (i + 2)).toNat)) = some (none, 1553, zLL i, [], σ') ∧ zSys σ' := by
  obtain ⟨v, τ, h1, h2, h3, h4⟩ := p_element h (hx (nrm (i + 1)).toNat) (hx (nrm (i + 2)).toNat) d
  refine ⟨τ, ?_, K, T, h3⟩
  have hc0 : nrm (mElc σ (xs (nrm (i + 1)).toNat) (xs (nrm (i + 2)).toNat)) = 0 → mElc σ (xs (nrm (i + 1)).toNat) (xs (nrm (i + 2)).toNat) = 0 := by
    intro e
    rcases mEl_cases σ (xs (nrm (i + 1)).toNat) (xs (nrm (i + 2)).toNat) with ⟨w, -, e1, -⟩ | ⟨-, e1, -⟩ | ⟨-, e1, -⟩
    · exact e1
    · rw [e1] at e; exact absurd e (by decide)
    · rw [e1] at e; exact absurd e (by decide)
  rw [b_L_law_1380, if_pos (hz 1 (by decide) (by decide)), if_pos (hz 2 (by decide) (by decide)), h1]
  generalize mElc σ (xs (nrm (i + 1)).toNat) (xs (nrm (i + 2)).toNat) = c at *
  show zw (d + 20 + 1) Lx xs 1398 [some (zR (some 52)), some (zR (some 0)), some (zR (some 36)), some (zR (some 51)), some (zI i), some (zI c), none, none] [zJ v] τ = _
  rw [b_L_law_1398, h2]
  show zw (d + 20 + 1) Lx xs 1404 [some (zR (some 52)), some (zR (some 0)), some (zR (some 36)), some (zR (some 51)), some (zI i), some (zI c), some (zJ v), none] [zI c] τ = _
  rw [b_L_law_1404, if_pos rfl]
  by_cases hc : nrm c = 0
  · have e51 : τ 51 (nrm 0).toNat = v := (h4 (hc0 hc)).1
    rw [if_neg (fun e => e hc), if_pos (by decide), e51, if_pos (zJeq v), b_L_law_1427]
  · rw [if_pos hc, b_L_law_1427]
theorem l_inc (d : Nat) : zY d mL_law (some (Lx, xs)) (fun pc => pc == 23) some 1553 (zLL i) [] σ = some (none, 23, zLL (i + 6), [], σ) := by
  refine Eq.trans (zY_step (by exact rfl) (by exact dL_law_1553) (by exact rfl) (pc' := 1556) (L' := zLL (i + 6)) (S' := []) (by exact rfl) (zcn (by exact rfl))) ?_
  refine Eq.trans (zY_step (by exact rfl) (by exact dL_law_1556) (by exact rfl) (pc' := 23) (S' := []) (by exact rfl) (zcn (by exact rfl))) ?_
  exact zY_stop (by exact rfl)
theorem l_last (hlast : nrm ((Lx : Int) - 6) < nrm i) (d : Nat) : zw (d + 1) Lx xs 23 (zLL i) [] σ = some (some (some (zI 1)), 1560, zLL i, [zI 1], σ) := by
  rw [b_L_law_23, if_pos hlast]
end LAFTER
