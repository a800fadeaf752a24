theorem nrL0 : nrL 0 = 0 := by decide
theorem mmod_half {b c : Nat} (h0 : 0 < c) (h : c < b) : 2 * (b % c) < b := by
  by_cases q : 2 * c ≤ b
  · have := Nat.mod_lt b h0
    omega
  · have e : b % c = b - c := by
      rw [Nat.mod_eq_sub_mod (by omega), Nat.mod_eq_of_lt (by omega)]
    omega
theorem mtm (a b : Nat) : ((a : Int)).tmod (b : Int) = ((a % b : Nat) : Int) := rfl
theorem mtd (a b : Nat) : ((a : Int)).tdiv (b : Int) = ((a / b : Nat) : Int) := rfl
section GCD
variable {σ : zS}
theorem r_gcd (d : Nat) : ∀ (b a : Nat), a < 2 ^ 60 → b < 2 ^ 60 → zq d mX3_gcd 6 [none, none, none, none, some (zJ (a : Int)), none, some (zJ (b : Int)), none, none, none] [] σ = some (some (zJ ((Nat.gcd a b : Nat) : Int)), σ) := by
  intro b
  induction b using Nat.strongRecOn with
  | ind b ih =>
    intro a ha hb
    have na : nrL (a : Int) = a := nrL_id (by omega) (by omega)
    have nb : nrL (b : Int) = b := nrL_id (by omega) (by omega)
    rw [b_X3_gcd_6, na, nb, nrL0]
    by_cases q : b = 0
    · subst q
      rw [Nat.gcd_zero_right]
      rfl
    · have hm := Nat.mod_lt a (Nat.pos_of_ne_zero q)
      rw [if_neg (show ¬ (b : Int) < 0 by omega), if_neg (show ¬ (b : Int) = 0 by omega), if_neg (show ¬ nrm 1 = 0 by decide), if_neg (show ¬ (b : Int) = 0 by omega), mtm]
      refine (ih (a % b) hm b hb (by omega)).trans ?_
      rw [Nat.gcd_comm b, ← Nat.gcd_rec, Nat.gcd_comm]
theorem s_cd1 (d : Nat) {a b k : Nat} (ha : a < 2 ^ 60) (hb : b < 2 ^ 60) (hk : k < 100) (h0 : b ≠ 0) : zq d mX2_commonDivisor 9 [none, none, none, none, some (zJ (a : Int)), none, some (zJ (b : Int)), none, some (zI (k : Int)), none, none] [] σ = zq d mX2_commonDivisor 9 [none, none, none, none, some (zJ (b : Int)), none, some (zJ ((a % b : Nat) : Int)), none, some (zI ((k + 1 : Nat) : Int)), none, none] [] σ := by
  have na : nrL (a : Int) = a := nrL_id (by omega) (by omega)
  have nb : nrL (b : Int) = b := nrL_id (by omega) (by omega)
  rw [b_X2_commonDivisor_9, na, nb, nrL0, nrm_id (by omega) (by omega)]
  rw [if_neg (show ¬ 100 ≤ (k : Int) by omega), if_neg (show ¬ (b : Int) < 0 by omega), if_neg (show ¬ (b : Int) = 0 by omega), if_neg (show ¬ nrm 1 = 0 by decide), if_neg (show ¬ (b : Int) = 0 by omega), mtm]
  rfl
theorem s_cd0 (d : Nat) {a k : Nat} (hk : k ≤ 100) : zq d mX2_commonDivisor 9 [none, none, none, none, some (zJ (a : Int)), none, some (zJ ((0 : Nat) : Int)), none, some (zI (k : Int)), none, none] [] σ = some (some (zJ (a : Int)), σ) := by
  rw [b_X2_commonDivisor_9, nrm_id (by omega) (by omega)]
  by_cases q : 100 ≤ (k : Int)
  · rw [if_pos q]
  · rw [if_neg q]
    rfl
theorem s_cd (d : Nat) : ∀ (j a b k : Nat), a < 2 ^ 60 → b < 2 ^ 60 → b < 2 ^ j → k + 2 * j ≤ 100 → zq d mX2_commonDivisor 9 [none, none, none, none, some (zJ (a : Int)), none, some (zJ (b : Int)), none, some (zI (k : Int)), none, none] [] σ = some (some (zJ ((Nat.gcd a b : Nat) : Int)), σ) := by
  intro j
  induction j with
  | zero =>
    intro a b k ha hb hj hk
    have hb0 : b = 0 := by omega
    subst hb0
    rw [s_cd0 d (by omega), Nat.gcd_zero_right]
  | succ j ih =>
    intro a b k ha hb hj hk
    by_cases q : b = 0
    · subst q
      rw [s_cd0 d (by omega), Nat.gcd_zero_right]
    · have hm := Nat.mod_lt a (Nat.pos_of_ne_zero q)
      have eg : Nat.gcd b (a % b) = Nat.gcd a b := by rw [Nat.gcd_comm b, ← Nat.gcd_rec, Nat.gcd_comm]
      rw [s_cd1 d ha hb (by omega) q]
      by_cases q2 : a % b = 0
      · rw [q2] at eg ⊢
        rw [s_cd0 d (by omega), ← eg, Nat.gcd_zero_right]
      · have hm2 := Nat.mod_lt b (Nat.pos_of_ne_zero q2)
        have hh := mmod_half (Nat.pos_of_ne_zero q2) hm
        have eg2 : Nat.gcd (a % b) (b % (a % b)) = Nat.gcd b (a % b) := by rw [Nat.gcd_comm (a % b) (b % (a % b)), ← Nat.gcd_rec, Nat.gcd_comm]
        rw [s_cd1 d hb (by omega) (by omega) q2]
        rw [ih (a % b) (b % (a % b)) (k + 1 + 1) (by omega) (by omega) (by rw [Nat.pow_succ] at hj; omega) (by omega), eg2, eg]
/-- what both sides answer of a part -/
def mpart (a b : Nat) (w : Int) : Int := if a = 0 then w else if w = 0 then ((a / Nat.gcd a b : Nat) : Int) else ((b / Nat.gcd a b : Nat) : Int)
theorem r_partOf (d : Nat) {a b : Nat} (ha : a < 2 ^ 60) (hb : b < 2 ^ 60) {w : Int} (hw : w = 0 ∨ w = 1) : zc (d + 1) mX3_partOf [zJ (a : Int), zJ (b : Int), zI w] σ = some (some (zJ (mpart a b w)), σ) := by
  have na : nrL (a : Int) = a := nrL_id (by omega) (by omega)
  have nb : nrL (b : Int) = b := nrL_id (by omega) (by omega)
  unfold mpart
  rw [e_X3_partOf, na, nrL0]
  by_cases q : a = 0
  · subst q
    rw [if_neg (show ¬ ((0 : Nat) : Int) < 0 by decide), if_pos (show ((0 : Nat) : Int) = 0 by rfl), if_neg (show ¬ ¬ nrm 0 = 0 by decide), if_pos rfl]
    rcases hw with rfl | rfl <;> rfl
  · have hg : Nat.gcd a b ≠ 0 := fun e => q (Nat.eq_zero_of_gcd_eq_zero_left e)
    have hgl : Nat.gcd a b ≤ a := Nat.gcd_le_left b (Nat.pos_of_ne_zero q)
    have ng : nrL ((Nat.gcd a b : Nat) : Int) = (Nat.gcd a b : Nat) := nrL_id (by omega) (by omega)
    have hz : ¬ nrL ((Nat.gcd a b : Nat) : Int) = 0 := by rw [ng]; omega
    rw [if_neg (show ¬ (a : Int) < 0 by omega), if_neg (show ¬ (a : Int) = 0 by omega), if_pos (show ¬ nrm 1 = 0 by decide), if_neg q]
    rcases hw with rfl | rfl
    · rw [if_neg (show ¬ ¬ nrm 0 = 0 by decide), if_pos rfl, b_X3_partOf_20, e_X3_gcd, r_gcd d b a ha hb]
      show zq (d + 1) mX3_partOf 25 _ [zJ _, zJ _] σ = _
      rw [b_X3_partOf_25, if_neg hz, na, ng, mtd]
    · rw [if_pos (show ¬ nrm 1 = 0 by decide), if_neg (show ¬ (1 : Int) = 0 by decide), b_X3_partOf_20, e_X3_gcd, r_gcd d b a ha hb]
      show zq (d + 1) mX3_partOf 25 _ [zJ _, zJ _] σ = _
      rw [b_X3_partOf_25, if_neg hz, nb, ng, mtd]
theorem s_partOf (d : Nat) {a b : Nat} (ha : a < 2 ^ 48) (hb : b < 2 ^ 48) (hb0 : b ≠ 0) {w : Int} (hw : w = 0 ∨ w = 1) : zc (d + 1) mX2_partOf [zJ (a : Int), zJ (b : Int), zI w] σ = some (some (zJ (mpart a b w)), σ) := by
  have na : nrL (a : Int) = a := nrL_id (by omega) (by omega)
  have nb : nrL (b : Int) = b := nrL_id (by omega) (by omega)
  have hg : Nat.gcd a b ≠ 0 := fun e => hb0 (Nat.eq_zero_of_gcd_eq_zero_right e)
  have hgl : Nat.gcd a b ≤ b := Nat.gcd_le_right a (Nat.pos_of_ne_zero hb0)
  have ng : nrL ((Nat.gcd a b : Nat) : Int) = (Nat.gcd a b : Nat) := nrL_id (by omega) (by omega)
  have hz : ¬ nrL ((Nat.gcd a b : Nat) : Int) = 0 := by rw [ng]; omega
  rw [e_X2_partOf, e_X2_commonDivisor]
  have k := s_cd (σ := σ) d 48 a b 0 (by omega) (by omega) hb (by omega)
  have k' : zq d mX2_commonDivisor 9 [none, none, none, none, some (zJ (a : Int)), none, some (zJ (b : Int)), none, some (zI 0), none, none] [] σ = _ := k
  rw [k']
  show zq (d + 1) mX2_partOf 5 _ [zJ _] σ = _
  rw [b_X2_partOf_5, ng, nrL0, if_neg (show ¬ ((Nat.gcd a b : Nat) : Int) < 0 by omega), if_neg (show ¬ ((Nat.gcd a b : Nat) : Int) = 0 by omega), if_pos (show ¬ nrm 1 = 0 by decide), na, nb, mtd, mtd]
  unfold mpart
  by_cases q : a = 0
  · subst q
    rw [if_pos rfl, Nat.gcd_zero_left, Nat.zero_div, Nat.div_self (Nat.pos_of_ne_zero hb0)]
    rcases hw with rfl | rfl <;> simp [nrm_id, hb0]
  · rw [if_neg q]
    rcases hw with rfl | rfl <;> simp [nrm_id, hb0]
end GCD
