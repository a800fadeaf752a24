/-! looksRound: ways by sums against all sets of rows that look round -/
def nsum (f : Nat → Nat) : Nat → Nat
  | 0 => 0
  | n + 1 => nsum f n + f n
theorem nsum_s (f : Nat → Nat) (n : Nat) : nsum f (n + 1) = nsum f n + f n := rfl
theorem nsum_congr {f g : Nat → Nat} : ∀ {n : Nat}, (∀ r, r < n → f r = g r) → nsum f n = nsum g n := by
  intro n
  induction n with
  | zero => intro _; rfl
  | succ n ih => intro h; rw [nsum_s, nsum_s, ih (fun r hr => h r (by omega)), h n (by omega)]
theorem nsum_add (f : Nat → Nat) (a : Nat) : ∀ b : Nat, nsum f (a + b) = nsum f a + nsum (fun k => f (a + k)) b := by
  intro b
  induction b with
  | zero => rfl
  | succ b ih =>
    rw [show a + (b + 1) = a + b + 1 from rfl, nsum_s, nsum_s, ih]
    omega
theorem nsum_lin (f g : Nat → Nat) (u w : Nat) : ∀ n : Nat, nsum (fun k => u * f k + w * g k) n = u * nsum f n + w * nsum g n := by
  intro n
  induction n with
  | zero => simp [nsum]
  | succ n ih => rw [nsum_s, nsum_s, nsum_s, ih, Nat.mul_add, Nat.mul_add]; omega
theorem nsum_mul (g : Nat → Nat) (w : Nat) : ∀ n : Nat, nsum (fun k => w * g k) n = w * nsum g n := by
  intro n
  induction n with
  | zero => simp [nsum]
  | succ n ih => rw [nsum_s, nsum_s, ih, Nat.mul_add]
theorem nsum_zero {f : Nat → Nat} : ∀ {n : Nat}, (∀ r, r < n → f r = 0) → nsum f n = 0 := by
  intro n
  induction n with
  | zero => intro _; rfl
  | succ n ih => intro h; rw [nsum_s, ih (fun r hr => h r (by omega)), h n (by omega)]
theorem nsum_shift (f : Nat → Nat) (t : Nat) : ∀ n : Nat, nsum (fun k => if t ≤ k then f (k - t) else 0) n = nsum f (n - t) := by
  intro n
  induction n with
  | zero => rw [Nat.zero_sub]; rfl
  | succ n ih =>
    rw [nsum_s, ih]
    by_cases h : t ≤ n
    · rw [if_pos h, show n + 1 - t = n - t + 1 from by omega, nsum_s]
    · rw [if_neg h, show n + 1 - t = 0 from by omega, show n - t = 0 from by omega, Nat.add_zero]
theorem nsum_le {f : Nat → Nat} {c : Nat} : ∀ {n : Nat}, (∀ r, r < n → f r ≤ c) → nsum f n ≤ n * c := by
  intro n
  induction n with
  | zero => intro _; simp [nsum]
  | succ n ih =>
    intro h
    have h1 := ih (fun r hr => h r (by omega))
    have h2 := h n (by omega)
    rw [nsum_s, Nat.succ_mul]
    omega
/-- ways, by sums, of the first i rows; u and w weigh who sees and who does not -/
def mW (u w T : Nat → Nat) : Nat → Nat → Nat
  | 0, s => if s = 0 then 1 else 0
  | i + 1, s => u i * mW u w T i s + w i * (if T i ≤ s then mW u w T i (s - T i) else 0)
theorem mW_s (u w T : Nat → Nat) (i s : Nat) : mW u w T (i + 1) s = u i * mW u w T i s + w i * (if T i ≤ s then mW u w T i (s - T i) else 0) := rfl
def mwt (u w : Nat → Nat) (S : Nat) : Nat → Nat
  | 0 => 1
  | i + 1 => mwt u w S i * (if S.testBit i then u i else w i)
def mst (T : Nat → Nat) (S : Nat) : Nat → Nat
  | 0 => 0
  | i + 1 => mst T S i + (if S.testBit i then 0 else T i)
theorem mwt_s (u w : Nat → Nat) (S i : Nat) : mwt u w S (i + 1) = mwt u w S i * (if S.testBit i then u i else w i) := rfl
theorem mst_s (T : Nat → Nat) (S i : Nat) : mst T S (i + 1) = mst T S i + (if S.testBit i then 0 else T i) := rfl
theorem mwt_congr {u w : Nat → Nat} {S S' : Nat} : ∀ {i : Nat}, (∀ j, j < i → S.testBit j = S'.testBit j) → mwt u w S i = mwt u w S' i := by
  intro i
  induction i with
  | zero => intro _; rfl
  | succ i ih => intro h; rw [mwt_s, mwt_s, ih (fun j hj => h j (by omega)), h i (by omega)]
theorem mst_congr {T : Nat → Nat} {S S' : Nat} : ∀ {i : Nat}, (∀ j, j < i → S.testBit j = S'.testBit j) → mst T S i = mst T S' i := by
  intro i
  induction i with
  | zero => intro _; rfl
  | succ i ih => intro h; rw [mst_s, mst_s, ih (fun j hj => h j (by omega)), h i (by omega)]
theorem mtb_hi {i S : Nat} (hS : S < 2 ^ i) : (2 ^ i + S).testBit i = true ∧ S.testBit i = false ∧ ∀ j, j < i → (2 ^ i + S).testBit j = S.testBit j := by
  refine ⟨?_, Nat.testBit_lt_two_pow hS, fun j hj => ?_⟩
  · rw [Nat.testBit_two_pow_add_eq, Nat.testBit_lt_two_pow hS]; rfl
  · rw [Nat.testBit_two_pow_add_gt hj]
/-- all sets of the first i rows, their sums below n -/
def mF (u w T : Nat → Nat) (i n : Nat) : Nat := nsum (fun S => if mst T S i < n then mwt u w S i else 0) (2 ^ i)
theorem mF_s (u w T : Nat → Nat) (i n : Nat) : mF u w T (i + 1) n = u i * mF u w T i n + w i * mF u w T i (n - T i) := by
  unfold mF
  rw [Nat.pow_succ, Nat.mul_two, nsum_add]
  have e1 : nsum (fun S => if mst T S (i + 1) < n then mwt u w S (i + 1) else 0) (2 ^ i) = w i * nsum (fun S => if mst T S i < n - T i then mwt u w S i else 0) (2 ^ i) := by
    rw [← nsum_mul]
    refine nsum_congr fun S hS => ?_
    have hb := mtb_hi hS
    rw [mst_s, mwt_s, hb.2.1, if_neg Bool.false_ne_true, if_neg Bool.false_ne_true]
    by_cases q : mst T S i + T i < n
    · rw [if_pos q, if_pos (by omega), Nat.mul_comm]
    · rw [if_neg q, if_neg (by omega)]; simp
  have e2 : nsum (fun k => (fun S => if mst T S (i + 1) < n then mwt u w S (i + 1) else 0) (2 ^ i + k)) (2 ^ i) = u i * nsum (fun S => if mst T S i < n then mwt u w S i else 0) (2 ^ i) := by
    rw [← nsum_mul]
    refine nsum_congr fun S hS => ?_
    have hb := mtb_hi hS
    show (if mst T (2 ^ i + S) (i + 1) < n then mwt u w (2 ^ i + S) (i + 1) else 0) = u i * (if mst T S i < n then mwt u w S i else 0)
    rw [mst_s, mwt_s, hb.1, if_pos rfl, if_pos rfl, mst_congr hb.2.2, mwt_congr hb.2.2, Nat.add_zero]
    by_cases q : mst T S i < n
    · rw [if_pos q, if_pos q, Nat.mul_comm]
    · rw [if_neg q, if_neg q]; simp
  rw [e1, e2, Nat.add_comm]
theorem mWF (u w T : Nat → Nat) : ∀ i n : Nat, nsum (mW u w T i) n = mF u w T i n := by
  intro i
  induction i with
  | zero =>
    intro n
    show nsum (fun s => if s = 0 then 1 else 0) n = 0 + (if 0 < n then 1 else 0)
    cases n with
    | zero => rfl
    | succ n =>
      rw [Nat.add_comm n 1, nsum_add, nsum_zero (f := fun k => if 1 + k = 0 then 1 else 0) (fun r _ => if_neg (by omega))]
      rw [if_pos (by omega)]
      rfl
  | succ i ih =>
    intro n
    rw [mF_s, ← ih, ← ih]
    have e := nsum_lin (mW u w T i) (fun s => if T i ≤ s then mW u w T i (s - T i) else 0) (u i) (w i) n
    rw [nsum_shift] at e
    exact e
theorem mW_zero {u w T : Nat → Nat} (hT : ∀ i, i < 8 → T i ≤ 10) : ∀ i, i ≤ 8 → ∀ s, 10 * i < s → mW u w T i s = 0 := by
  intro i
  induction i with
  | zero => intro _ s hs; exact if_neg (by omega)
  | succ i ih =>
    intro hi s hs
    have ht := hT i (by omega)
    rw [mW_s, ih (by omega) s (by omega), if_pos (by omega), ih (by omega) (s - T i) (by omega)]
    simp
theorem mF_le {u w T : Nat → Nat} (hu : ∀ i, i < 8 → u i + w i ≤ 20) : ∀ i, i ≤ 8 → ∀ n, mF u w T i n ≤ 20 ^ i := by
  intro i
  induction i with
  | zero =>
    intro _ n
    show 0 + (if 0 < n then 1 else 0) ≤ 1
    split <;> omega
  | succ i ih =>
    intro hi n
    have h1 := ih (by omega) n
    have h2 := ih (by omega) (n - T i)
    have h3 := hu i (by omega)
    rw [mF_s, Nat.pow_succ]
    have a1 : u i * mF u w T i n ≤ u i * 20 ^ i := Nat.mul_le_mul_left _ h1
    have a2 : w i * mF u w T i (n - T i) ≤ w i * 20 ^ i := Nat.mul_le_mul_left _ h2
    have a3 : (u i + w i) * 20 ^ i ≤ 20 * 20 ^ i := Nat.mul_le_mul_right _ h3
    rw [Nat.add_mul] at a3
    rw [Nat.mul_comm (20 ^ i) 20]
    omega
/-- how many of the first i are 1 -/
def mct (y : Nat → Nat) : Nat → Nat
  | 0 => 0
  | i + 1 => mct y i + y i
theorem mct_s (y : Nat → Nat) (i : Nat) : mct y (i + 1) = mct y i + y i := rfl
def mtb (S : Nat) (j : Nat) : Nat := if S.testBit j then 1 else 0
/-- weights: y says who may look round, t the odds -/
def mup1 (y : Nat → Nat) (i : Nat) : Nat := if y i = 1 then 1 else 0
def mwp1 (y : Nat → Nat) (t : Nat) (i : Nat) : Nat := if y i = 1 then t - 1 else 1
theorem mct_le {S : Nat} {y : Nat → Nat} : ∀ {i : Nat}, (∀ j, j < i → S.testBit j = true → y j = 1) → mct (mtb S) i ≤ mct y i := by
  intro i
  induction i with
  | zero => intro _; exact Nat.le_refl _
  | succ i ih =>
    intro h
    have h1 := ih (fun j hj => h j (by omega))
    rw [mct_s, mct_s]
    have h2 := h i (by omega)
    unfold mtb at *
    by_cases q : S.testBit i = true
    · rw [if_pos q, h2 q]; omega
    · rw [if_neg q]; omega
theorem mwt_sub {S t : Nat} {y : Nat → Nat} (hy : ∀ j, y j = 0 ∨ y j = 1) : ∀ {i : Nat}, (∀ j, j < i → S.testBit j = true → y j = 1) → mwt (mup1 y) (mwp1 y t) S i = (t - 1) ^ (mct y i - mct (mtb S) i) := by
  intro i
  induction i with
  | zero => intro _; rfl
  | succ i ih =>
    intro h
    have hl := mct_le (S := S) (y := y) (i := i) (fun j hj => h j (by omega))
    rw [mwt_s, ih (fun j hj => h j (by omega)), mct_s, mct_s]
    by_cases q : S.testBit i = true
    · have e1 : mtb S i = 1 := if_pos q
      have e2 : mup1 y i = 1 := if_pos (h i (by omega) q)
      rw [if_pos q, e1, e2, h i (by omega) q, Nat.mul_one]
      congr 1
      omega
    · have e1 : mtb S i = 0 := if_neg q
      rw [if_neg q, e1]
      rcases hy i with e | e
      · have e2 : mwp1 y t i = 1 := if_neg (by omega)
        rw [e2, e, Nat.mul_one]
        rfl
      · have e2 : mwp1 y t i = t - 1 := if_pos e
        rw [e2, e, ← Nat.pow_succ]
        congr 1
        omega
theorem mwt_no {S t : Nat} {y : Nat → Nat} {j : Nat} (hj : S.testBit j = true) (hy : y j ≠ 1) : ∀ {i : Nat}, j < i → mwt (mup1 y) (mwp1 y t) S i = 0 := by
  intro i
  induction i with
  | zero => intro h; omega
  | succ i ih =>
    intro h
    rw [mwt_s]
    by_cases e : j = i
    · subst e
      rw [if_pos hj, show mup1 y j = 0 from if_neg hy, Nat.mul_zero]
    · rw [ih (by omega), Nat.zero_mul]
/-- the bits of who may look round -/
def mal (y : Nat → Nat) : Nat → Nat
  | 0 => 0
  | i + 1 => mal y i ||| (if y i = 1 then 2 ^ i else 0)
theorem mal_s (y : Nat → Nat) (i : Nat) : mal y (i + 1) = mal y i ||| (if y i = 1 then 2 ^ i else 0) := rfl
theorem mal_lt (y : Nat → Nat) : ∀ i, mal y i < 2 ^ i := by
  intro i
  induction i with
  | zero => exact Nat.one_pos
  | succ i ih =>
    rw [mal_s]
    refine Nat.or_lt_two_pow ?_ ?_
    · rw [Nat.pow_succ]; omega
    · split
      · exact Nat.pow_lt_pow_right (by decide) (by omega)
      · exact Nat.two_pow_pos _
theorem mal_bit (y : Nat → Nat) (j : Nat) : ∀ i, (mal y i).testBit j = decide (j < i ∧ y j = 1) := by
  intro i
  induction i with
  | zero => show Nat.testBit 0 j = _; rw [Nat.zero_testBit]; symm; exact decide_eq_false (fun z => by omega)
  | succ i ih =>
    rw [mal_s, Nat.testBit_or, ih]
    by_cases q : y i = 1
    · rw [if_pos q, Nat.testBit_two_pow]
      by_cases e : i = j
      · subst e
        rw [decide_eq_true (show i = i from rfl), decide_eq_true (show i < i + 1 ∧ y i = 1 from ⟨by omega, q⟩), Bool.or_true]
      · rw [decide_eq_false e, Bool.or_false]
        congr 1
        apply propext
        constructor
        · exact fun z => ⟨by omega, z.2⟩
        · exact fun z => ⟨by omega, z.2⟩
    · rw [if_neg q, Nat.zero_testBit, Bool.or_false]
      congr 1
      apply propext
      constructor
      · exact fun z => ⟨by omega, z.2⟩
      · exact fun z => ⟨by have : j ≠ i := (fun e => q (e ▸ z.2)); omega, z.2⟩
theorem mpop_ct (S : Nat) (hS : S < 256) : mpop (S : Int) = ((mct (mtb S) 8 : Nat) : Int) := by
  have e : ∀ n, msum (mbit (S : Int)) n = ((mct (mtb S) n : Nat) : Int) := by
    intro n
    induction n with
    | zero => rfl
    | succ n ih =>
      show msum (mbit (S : Int)) n + mbit (S : Int) n = _
      rw [ih, mct_s, mbit_test]
      unfold mtb
      push_cast
      split <;> rfl
  have z : ∀ j, 8 ≤ j → mtb S j = 0 := fun j hj => if_neg (by rw [Nat.testBit_lt_two_pow (Nat.lt_of_lt_of_le hS (show (2 : Nat) ^ 8 ≤ 2 ^ j from Nat.pow_le_pow_right (by decide) hj))]; exact Bool.false_ne_true)
  unfold mpop
  rw [e 10, mct_s, mct_s, z 8 (by omega), z 9 (by omega), Nat.add_zero]
theorem mct_al (y : Nat → Nat) (hy : ∀ j, y j = 0 ∨ y j = 1) (p : Nat) : ∀ n, n ≤ p → mct (mtb (mal y p)) n = mct y n := by
  intro n
  induction n with
  | zero => intro _; rfl
  | succ n ih =>
    intro h
    rw [mct_s, mct_s, ih (by omega)]
    unfold mtb
    rw [mal_bit]
    rcases hy n with e | e
    · rw [if_neg (by simp [e]), e]
    · rw [if_pos (by simp [e]; omega), e]
theorem mct_ge (S : Nat) {p : Nat} (hS : S < 2 ^ p) : ∀ k, mct (mtb S) (p + k) = mct (mtb S) p := by
  intro k
  induction k with
  | zero => rfl
  | succ k ih =>
    rw [← Nat.add_assoc, mct_s, ih]
    have : mtb S (p + k) = 0 := if_neg (by rw [Nat.testBit_lt_two_pow (Nat.lt_of_lt_of_le hS (Nat.pow_le_pow_right (by decide) (by omega)))]; exact Bool.false_ne_true)
    omega
/-- a set within those who may look round is no greater number -/
theorem msub_le {S A : Nat} (h : ∀ j, S.testBit j = true → A.testBit j = true) : S ≤ A := by
  have e : S &&& A = S := by
    apply Nat.eq_of_testBit_eq
    intro j
    rw [Nat.testBit_and]
    cases hs : S.testBit j with
    | false => rfl
    | true => rw [h j hs]; rfl
  rw [← e]
  exact Nat.and_le_right
theorem mzand_sub {S A : Nat} (hS : S < 256) (hA : A < 256) : zand (S : Int) (zxor (A : Int) (-1)) = 0 ↔ ∀ j, S.testBit j = true → A.testBit j = true := by
  have e : zand (S : Int) (zxor (A : Int) (-1)) = (BitVec.ofNat 32 S &&& ~~~ BitVec.ofNat 32 A).toInt := by
    unfold zand zxor
    rw [Int32.ofInt_toInt]
    show ((Int32.ofInt (S : Int)).toBitVec &&& ((Int32.ofInt (A : Int)).toBitVec ^^^ (Int32.ofInt (-1)).toBitVec)).toInt = _
    have e1 : (Int32.ofInt (S : Int)).toBitVec = BitVec.ofNat 32 S := by rw [Int32.ofInt_eq_ofNat]; rfl
    have e2 : (Int32.ofInt (A : Int)).toBitVec = BitVec.ofNat 32 A := by rw [Int32.ofInt_eq_ofNat]; rfl
    have e3 : (Int32.ofInt (-1)).toBitVec = BitVec.allOnes 32 := by decide
    rw [e1, e2, e3, BitVec.xor_allOnes]
  rw [e]
  constructor
  · intro h j hj
    have h0 : BitVec.ofNat 32 S &&& ~~~ BitVec.ofNat 32 A = 0#32 := BitVec.eq_of_toInt_eq (by rw [h]; rfl)
    have hj32 : j < 32 := by
      by_cases q : j < 32
      · exact q
      · rw [Nat.testBit_lt_two_pow (Nat.lt_of_lt_of_le hS (show (2 : Nat) ^ 8 ≤ 2 ^ j from Nat.pow_le_pow_right (by decide) (by omega)))] at hj
        exact absurd hj Bool.false_ne_true
    have h1 := congrArg (fun b => b.getLsbD j) h0
    have hs : (BitVec.ofNat 32 S).getLsbD j = true := by rw [BitVec.getLsbD_ofNat, hj, decide_eq_true hj32]; rfl
    have ha : (BitVec.ofNat 32 A).getLsbD j = A.testBit j := by rw [BitVec.getLsbD_ofNat, decide_eq_true hj32, Bool.true_and]
    have h2 : (BitVec.ofNat 32 S &&& ~~~ BitVec.ofNat 32 A).getLsbD j = false := by rw [h0]; exact BitVec.getLsbD_zero
    rw [BitVec.getLsbD_and, BitVec.getLsbD_not, hs, ha, decide_eq_true hj32, Bool.true_and, Bool.true_and] at h2
    cases hA : A.testBit j with
    | true => rfl
    | false => rw [hA] at h2; exact absurd h2 (by decide)
  · intro h
    have h0 : BitVec.ofNat 32 S &&& ~~~ BitVec.ofNat 32 A = 0#32 := by
      apply BitVec.eq_of_getLsbD_eq
      intro j hj
      have hs : (BitVec.ofNat 32 S).getLsbD j = S.testBit j := by rw [BitVec.getLsbD_ofNat, decide_eq_true hj, Bool.true_and]
      have ha : (BitVec.ofNat 32 A).getLsbD j = A.testBit j := by rw [BitVec.getLsbD_ofNat, decide_eq_true hj, Bool.true_and]
      rw [BitVec.getLsbD_and, BitVec.getLsbD_not, hs, ha, decide_eq_true hj, Bool.true_and, BitVec.getLsbD_zero]
      cases hS2 : S.testBit j with
      | false => rfl
      | true => rw [h j hS2]; rfl
    rw [h0]
    rfl
