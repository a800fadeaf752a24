/-! the text: its bytes, its statements, what they do -/
def mby (w : Nat → Int) (n j : Nat) : Int := if j < n then w j else -1
def mnd (v : Int) : Int := if v = 98 then 1 else if v = 104 then 2 else if v = 112 then 2 else if v = 114 then 2 else if v = 116 then 3 else if v = 120 then 2 else -1
def mfd (b : Nat → Int) : Nat → Nat → Nat
  | 0, j => j
  | k + 1, j => if 48 ≤ b j ∧ b j ≤ 57 then mfd b k (j + 1) else j
theorem mfd_y {b : Nat → Int} {k j : Nat} (h : 48 ≤ b j ∧ b j ≤ 57) : mfd b (k + 1) j = mfd b k (j + 1) := if_pos h
theorem mfd_n {b : Nat → Int} {k j : Nat} (h : ¬ (48 ≤ b j ∧ b j ≤ 57)) : mfd b (k + 1) j = j := if_neg h
theorem mfd_rng (b : Nat → Int) : ∀ k j, j ≤ mfd b k j ∧ mfd b k j ≤ j + k := by
  intro k
  induction k with
  | zero => intro j; exact ⟨Nat.le_refl _, Nat.le_refl _⟩
  | succ k ih =>
    intro j
    by_cases h : 48 ≤ b j ∧ b j ≤ 57
    · rw [mfd_y h]
      have := ih (j + 1)
      omega
    · rw [mfd_n h]
      omega
theorem mfd_all (b : Nat → Int) : ∀ k j, mfd b k j = j + k → ∀ i, j ≤ i → i < j + k → 48 ≤ b i ∧ b i ≤ 57 := by
  intro k
  induction k with
  | zero => intro j _ i h1 h2; omega
  | succ k ih =>
    intro j hj i h1 h2
    by_cases h : 48 ≤ b j ∧ b j ≤ 57
    · rw [mfd_y h] at hj
      by_cases e : i = j
      · subst e; exact h
      · exact ih (j + 1) (by omega) i (by omega) (by omega)
    · rw [mfd_n h] at hj
      omega
theorem mfd_add (b : Nat → Int) (l : Nat) : ∀ k j, mfd b (k + l) j = if mfd b k j < j + k then mfd b k j else mfd b l (j + k) := by
  intro k
  induction k with
  | zero => intro j; rw [Nat.zero_add]; exact (if_neg (Nat.lt_irrefl j)).symm
  | succ k ih =>
    intro j
    rw [show k + 1 + l = k + l + 1 from by omega]
    by_cases h : 48 ≤ b j ∧ b j ≤ 57
    · rw [mfd_y h, mfd_y h, ih, show j + 1 + k = j + (k + 1) from by omega]
    · rw [mfd_n h, mfd_n h, if_pos (by omega)]
def mep (b : Nat → Int) (a : Nat) : Nat := mfd b (mnd (b a)).toNat (a + 1)
def men (b : Nat → Int) (a : Nat) : Nat := a + 1 + (mnd (b a)).toNat
/-- a statement stands at a -/
def mwf (b : Nat → Int) (a : Nat) : Prop := 0 ≤ mnd (b a) ∧ mep b a = men b a ∧ b (men b a) = 59
def mfp (b : Nat → Int) (a : Nat) : Nat := if mnd (b a) < 0 then a else mep b a
theorem mep_rng (b : Nat → Int) (a : Nat) : a + 1 ≤ mep b a ∧ mep b a ≤ men b a := mfd_rng b _ _
theorem mnd_rng (v : Int) : -1 ≤ mnd v ∧ mnd v ≤ 3 := by unfold mnd; repeat' split <;> omega
theorem mnd_case {v : Int} (h : 0 ≤ mnd v) : v = 98 ∨ v = 104 ∨ v = 112 ∨ v = 114 ∨ v = 116 ∨ v = 120 := by
  unfold mnd at h
  by_cases h1 : v = 98
  · exact Or.inl h1
  · rw [if_neg h1] at h
    by_cases h2 : v = 104
    · exact Or.inr (Or.inl h2)
    · rw [if_neg h2] at h
      by_cases h3 : v = 112
      · exact Or.inr (Or.inr (Or.inl h3))
      · rw [if_neg h3] at h
        by_cases h4 : v = 114
        · exact Or.inr (Or.inr (Or.inr (Or.inl h4)))
        · rw [if_neg h4] at h
          by_cases h5 : v = 116
          · exact Or.inr (Or.inr (Or.inr (Or.inr (Or.inl h5))))
          · rw [if_neg h5] at h
            by_cases h6 : v = 120
            · exact Or.inr (Or.inr (Or.inr (Or.inr (Or.inr h6))))
            · rw [if_neg h6] at h
              omega
/-- statements from a on: how many; where the text goes wrong, -1 nowhere -/
def mtx (b : Nat → Int) (n : Nat) : Nat → Nat → Nat × Int
  | 0, _ => (0, -1)
  | f + 1, a => if n ≤ a then (0, -1) else if mnd (b a) < 0 then (0, (a : Int)) else if mep b a < men b a then (0, (mep b a : Int)) else if b (mep b a) = 59 then ((mtx b n f (mep b a + 1)).1 + 1, (mtx b n f (mep b a + 1)).2) else (0, (mep b a : Int))
theorem mtx_s (b : Nat → Int) (n f a : Nat) : mtx b n (f + 1) a = if n ≤ a then (0, -1) else if mnd (b a) < 0 then (0, (a : Int)) else if mep b a < men b a then (0, (mep b a : Int)) else if b (mep b a) = 59 then ((mtx b n f (mep b a + 1)).1 + 1, (mtx b n f (mep b a + 1)).2) else (0, (mep b a : Int)) := rfl
theorem mtx_y {b : Nat → Int} {n f a : Nat} (ha : a < n) (h : mwf b a) : mtx b n (f + 1) a = ((mtx b n f (men b a + 1)).1 + 1, (mtx b n f (men b a + 1)).2) := by
  obtain ⟨h1, h2, h3⟩ := h
  rw [mtx_s, if_neg (by omega), if_neg (by omega), if_neg (by omega), h2, if_pos h3]
theorem mtx_n {b : Nat → Int} {n f a : Nat} (ha : a < n) (h : ¬ mwf b a) : mtx b n (f + 1) a = (0, (mfp b a : Int)) := by
  have hr := mep_rng b a
  unfold mfp
  rw [mtx_s, if_neg (by omega)]
  by_cases h1 : mnd (b a) < 0
  · rw [if_pos h1, if_pos h1]
  · rw [if_neg h1, if_neg h1]
    by_cases h2 : mep b a < men b a
    · rw [if_pos h2]
    · rw [if_neg h2]
      by_cases h3 : b (mep b a) = 59
      · exact absurd ⟨by omega, by omega, by rw [← show mep b a = men b a from by omega]; exact h3⟩ h
      · rw [if_neg h3]
theorem mtx_rng (b : Nat → Int) (n : Nat) : ∀ f a, (mtx b n f a).1 ≤ f ∧ -1 ≤ (mtx b n f a).2 ∧ (mtx b n f a).2 ≤ n + 4 := by
  intro f
  induction f with
  | zero => intro a; show 0 ≤ 0 ∧ (-1 : Int) ≤ -1 ∧ (-1 : Int) ≤ n + 4; omega
  | succ f ih =>
    intro a
    by_cases h0 : n ≤ a
    · rw [mtx_s, if_pos h0]
      show 0 ≤ f + 1 ∧ (-1 : Int) ≤ -1 ∧ (-1 : Int) ≤ n + 4
      omega
    · by_cases h : mwf b a
      · rw [mtx_y (by omega) h]
        have := ih (men b a + 1)
        show (mtx b n f (men b a + 1)).1 + 1 ≤ f + 1 ∧ _
        exact ⟨by omega, this.2⟩
      · rw [mtx_n (by omega) h]
        have h1 := mnd_rng (b a)
        have h2 := mep_rng b a
        have h3 : men b a ≤ a + 4 := by unfold men; omega
        have h4 : mfp b a ≤ a + 4 := by unfold mfp; split <;> omega
        show 0 ≤ f + 1 ∧ (-1 : Int) ≤ (mfp b a : Int) ∧ (mfp b a : Int) ≤ n + 4
        omega
theorem mby_rng {w : Nat → Int} {n : Nat} (hn : n ≤ 100) (hb : ∀ j, j < 100 → -128 ≤ w j ∧ w j ≤ 127) (j : Nat) : -128 ≤ mby w n j ∧ mby w n j ≤ 127 := by
  unfold mby
  split
  · exact hb j (by omega)
  · omega
theorem mby_in {w : Nat → Int} {n j : Nat} (h : 0 ≤ mby w n j) : j < n := by
  unfold mby at h
  by_cases q : j < n
  · exact q
  · rw [if_neg q] at h; omega
/-- a digit's number -/
def mD (b : Nat → Int) (j : Nat) : Nat := (b j - 48).toNat
theorem mD_is {b : Nat → Int} {j : Nat} (h : 48 ≤ b j ∧ b j ≤ 57) : b j - 48 = (mD b j : Int) ∧ mD b j ≤ 9 := by unfold mD; omega
/-- what the statement at a makes of a coach; none: it can't be done -/
def mexe (b : Nat → Int) (a : Nat) (K : zK) (T : Int) : Option (zK × Int) :=
  if b a = 98 then (if mD b (a + 1) < K.1 then some (if K.2.2.2.2.2 (mD b (a + 1)) = 1 then mfree K (mD b (a + 1)) else mblk K ((2 ^ mD b (a + 1) : Nat) : Int), T) else none)
  else if b a = 104 then (if 10 * mD b (a + 1) + mD b (a + 2) ≤ 23 then some ((K.1, ((10 * mD b (a + 1) + mD b (a + 2) : Nat) : Int), K.2.2), T) else none)
  else if b a = 112 then (if K.1 < 8 ∧ mD b (a + 1) ≤ 7 then some (madd K (mD b (a + 1)) (mD b (a + 2)), T) else none)
  else if b a = 114 then (if (1 ≤ 10 * mD b (a + 1) + mD b (a + 2) ∧ 10 * mD b (a + 1) + mD b (a + 2) ≤ 60) ∧ T + ((10 * mD b (a + 1) + mD b (a + 2) : Nat) : Int) ≤ 999 then some (mrounds (10 * mD b (a + 1) + mD b (a + 2)) K, T + ((10 * mD b (a + 1) + mD b (a + 2) : Nat) : Int)) else none)
  else if b a = 116 then (if mD b (a + 1) < K.1 ∧ ((10 * mD b (a + 2) + mD b (a + 3) : Nat) : Int) ≤ mcan K (mD b (a + 1)) then some (Kst K (fun j => if j = mD b (a + 1) then ((10 * mD b (a + 2) + mD b (a + 3) : Nat) : Int) else K.2.2.2.2.1 j), T) else none)
  else (if mD b (a + 1) < K.1 ∧ mD b (a + 2) < K.1 ∧ mD b (a + 1) ≠ mD b (a + 2) then some (mchg K (mD b (a + 1)) (mD b (a + 2)), T) else none)
theorem mtip_ok {K : zK} (hO : mOk K) {r : Nat} (hr : r < K.1) {v : Int} (h0 : 0 ≤ v) (hv : v ≤ mcan K r) : mOk (Kst K (fun j => if j = r then v else K.2.2.2.2.1 j)) := by
  have hp := hO.1
  have hc := mcan_rng hO (r := r) (by omega)
  refine mset_ok hO (fun j hj => ?_) (fun j hj e => ?_)
  · split
    · omega
    · exact hO.2.2.2.2.1 j hj
  · split
    · rename_i ej
      subst ej
      have := mcan_blk e
      omega
    · exact (hO.2.2.2.2.2 j hj).2.2 e
theorem mblk1_ok {K : zK} (hO : mOk K) {r : Nat} (hr : r < K.1) : mOk (mblk K ((2 ^ r : Nat) : Int)) := mblk_ok hO (fun j _ hm => by
  rw [mbit_pow] at hm
  by_cases e : r = j
  · omega
  · rw [if_neg e] at hm; exact absurd hm (by decide))
theorem mexe_ok {b : Nat → Int} {a : Nat} {K K' : zK} {T T' : Int} (hO : mOk K) (hT : 0 ≤ T ∧ T ≤ 999) (h9 : b a = 112 → mD b (a + 2) ≤ 9) (h : mexe b a K T = some (K', T')) : mOk K' ∧ 0 ≤ T' ∧ T' ≤ 999 := by
  have hp := hO.1
  unfold mexe at h
  by_cases c1 : b a = 98
  · rw [if_pos c1] at h
    by_cases c : mD b (a + 1) < K.1
    · rw [if_pos c] at h
      obtain ⟨rfl, rfl⟩ := Prod.mk.inj (Option.some.inj h)
      refine ⟨?_, hT⟩
      split
      · exact mfree_ok hO
      · exact mblk1_ok hO c
    · rw [if_neg c] at h; exact absurd h (by simp)
  · rw [if_neg c1] at h
    by_cases c2 : b a = 104
    · rw [if_pos c2] at h
      by_cases c : 10 * mD b (a + 1) + mD b (a + 2) ≤ 23
      · rw [if_pos c] at h
        obtain ⟨rfl, rfl⟩ := Prod.mk.inj (Option.some.inj h)
        exact ⟨⟨hO.1, ⟨by show 0 ≤ ((10 * mD b (a + 1) + mD b (a + 2) : Nat) : Int); omega, by show ((10 * mD b (a + 1) + mD b (a + 2) : Nat) : Int) ≤ 23; omega⟩, hO.2.2⟩, hT⟩
      · rw [if_neg c] at h; exact absurd h (by simp)
    · rw [if_neg c2] at h
      by_cases c3 : b a = 112
      · rw [if_pos c3] at h
        by_cases c : K.1 < 8 ∧ mD b (a + 1) ≤ 7
        · rw [if_pos c] at h
          obtain ⟨rfl, rfl⟩ := Prod.mk.inj (Option.some.inj h)
          have := h9 c3
          exact ⟨madd_ok hO c.1 ⟨by omega, by omega⟩ ⟨by omega, by omega⟩, hT⟩
        · rw [if_neg c] at h; exact absurd h (by simp)
      · rw [if_neg c3] at h
        by_cases c4 : b a = 114
        · rw [if_pos c4] at h
          by_cases c : (1 ≤ 10 * mD b (a + 1) + mD b (a + 2) ∧ 10 * mD b (a + 1) + mD b (a + 2) ≤ 60) ∧ T + ((10 * mD b (a + 1) + mD b (a + 2) : Nat) : Int) ≤ 999
          · rw [if_pos c] at h
            obtain ⟨rfl, rfl⟩ := Prod.mk.inj (Option.some.inj h)
            exact ⟨mrounds_ok hO _, by omega, c.2⟩
          · rw [if_neg c] at h; exact absurd h (by simp)
        · rw [if_neg c4] at h
          by_cases c5 : b a = 116
          · rw [if_pos c5] at h
            by_cases c : mD b (a + 1) < K.1 ∧ ((10 * mD b (a + 2) + mD b (a + 3) : Nat) : Int) ≤ mcan K (mD b (a + 1))
            · rw [if_pos c] at h
              obtain ⟨rfl, rfl⟩ := Prod.mk.inj (Option.some.inj h)
              exact ⟨mtip_ok hO c.1 (by omega) c.2, hT⟩
            · rw [if_neg c] at h; exact absurd h (by simp)
          · rw [if_neg c5] at h
            by_cases c : mD b (a + 1) < K.1 ∧ mD b (a + 2) < K.1 ∧ mD b (a + 1) ≠ mD b (a + 2)
            · rw [if_pos c] at h
              obtain ⟨rfl, rfl⟩ := Prod.mk.inj (Option.some.inj h)
              exact ⟨mchg_ok hO (by omega) (by omega), hT⟩
            · rw [if_neg c] at h; exact absurd h (by simp)
/-- the statements done one behind the other -/
def mrn (b : Nat → Int) (n : Nat) : Nat → Nat → zK → Int → Option (zK × Int) × Int
  | 0, _, K, T => (some (K, T), 0)
  | f + 1, a, K, T => if n ≤ a then (some (K, T), 0) else match mexe b a K T with
    | none => (none, -2000 - a)
    | some s => mrn b n f (men b a + 1) s.1 s.2
theorem mrn_e {b : Nat → Int} {n f a : Nat} {K : zK} {T : Int} (h : n ≤ a) : mrn b n (f + 1) a K T = (some (K, T), 0) := by
  show (if n ≤ a then _ else _) = _
  rw [if_pos h]
theorem mrn_n {b : Nat → Int} {n f a : Nat} {K : zK} {T : Int} (h : a < n) (he : mexe b a K T = none) : mrn b n (f + 1) a K T = (none, -2000 - (a : Int)) := by
  show (if n ≤ a then _ else _) = _
  rw [if_neg (by omega), he]
theorem mrn_y {b : Nat → Int} {n f a : Nat} {K K' : zK} {T T' : Int} (h : a < n) (he : mexe b a K T = some (K', T')) : mrn b n (f + 1) a K T = mrn b n f (men b a + 1) K' T' := by
  show (if n ≤ a then _ else _) = _
  rw [if_neg (by omega), he]
