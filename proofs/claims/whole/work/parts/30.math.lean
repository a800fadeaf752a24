/-! what the coach is: people, hour, kinds, figures, tips, blocks; what each rule says of it -/
abbrev zK : Type := Nat × Int × (Nat → Int) × (Nat → Int) × (Nat → Int) × (Nat → Int)
abbrev Kst (K : zK) (t : Nat → Int) : zK := (K.1, K.2.1, K.2.2.1, K.2.2.2.1, t, K.2.2.2.2.2)
def mN (h : Int) : Int := if 22 ≤ h ∨ h ≤ 5 then 1 else 0
def mknees (k f : Int) : Int := if k = 2 then 6 + f / 3 else if k = 3 then 1 else if k = 6 then 0 else if k = 7 then 7 + f / 3 else 2
def mwant (k f a n : Int) : Int := if k = 1 then (if n = 0 then a else 10) else if k = 2 then a + 2 else if k = 3 then f else if k = 4 then a / 2 else if k = 5 then (if a / 2 - 1 < 0 then 0 else a / 2 - 1) else if k = 6 then 0 else if k = 7 then 0 else a
def mworth (k f n : Int) : Int := if k = 1 then (if n = 0 then 1 else 3) else if k = 2 then f / 2 + 1 else if k = 3 then 0 else if k = 6 then 0 else if k = 7 then f / 2 else 1
def mbit (B : Int) (r : Nat) : Int := B / 2 ^ r % 2
def mcan (K : zK) (r : Nat) : Int := if r + 1 < K.1 ∧ K.2.2.2.2.2 r = 0 then (if 10 - mknees (K.2.2.1 (r + 1)) (K.2.2.2.1 (r + 1)) < 0 then 0 else 10 - mknees (K.2.2.1 (r + 1)) (K.2.2.2.1 (r + 1))) else 0
def mwo (K : zK) (r : Nat) : Int := mworth (K.2.2.1 r) (K.2.2.2.1 r) (mN K.2.1)
def mah (t : Nat → Int) (r : Nat) : Int := if r = 0 then 0 else t (r - 1)
def mroom (K : zK) (r : Nat) : Int := 20 + K.2.2.2.2.1 r - mah K.2.2.2.2.1 r
def mjoy (K : zK) (r : Nat) : Int := mwo K r * (K.2.2.2.2.1 r - mah K.2.2.2.2.1 r)
def mnew (K : zK) (t : Nat → Int) (r : Nat) : Int := if mcan K r < mwant (K.2.2.1 r) (K.2.2.2.1 r) (mah t r) (mN K.2.1) then mcan K r else mwant (K.2.2.1 r) (K.2.2.2.1 r) (mah t r) (mN K.2.1)
def mrt (K : zK) (t : Nat → Int) : Nat → Int := fun r => if r < K.1 then mnew K t r else t r
def mround (K : zK) : zK := Kst K (mrt K K.2.2.2.2.1)
def mrounds : Nat → zK → zK
  | 0, K => K
  | n + 1, K => mrounds n (mround K)
def msum (f : Nat → Int) : Nat → Int
  | 0 => 0
  | n + 1 => msum f n + f n
def mOk (K : zK) : Prop := K.1 ≤ 8 ∧ (0 ≤ K.2.1 ∧ K.2.1 ≤ 23) ∧ (∀ r, r < 8 → 0 ≤ K.2.2.1 r ∧ K.2.2.1 r ≤ 7) ∧ (∀ r, r < 8 → 0 ≤ K.2.2.2.1 r ∧ K.2.2.2.1 r ≤ 9) ∧ (∀ r, r < 8 → 0 ≤ K.2.2.2.2.1 r ∧ K.2.2.2.2.1 r ≤ 10) ∧ ∀ r, r < 8 → (K.2.2.2.2.2 r = 0 ∨ K.2.2.2.2.2 r = 1) ∧ (K.1 ≤ r → K.2.2.2.2.2 r = 0) ∧ (K.2.2.2.2.2 r = 1 → K.2.2.2.2.1 r = 0)
/-- the class's coach at c -/
def AbsC (σ : zS) (c : Nat) (K : zK) : Prop := σ c 0 = (K.1 : Int) ∧ σ c 1 = K.2.1 ∧ (∀ r, r < 8 → σ (c + 1) r = K.2.2.1 r) ∧ (∀ r, r < 8 → σ (c + 2) r = K.2.2.2.1 r) ∧ (∀ r, r < 8 → σ (c + 3) r = K.2.2.2.2.1 r) ∧ (0 ≤ σ c 3 ∧ σ c 3 < 256) ∧ ∀ r, r < 8 → mbit (σ c 3) r = K.2.2.2.2.2 r
/-- the reference's coach in the array a -/
def AbsM (σ : zS) (a : Nat) (K : zK) : Prop := σ a 0 = (K.1 : Int) ∧ σ a 1 = K.2.1 ∧ (∀ r, r < 8 → σ a (3 + 4 * r) = K.2.2.1 r) ∧ (∀ r, r < 8 → σ a (4 + 4 * r) = K.2.2.2.1 r) ∧ (∀ r, r < 8 → σ a (5 + 4 * r) = K.2.2.2.2.1 r) ∧ ∀ r, r < 8 → σ a (6 + 4 * r) = K.2.2.2.2.2 r
/-- the arrays of the reference that hold a coach -/
def zAr (a : Nat) : Prop := a = 37 ∨ a = 38 ∨ a = 39 ∨ a = 40
theorem zAr_k {a : Nat} (h : zAr a) : zkd a = 4 := by rcases h with rfl | rfl | rfl | rfl <;> rfl
theorem zAr_n {a : Nat} (h : zAr a) : zln a = 35 := by rcases h with rfl | rfl | rfl | rfl <;> rfl
theorem zAr_41 {a : Nat} (h : zAr a) : a ≠ 41 := by rcases h with rfl | rfl | rfl | rfl <;> decide
/-- nothing but the places ps has changed -/
def zFr (ps : List Nat) (σ σ' : zS) : Prop := ∀ q, q ∉ ps → σ' q = σ q
theorem zFr_rf (ps : List Nat) (σ : zS) : zFr ps σ σ := fun _ _ => rfl
theorem zFr_tr {ps : List Nat} {a b c : zS} (h1 : zFr ps a b) (h2 : zFr ps b c) : zFr ps a c := fun q hq => (h2 q hq).trans (h1 q hq)
theorem zFr_mono {ps qs : List Nat} {a b : zS} (h : zFr ps a b) (hs : ∀ q, q ∈ ps → q ∈ qs) : zFr qs a b := fun q hq => h q fun e => hq (hs q e)
theorem zFr_up {ps : List Nat} {σ : zS} {q i : Nat} {v : Int} (h : q ∈ ps) : zFr ps σ (zup σ q i v) := fun x hx => zup_ne fun e => hx (e ▸ h)
theorem zoS (v : zV) (S : List zV) : (some v).toList ++ S = v :: S := rfl
theorem zoN (S : List zV) : (none : Option zV).toList ++ S = S := rfl
theorem znat (n : Nat) : ((n : Int)).toNat = n := rfl
theorem znat1 (n : Nat) : ((n : Int) + 1).toNat = n + 1 := rfl
theorem zpm1 (n : Nat) : ((n : Int) + 1) - 1 = n := by omega
theorem zix_of {n : Nat} {x : Int} (h0 : 0 ≤ x) (h : x < n) : ∃ i : Nat, x = i ∧ i < n := ⟨x.toNat, by omega, by omega⟩
theorem mbit_dec : ∀ B : Nat, B < 256 → ∀ r : Nat, r < 8 → zand (zshr (B : Int) (r : Int)) 1 = mbit (B : Int) r := by decide +kernel
theorem mbit_is {B : Int} (h0 : 0 ≤ B) (h1 : B < 256) {r : Nat} (hr : r < 8) : zand (zshr B (r : Int)) 1 = mbit B r := by
  obtain ⟨n, rfl⟩ := Int.eq_ofNat_of_zero_le h0
  exact mbit_dec n (by omega) r hr
theorem mbit_01 (B : Int) (r : Nat) : mbit B r = 0 ∨ mbit B r = 1 := by unfold mbit; omega
theorem mknees_rng {k f : Int} (h0 : 0 ≤ f) (h1 : f ≤ 9) : 0 ≤ mknees k f ∧ mknees k f ≤ 10 := by unfold mknees; repeat' split <;> omega
theorem mN_01 (h : Int) : mN h = 0 ∨ mN h = 1 := by unfold mN; split <;> omega
theorem mworth_rng {k f n : Int} (h0 : 0 ≤ f) (h1 : f ≤ 9) : 0 ≤ mworth k f n ∧ mworth k f n ≤ 5 := by unfold mworth; repeat' split <;> omega
theorem mwant_rng {k f a n : Int} (h0 : 0 ≤ f) (h1 : f ≤ 9) (h2 : 0 ≤ a) (h3 : a ≤ 10) : 0 ≤ mwant k f a n ∧ mwant k f a n ≤ 12 := by unfold mwant; repeat' split <;> omega
theorem mcan_rng {K : zK} (h : mOk K) {r : Nat} (hr : r < 8) : 0 ≤ mcan K r ∧ mcan K r ≤ 10 := by
  unfold mcan
  split
  · rename_i h1
    have := mknees_rng (k := K.2.2.1 (r + 1)) (h.2.2.2.1 (r + 1) (by have := h.1; omega)).1 (h.2.2.2.1 (r + 1) (by have := h.1; omega)).2
    split <;> omega
  · omega
theorem mah_rng {K : zK} (h : mOk K) {r : Nat} (hr : r < 8) : 0 ≤ mah K.2.2.2.2.1 r ∧ mah K.2.2.2.2.1 r ≤ 10 := by
  unfold mah
  split
  · omega
  · exact h.2.2.2.2.1 (r - 1) (by omega)
theorem mnew_rng {K : zK} (h : mOk K) {t : Nat → Int} {r : Nat} (hr : r < 8) (ha : 0 ≤ mah t r ∧ mah t r ≤ 10) : 0 ≤ mnew K t r ∧ mnew K t r ≤ 10 := by
  have h1 := mcan_rng h hr
  have h2 := mwant_rng (k := K.2.2.1 r) (n := mN K.2.1) (h.2.2.2.1 r hr).1 (h.2.2.2.1 r hr).2 ha.1 ha.2
  unfold mnew
  split <;> omega
theorem mround_ok {K : zK} (h : mOk K) : mOk (mround K) := by
  refine ⟨h.1, h.2.1, h.2.2.1, h.2.2.2.1, fun r hr => ?_, fun r hr => ⟨(h.2.2.2.2.2 r hr).1, (h.2.2.2.2.2 r hr).2.1, fun e => ?_⟩⟩
  · show 0 ≤ mrt K K.2.2.2.2.1 r ∧ mrt K K.2.2.2.2.1 r ≤ 10
    unfold mrt
    split
    · exact mnew_rng h hr (mah_rng h hr)
    · exact h.2.2.2.2.1 r hr
  · show mrt K K.2.2.2.2.1 r = 0
    have e : K.2.2.2.2.2 r = 1 := e
    unfold mrt
    split
    · have e0 : mcan K r = 0 := by unfold mcan; rw [if_neg (fun q => by omega)]
      have ha := mah_rng h hr
      have hw := mwant_rng (k := K.2.2.1 r) (n := mN K.2.1) (h.2.2.2.1 r hr).1 (h.2.2.2.1 r hr).2 ha.1 ha.2
      unfold mnew
      rw [e0]
      split <;> omega
    · exact (h.2.2.2.2.2 r hr).2.2 e
theorem mrounds_ok {K : zK} (h : mOk K) (n : Nat) : mOk (mrounds n K) := by
  induction n generalizing K with
  | zero => exact h
  | succ n ih => exact ih (mround_ok h)
theorem mrounds_succ (n : Nat) (K : zK) : mrounds (n + 1) K = mround (mrounds n K) := by
  induction n generalizing K with
  | zero => rfl
  | succ n ih => exact ih (mround K)
theorem mwo_rng {K : zK} (h : mOk K) {r : Nat} (hr : r < 8) : 0 ≤ mwo K r ∧ mwo K r ≤ 5 := mworth_rng (h.2.2.2.1 r hr).1 (h.2.2.2.1 r hr).2
theorem mjoy_rng {K : zK} (h : mOk K) {r : Nat} (hr : r < 8) : -50 ≤ mjoy K r ∧ mjoy K r ≤ 50 := by
  have h1 := mwo_rng h hr
  have h2 := mah_rng h hr
  have h3 := h.2.2.2.2.1 r hr
  unfold mjoy
  have hy : -10 ≤ K.2.2.2.2.1 r - mah K.2.2.2.2.1 r ∧ K.2.2.2.2.1 r - mah K.2.2.2.2.1 r ≤ 10 := by omega
  generalize mwo K r = w at h1 ⊢
  generalize K.2.2.2.2.1 r - mah K.2.2.2.2.1 r = y at hy ⊢
  have hw : w = 0 ∨ w = 1 ∨ w = 2 ∨ w = 3 ∨ w = 4 ∨ w = 5 := by omega
  rcases hw with rfl | rfl | rfl | rfl | rfl | rfl <;> omega
theorem msum_rng {f : Nat → Int} {a b : Int} (n : Nat) (h : ∀ r, r < n → a ≤ f r ∧ f r ≤ b) : n * a ≤ msum f n ∧ msum f n ≤ n * b := by
  induction n with
  | zero => simp [msum]
  | succ n ih =>
    have h1 := ih fun r hr => h r (by omega)
    have h2 := h n (by omega)
    unfold msum
    rw [show ((n + 1 : Nat) : Int) = (n : Int) + 1 from rfl, Int.add_mul, Int.add_mul]
    omega
theorem msum_congr {f g : Nat → Int} {n : Nat} (h : ∀ r, r < n → f r = g r) : msum f n = msum g n := by
  induction n with
  | zero => rfl
  | succ n ih => unfold msum; rw [ih fun r hr => h r (by omega), h n (by omega)]
theorem zcm1 (n : Nat) : ((n + 1 : Nat) : Int) - 1 = n := by omega
theorem zof0 (r : Nat) : ((3 + 4 * (r : Int)) + 0).toNat = 3 + 4 * r := by omega
theorem zof1 (r : Nat) : ((3 + 4 * (r : Int)) + 1).toNat = 4 + 4 * r := by omega
theorem zof2 (r : Nat) : ((3 + 4 * (r : Int)) + 2).toNat = 5 + 4 * r := by omega
theorem zof3 (r : Nat) : ((3 + 4 * (r : Int)) + 3).toNat = 6 + 4 * r := by omega
theorem zofa0 (r : Nat) : ((3 + 4 * ((r : Int) + 1)) + 0).toNat = 3 + 4 * (r + 1) := by omega
theorem zofa1 (r : Nat) : ((3 + 4 * ((r : Int) + 1)) + 1).toNat = 4 + 4 * (r + 1) := by omega
def mfix (K : zK) : Prop := ∀ r, r < K.1 → mrt K K.2.2.2.2.1 r = K.2.2.2.2.1 r
theorem mfix_dec (K : zK) : mfix K ∨ ¬ mfix K := Classical.em _
theorem mfix_eq {K : zK} (h : mfix K) : mround K = K := by
  have e : mrt K K.2.2.2.2.1 = K.2.2.2.2.1 := by
    funext r
    by_cases hr : r < K.1
    · exact h r hr
    · unfold mrt; rw [if_neg hr]
  unfold mround Kst
  rw [e]
theorem mfix_rounds {K : zK} (h : mfix K) (n : Nat) : mrounds n K = K := by
  induction n with
  | zero => rfl
  | succ n ih => show mrounds n (mround K) = K; rw [mfix_eq h, ih]
noncomputable def mstill (K : zK) : Nat → Nat
  | 0 => 0
  | n + 1 => @ite _ (mfix K) (Classical.propDecidable _) 0 (1 + mstill (mround K) n)
theorem AbsC_fr {σ σ' : zS} {c : Nat} {K : zK} (h : AbsC σ c K) (h0 : σ' c = σ c) (h1 : σ' (c + 1) = σ (c + 1)) (h2 : σ' (c + 2) = σ (c + 2)) (h3 : σ' (c + 3) = σ (c + 3)) : AbsC σ' c K := by
  unfold AbsC at h ⊢; rw [h0, h1, h2, h3]; exact h
theorem AbsC_tip {σ : zS} {c : Nat} {K : zK} (h : AbsC σ c K) {r : Nat} {v : Int} : AbsC (zup σ (c + 3) r v) c (Kst K (fun j => if j = r then v else K.2.2.2.2.1 j)) := by
  obtain ⟨a, b, e1, e2, e3, e4, e5⟩ := h
  have n0 : c ≠ c + 3 := by omega
  have n1 : c + 1 ≠ c + 3 := by omega
  have n2 : c + 2 ≠ c + 3 := by omega
  refine ⟨?_, ?_, ?_, ?_, ?_, ?_, ?_⟩
  · rw [zup_ne n0]; exact a
  · rw [zup_ne n0]; exact b
  · rw [zup_ne n1]; exact e1
  · rw [zup_ne n2]; exact e2
  · intro j hj
    by_cases e : j = r
    · subst e; rw [zup_at]; exact (if_pos rfl).symm
    · rw [zup_ix e, e3 j hj]; exact (if_neg e).symm
  · rw [zup_ne n0]; exact e4
  · rw [zup_ne n0]; exact e5
theorem AbsC_cong {σ : zS} {c : Nat} {K : zK} {t : Nat → Int} (h : AbsC σ c K) (ht : ∀ r, r < 8 → K.2.2.2.2.1 r = t r) : AbsC σ c (Kst K t) := by
  obtain ⟨a, b, e1, e2, e3, e4, e5⟩ := h
  exact ⟨a, b, e1, e2, fun r hr => (e3 r hr).trans (ht r hr), e4, e5⟩
theorem AbsM_cong {σ : zS} {c : Nat} {K : zK} {t : Nat → Int} (h : AbsM σ c K) (ht : ∀ r, r < 8 → K.2.2.2.2.1 r = t r) : AbsM σ c (Kst K t) := by
  obtain ⟨a, b, e1, e2, e3, e5⟩ := h
  exact ⟨a, b, e1, e2, fun r hr => (e3 r hr).trans (ht r hr), e5⟩
theorem AbsM_fr {σ σ' : zS} {a : Nat} {K : zK} (h : AbsM σ a K) (h0 : σ' a = σ a) : AbsM σ' a K := by
  unfold AbsM at h ⊢; rw [h0]; exact h
theorem AbsM_tip {σ : zS} {a : Nat} {K : zK} (h : AbsM σ a K) {r : Nat} {v : Int} : AbsM (zup σ a (5 + 4 * r) v) a (Kst K (fun j => if j = r then v else K.2.2.2.2.1 j)) := by
  obtain ⟨e0, b, e1, e2, e3, e5⟩ := h
  refine ⟨?_, ?_, ?_, ?_, ?_, ?_⟩
  · rw [zup_ix (by omega)]; exact e0
  · rw [zup_ix (by omega)]; exact b
  · intro j hj; rw [zup_ix (by omega)]; exact e1 j hj
  · intro j hj; rw [zup_ix (by omega)]; exact e2 j hj
  · intro j hj
    by_cases e : j = r
    · subst e; rw [zup_at]; exact (if_pos rfl).symm
    · rw [zup_ix (by omega), e3 j hj]; exact (if_neg e).symm
  · intro j hj; rw [zup_ix (by omega)]; exact e5 j hj
theorem zam1 (n : Int) : n + (-1) = n - 1 := by omega
theorem mnew_def (K : zK) (t : Nat → Int) (r : Nat) : mnew K t r = if mcan K r < mwant (K.2.2.1 r) (K.2.2.2.1 r) (mah t r) (mN K.2.1) then mcan K r else mwant (K.2.2.1 r) (K.2.2.2.1 r) (mah t r) (mN K.2.1) := rfl
theorem AbsC_cong2 {σ : zS} {c : Nat} {K : zK} {t t' : Nat → Int} (h : AbsC σ c (Kst K t)) (ht : ∀ r, r < 8 → t r = t' r) : AbsC σ c (Kst K t') := AbsC_cong (K := Kst K t) h ht
theorem AbsM_cong2 {σ : zS} {c : Nat} {K : zK} {t t' : Nat → Int} (h : AbsM σ c (Kst K t)) (ht : ∀ r, r < 8 → t r = t' r) : AbsM σ c (Kst K t') := AbsM_cong (K := Kst K t) h ht
