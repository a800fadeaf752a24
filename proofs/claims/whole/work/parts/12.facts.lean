/-! numbers: Int32, Int64 and Int -/
theorem nrm_rng (z : Int) : -2147483648 ≤ nrm z ∧ nrm z < 2147483648 := by unfold nrm; omega
theorem nrm_id {z : Int} (h1 : -2147483648 ≤ z) (h2 : z < 2147483648) : nrm z = z := by unfold nrm; omega
theorem nrm_nrm (z : Int) : nrm (nrm z) = nrm z := nrm_id (nrm_rng z).1 (nrm_rng z).2
theorem nrL_id {z : Int} (h1 : -9223372036854775808 ≤ z) (h2 : z < 9223372036854775808) : nrL z = z := by unfold nrL; omega
theorem zI_toInt (a : Int) : (Int32.ofInt a).toInt = nrm a := by
  rw [Int32.toInt_ofInt]
  unfold nrm
  rw [show (Int32.size : Nat) = 4294967296 from rfl]
  unfold Int.bmod
  dsimp only
  split <;> omega
theorem zJ_toInt (a : Int) : (Int64.ofInt a).toInt = nrL a := by
  rw [Int64.toInt_ofInt]
  unfold nrL
  rw [show (Int64.size : Nat) = 18446744073709551616 from rfl]
  unfold Int.bmod
  dsimp only
  split <;> omega
theorem zI_nrm (a : Int) : Int32.ofInt (nrm a) = Int32.ofInt a := by
  apply Int32.toInt_inj.mp
  rw [zI_toInt, zI_toInt, nrm_nrm]
theorem zI_eq {a b : Int} : Int32.ofInt a = Int32.ofInt b ↔ nrm a = nrm b := by rw [← Int32.toInt_inj, zI_toInt, zI_toInt]
theorem zI_lt {a b : Int} : Int32.ofInt a < Int32.ofInt b ↔ nrm a < nrm b := by rw [Int32.lt_iff_toInt_lt, zI_toInt, zI_toInt]
theorem zI_le {a b : Int} : Int32.ofInt a ≤ Int32.ofInt b ↔ nrm a ≤ nrm b := by rw [Int32.le_iff_toInt_le, zI_toInt, zI_toInt]
theorem zJ_eq {a b : Int} : Int64.ofInt a = Int64.ofInt b ↔ nrL a = nrL b := by rw [← Int64.toInt_inj, zJ_toInt, zJ_toInt]
theorem zJ_lt {a b : Int} : Int64.ofInt a < Int64.ofInt b ↔ nrL a < nrL b := by rw [Int64.lt_iff_toInt_lt, zJ_toInt, zJ_toInt]
theorem nrm_0 : nrm 0 = 0 := by decide
theorem zI_0 {a : Int} : Int32.ofInt a = 0 ↔ nrm a = 0 := by
  have h : (0 : Int32) = Int32.ofInt 0 := by decide
  rw [h, zI_eq, nrm_0]
theorem zI_lt0 {a : Int} : Int32.ofInt a < 0 ↔ nrm a < 0 := by
  have h : (0 : Int32) = Int32.ofInt 0 := by decide
  rw [h, zI_lt, nrm_0]
theorem zI_0lt {a : Int} : 0 < Int32.ofInt a ↔ 0 < nrm a := by
  have h : (0 : Int32) = Int32.ofInt 0 := by decide
  rw [h, zI_lt, nrm_0]
theorem zI_le0 {a : Int} : Int32.ofInt a ≤ 0 ↔ nrm a ≤ 0 := by
  have h : (0 : Int32) = Int32.ofInt 0 := by decide
  rw [h, zI_le, nrm_0]
theorem zI_0le {a : Int} : 0 ≤ Int32.ofInt a ↔ 0 ≤ nrm a := by
  have h : (0 : Int32) = Int32.ofInt 0 := by decide
  rw [h, zI_le, nrm_0]
theorem zJ_0 {a : Int} : Int64.ofInt a = 0 ↔ nrL a = 0 := by
  have h : (0 : Int64) = Int64.ofInt 0 := by decide
  rw [h, zJ_eq]
  exact Iff.of_eq (by rw [show nrL 0 = 0 from by decide])
theorem zI_clamp (a : Int) : (Int32.ofInt a).toNatClampNeg = (nrm a).toNat := by rw [← zI_toInt]; rfl
theorem zI_in {a : Int} {n : Nat} (h : zix a n) : vp_in (Int32.ofInt a) n := by
  rw [vp_in_iff, zI_toInt]; exact h
theorem zI_div (a b : Int) : Int32.ofInt ((nrm a).tdiv (nrm b)) = Int32.ofInt a / Int32.ofInt b := by
  apply Int32.toInt_inj.mp
  rw [Int32.toInt_div, zI_toInt a, zI_toInt b, Int32.toInt_ofInt]
theorem zI_mod (a b : Int) : Int32.ofInt ((nrm a).tmod (nrm b)) = Int32.ofInt a - Int32.ofInt a / Int32.ofInt b * Int32.ofInt b := by
  have h : (nrm a).tmod (nrm b) = nrm a - (nrm a).tdiv (nrm b) * nrm b := by
    have := Int.tmod_add_mul_tdiv (nrm a) (nrm b)
    rw [Int.mul_comm] at this
    omega
  rw [h, Int32.ofInt_sub, Int32.ofInt_mul, zI_div, zI_nrm, zI_nrm]
theorem zJ_nrm (a : Int) : Int64.ofInt (nrL a) = Int64.ofInt a := by
  apply Int64.toInt_inj.mp
  rw [zJ_toInt, zJ_toInt]
  unfold nrL; omega
theorem zJ_div (a b : Int) : Int64.ofInt ((nrL a).tdiv (nrL b)) = Int64.ofInt a / Int64.ofInt b := by
  apply Int64.toInt_inj.mp
  rw [Int64.toInt_div, zJ_toInt a, zJ_toInt b, Int64.toInt_ofInt]
theorem zJ_mod (a b : Int) : Int64.ofInt ((nrL a).tmod (nrL b)) = Int64.ofInt a - Int64.ofInt a / Int64.ofInt b * Int64.ofInt b := by
  have h : (nrL a).tmod (nrL b) = nrL a - (nrL a).tdiv (nrL b) * nrL b := by
    have := Int.tmod_add_mul_tdiv (nrL a) (nrL b)
    rw [Int.mul_comm] at this
    omega
  rw [h, Int64.ofInt_sub, Int64.ofInt_mul, zJ_div, zJ_nrm, zJ_nrm]
theorem zI_back (x : Int32) : Int32.ofInt x.toInt = x := Int32.ofInt_toInt x
theorem zI_i2l (a : Int) : (Int32.ofInt a).toInt64 = Int64.ofInt (nrm a) := by
  apply Int64.toInt_inj.mp
  rw [Int32.toInt_toInt64, zI_toInt, zJ_toInt, nrL_id] <;> have := nrm_rng a <;> omega
theorem zI_bipush {n : Int} (h1 : -128 ≤ n) (h2 : n < 128) : (Int8.ofInt n).toInt32 = Int32.ofInt n := by
  apply Int32.toInt_inj.mp
  rw [Int8.toInt_toInt32, zI_toInt, Int8.toInt_ofInt_of_le (by omega) (by omega), nrm_id (by omega) (by omega)]
theorem zI_sipush {n : Int} (h1 : -32768 ≤ n) (h2 : n < 32768) : (Int16.ofInt n).toInt32 = Int32.ofInt n := by
  apply Int32.toInt_inj.mp
  rw [Int16.toInt_toInt32, zI_toInt, Int16.toInt_ofInt_of_le (by omega) (by omega), nrm_id (by omega) (by omega)]
theorem zJ_cmp (a b : Int) : lg_cmp (Int64.ofInt a) (Int64.ofInt b) = Int32.ofInt (if nrL a < nrL b then -1 else if nrL a = nrL b then 0 else 1) := by
  unfold lg_cmp
  simp only [gt_iff_lt, zJ_lt, zJ_eq]
  by_cases h1 : nrL b < nrL a
  · rw [if_pos h1, if_neg (by omega), if_neg (by omega)]; rfl
  · rw [if_neg h1]
    by_cases h2 : nrL a = nrL b
    · rw [if_pos h2, if_neg (by omega), if_pos h2]; rfl
    · rw [if_neg h2, if_pos (by omega)]; rfl
/-! the world of a store -/
abbrev zG : Type := (Nat → Nat) × ClassId × ClassId × ClassId
def zv (ad : Nat → Nat) (v : zV) : Value := match v with
  | .inl a => .int (Int32.ofInt a)
  | .inr (.inl a) => .long (Int64.ofInt a)
  | .inr (.inr none) => .null
  | .inr (.inr (some q)) => .ref (ad q)
def zfs (g : zG) (σ : zS) (q : Nat) : List Value := (List.range (zln q)).map fun i => zv g.1 (zgetf (zkd q) i q σ)
def zcel (g : zG) (σ : zS) (q : Nat) : va_E := if zkd q < 4 then .inr (zkd q, zfs g σ q)
  else if zkd q = 4 then .inl (g.2.1, zln q, .inl fun i => Int32.ofInt (σ q i))
  else if zkd q = 5 then .inl (g.2.2.1, zln q, .inr (.inl fun i => Int64.ofInt (σ q i)))
  else .inl (g.2.2.2, zln q, .inr (.inr (.inr (.inr fun i => (zrf q i).map g.1))))
def zwd (g : zG) (σ : zS) : va_W := (List.range 52).map fun q => (g.1 q, zcel g σ q)
def ztys (g : zG) : List (ClassId × FieldType) := [(g.2.1, .int), (g.2.2.1, .long), (g.2.2.2, .object RX1)]
theorem zkd_lt {q n : Nat} (h : zkd q = n) (hn : n < 9) : q < 52 := by
  apply Decidable.byContradiction
  intro hq
  unfold zkd at h
  rw [List.getD_eq_getElem?_getD, List.getElem?_eq_none (by show 52 ≤ q; omega)] at h
  simp at h
  omega
theorem zwd_get {g : zG} {σ : zS} {q : Nat} (h : q < 52) : (zwd g σ)[q]? = some (g.1 q, zcel g σ q) := by simp [zwd, h]
theorem zcel_congr {g : zG} {σ σ' : zS} {q : Nat} (h : σ' q = σ q) : zcel g σ' q = zcel g σ q := by
  have e : ∀ i, zgetf (zkd q) i q σ' = zgetf (zkd q) i q σ := fun i => by unfold zgetf; rw [h]
  unfold zcel zfs
  simp only [h, e]
theorem zwd_set {g : zG} {σ σ' : zS} {q : Nat} (hne : ∀ x, x ≠ q → σ' x = σ x) : (zwd g σ).set q (g.1 q, zcel g σ' q) = zwd g σ' := by
  apply List.ext_getElem?
  intro i
  rw [List.getElem?_set]
  by_cases hi : i < 52
  · rw [zwd_get hi]
    by_cases h : q = i
    · subst h
      rw [if_pos rfl, if_pos (by simp [zwd, hi]), zwd_get hi]
    · rw [if_neg h, zwd_get hi, zcel_congr (hne i (Ne.symm h))]
  · have e : ∀ s : zS, (zwd g s)[i]? = none := fun s => List.getElem?_eq_none (by simp [zwd]; omega)
    rw [e, e]
    split
    · rw [if_neg (by simp [zwd]; omega)]
    · rfl
theorem zup_ne {σ : zS} {q i : Nat} {v : Int} {x : Nat} (h : x ≠ q) : zup σ q i v x = σ x := by
  funext j; unfold zup; rw [if_neg (fun e => h e.1)]
theorem zup_at {σ : zS} {q i : Nat} {v : Int} : zup σ q i v q i = v := by unfold zup; rw [if_pos ⟨rfl, rfl⟩]
theorem zup_ix {σ : zS} {q i j : Nat} {v : Int} (h : j ≠ i) : zup σ q i v q j = σ q j := by unfold zup; rw [if_neg (fun e => h e.2)]
theorem zln_cls : ∀ q, q < 52 → zkd q < 4 → ∃ r, zcl[zkd q]? = some r ∧ r.2.2 = zln q := by decide +kernel
def zty1 (q f : Nat) : Prop := ((zcl[zkd q]?.map fun r => (r.2.1 f).2.2.2) = some false) ∧ ((zcl[zkd q]?.bind fun r => parseFieldDescriptor (r.2.1 f).2.2.1) = some (if zbo (zkd q) f then .boolean else .int))
theorem zty_a : (List.range 52).all (fun q => !(decide (zkd q < 4)) || (List.range (zln q)).all (fun f => (zrf q f).isSome || decide ((zcl[zkd q]?.map fun r => (r.2.1 f).2.2.2) = some false))) = true := by decide +kernel
theorem zty_b : (List.range 52).all (fun q => !(decide (zkd q < 4)) || (List.range (zln q)).all (fun f => (zrf q f).isSome || decide ((zcl[zkd q]?.bind fun r => parseFieldDescriptor (r.2.1 f).2.2.1) = some (if zbo (zkd q) f then .boolean else .int)))) = true := by decide +kernel
theorem zty_ok (q : Nat) (hq : q < 52) (h4 : zkd q < 4) (f : Nat) (hf : f < zln q) (hr : zrf q f = none) : zty1 q f := by
  have a := List.all_eq_true.mp zty_a q (List.mem_range.mpr hq)
  have b := List.all_eq_true.mp zty_b q (List.mem_range.mpr hq)
  simp only [h4, decide_true, Bool.not_true, Bool.false_or] at a b
  have a2 := List.all_eq_true.mp a f (List.mem_range.mpr hf)
  have b2 := List.all_eq_true.mp b f (List.mem_range.mpr hf)
  simp only [hr, Option.isSome_none, Bool.false_or, decide_eq_true_eq] at a2 b2
  exact ⟨a2, b2⟩
/-! locals -/
def zloc (ad : Nat → Nat) (L : zL) : List (Nat × Value) := (List.range L.length).filterMap fun i => (zget L i).map fun v => (i, zv ad v)
theorem zget_lt {L : zL} {i : Nat} {v : zV} (h : zget L i = some v) : i < L.length := by
  unfold zget at h
  split at h
  · rename_i hs; exact (List.getElem?_eq_some_iff.mp hs).1
  · cases h
theorem zloc_mem {ad : Nat → Nat} {L : zL} {i : Nat} {w : Value} : (i, w) ∈ zloc ad L ↔ ∃ v, zget L i = some v ∧ w = zv ad v := by
  unfold zloc
  simp only [List.mem_filterMap, List.mem_range, Option.map_eq_some_iff, Prod.mk.injEq]
  constructor
  · rintro ⟨j, -, v, hv, rfl, rfl⟩; exact ⟨v, hv, rfl⟩
  · rintro ⟨v, hv, rfl⟩; exact ⟨i, zget_lt hv, v, hv, rfl, rfl⟩
theorem lv_mono {ls : Array Slot} {n : Nat} {l l' : List (Nat × Value)} (h : lv_has ls n l) (hs : ∀ q ∈ l', q ∈ l) : lv_has ls n l' := ⟨h.1, h.2.1, fun q hq => h.2.2 q (hs q hq)⟩
theorem zlv_get {ad : Nat → Nat} {ls : Array Slot} {n : Nat} {L : zL} {i : Nat} {v : zV} (h : lv_has ls n (zloc ad L)) (hv : zget L i = some v) : ls[i]? = some (.val (zv ad v)) := h.2.2 (i, zv ad v) (zloc_mem.mpr ⟨v, hv, rfl⟩)
theorem zget_set {L : zL} {i j : Nat} {o : Option zV} : zget (L.set i o) j = if i = j then (if i < L.length then o else none) else zget L j := by
  unfold zget
  rw [List.getElem?_set]
  by_cases h : i = j
  · subst h
    simp only [if_pos]
    by_cases h2 : i < L.length
    · simp only [if_pos h2]
      cases o <;> rfl
    · simp only [if_neg h2]
  · simp only [if_neg h]
theorem zget_kil {L : zL} {i j : Nat} {v : zV} (h : zget (zkil L i) j = some v) : zget L j = some v ∧ ¬ (j + 1 = i ∧ ∃ x, v = zJ x) := by
  unfold zkil at h
  cases i with
  | zero => exact ⟨h, fun e => by omega⟩
  | succ i =>
    dsimp only at h
    split at h
    · rename_i x hx
      rw [zget_set] at h
      split at h
      · split at h <;> cases h
      · rename_i hne
        exact ⟨h, fun e => hne (by omega)⟩
    · rename_i hx
      refine ⟨h, fun e => ?_⟩
      obtain ⟨e1, x, rfl⟩ := e
      have e2 : j = i := by omega
      subst e2
      unfold zget at h
      split at h
      · rename_i u hu
        obtain rfl := Option.some.inj h
        exact hx x hu
      · cases h
theorem zv_cat (ad : Nat → Nat) (v : zV) : (zv ad v).category = 2 → ∃ x, v = zJ x := by
  intro h
  match v, h with
  | .inl a, h => simp [zv, Value.category] at h
  | .inr (.inl a), h => exact ⟨a, rfl⟩
  | .inr (.inr none), h => simp [zv, Value.category] at h
  | .inr (.inr (some q)), h => simp [zv, Value.category] at h
theorem zlv_set {ad : Nat → Nat} {ls : Array Slot} {n : Nat} {L : zL} {i : Nat} {v : zV} (h : lv_has ls n ((i, zv ad v) :: (zloc ad L).filter (fun q => !(q.1 == i) && !(q.1 + 1 == i && q.2.category == 2)))) : lv_has ls n (zloc ad (zset L i v)) := by
  refine lv_mono h fun q hq => ?_
  obtain ⟨j, w⟩ := q
  obtain ⟨u, hu, rfl⟩ := zloc_mem.mp hq
  unfold zset at hu
  rw [zget_set] at hu
  by_cases e : i = j
  · subst e
    rw [if_pos rfl] at hu
    split at hu
    · obtain rfl := Option.some.inj hu; exact List.mem_cons_self
    · cases hu
  · rw [if_neg e] at hu
    obtain ⟨h1, h2⟩ := zget_kil hu
    refine List.mem_cons_of_mem _ (List.mem_filter.mpr ⟨zloc_mem.mpr ⟨u, h1, rfl⟩, ?_⟩)
    have e1 : (j == i) = false := by simpa using Ne.symm e
    by_cases e2 : j + 1 = i
    · have h3 : ¬ (zv ad u).category = 2 := fun c => h2 ⟨e2, zv_cat ad u c⟩
      have e3 : ((zv ad u).category == 2) = false := by simpa using h3
      simp [e1, e3]
    · have e3 : (j + 1 == i) = false := by simpa using e2
      simp [e1, e3]
theorem zlv_setJ {ad : Nat → Nat} {ls : Array Slot} {n : Nat} {L : zL} {i : Nat} {v : zV} (h : lv_has ls n ((i, zv ad v) :: (zloc ad L).filter (fun q => !(q.1 == i) && (!(q.1 == i + 1) && !(q.1 + 1 == i && q.2.category == 2))))) : lv_has ls n (zloc ad (zsetJ L i v)) := by
  refine lv_mono h fun q hq => ?_
  obtain ⟨j, w⟩ := q
  obtain ⟨u, hu, rfl⟩ := zloc_mem.mp hq
  unfold zsetJ at hu
  rw [zget_set] at hu
  by_cases e : i = j
  · subst e
    rw [if_pos rfl] at hu
    split at hu
    · obtain rfl := Option.some.inj hu; exact List.mem_cons_self
    · cases hu
  · rw [if_neg e, zget_set] at hu
    split at hu
    · split at hu <;> cases hu
    · rename_i hne
      obtain ⟨h1, h2⟩ := zget_kil hu
      refine List.mem_cons_of_mem _ (List.mem_filter.mpr ⟨zloc_mem.mpr ⟨u, h1, rfl⟩, ?_⟩)
      have e1 : (j == i) = false := by simpa using Ne.symm e
      have e4 : (j == i + 1) = false := by simpa using (fun q => hne q.symm : ¬ j = i + 1)
      by_cases e2 : j + 1 = i
      · have h3 : ¬ (zv ad u).category = 2 := fun c => h2 ⟨e2, zv_cat ad u c⟩
        have e3 : ((zv ad u).category == 2) = false := by simpa using h3
        simp [e1, e3, e4]
      · have e3 : (j + 1 == i) = false := by simpa using e2
        simp [e1, e3, e4]
theorem zget_clr {k : zM} {pc : Nat} {L : zL} {j : Nat} {v : zV} (h : zget (zclr k pc L) j = some v) : zget L j = some v := by
  unfold zclr at h
  split at h
  · rename_i is hx
    clear hx
    induction is generalizing L with
    | nil => exact h
    | cons a r ih =>
      have h1 := ih h
      rw [zget_set] at h1
      split at h1
      · split at h1 <;> cases h1
      · exact h1
  · exact h
theorem zlv_clr {ad : Nat → Nat} {ls : Array Slot} {n : Nat} {L : zL} (k : zM) (pc : Nat) (h : lv_has ls n (zloc ad L)) : lv_has ls n (zloc ad (zclr k pc L)) :=
  lv_mono h fun q hq => by
    obtain ⟨j, w⟩ := q
    obtain ⟨u, hu, rfl⟩ := zloc_mem.mp hq
    exact zloc_mem.mpr ⟨u, zget_clr hu, rfl⟩
