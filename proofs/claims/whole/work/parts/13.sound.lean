theorem zb_inv {S : List zV} {f : Int → Int → Option Int} {r : List zV} (h : zb S f = some r) : ∃ b a t v, S = zI b :: zI a :: t ∧ f a b = some v ∧ r = zI v :: t := by
  unfold zb at h
  split at h
  · rename_i b a t
    obtain ⟨v, h1, h2⟩ := Option.map_eq_some_iff.mp h
    exact ⟨b, a, t, v, rfl, h1, h2.symm⟩
  · cases h
theorem zbL_inv {S : List zV} {f : Int → Int → Option Int} {r : List zV} (h : zbL S f = some r) : ∃ b a t v, S = zJ b :: zJ a :: t ∧ f a b = some v ∧ r = zJ v :: t := by
  unfold zbL at h
  split at h
  · rename_i b a t
    obtain ⟨v, h1, h2⟩ := Option.map_eq_some_iff.mp h
    exact ⟨b, a, t, v, rfl, h1, h2.symm⟩
  · cases h
theorem zu_inv {S : List zV} {f : Int → zV} {r : List zV} (h : zu S f = some r) : ∃ a t, S = zI a :: t ∧ r = f a :: t := by
  unfold zu at h
  split at h
  · rename_i a t; exact ⟨a, t, rfl, (Option.some.inj h).symm⟩
  · cases h
theorem zgo_inv {pc pc' : Nat} {L L' : zL} {σ σ' : zS} {o : Option (List zV)} {S' : List zV} (h : zgo pc L σ o = some (pc', L', S', σ')) : o = some S' ∧ pc' = pc ∧ L' = L ∧ σ' = σ := by
  unfold zgo at h
  obtain ⟨v, h1, h2⟩ := Option.map_eq_some_iff.mp h
  cases h2
  exact ⟨h1, rfl, rfl, rfl⟩
theorem zldI_inv {L : zL} {i : Nat} {v : zV} (h : zldI L i = some v) : ∃ a, v = zI a ∧ zget L i = some (zI a) := by
  unfold zldI at h
  split at h
  · rename_i a ha; exact ⟨a, (Option.some.inj h).symm, ha⟩
  · cases h
theorem zldJ_inv {L : zL} {i : Nat} {v : zV} (h : zldJ L i = some v) : ∃ a, v = zJ a ∧ zget L i = some (zJ a) := by
  unfold zldJ at h
  split at h
  · rename_i a ha; exact ⟨a, (Option.some.inj h).symm, ha⟩
  · cases h
theorem zldA_inv {L : zL} {i : Nat} {v : zV} (h : zldA L i = some v) : ∃ a, v = zR a ∧ zget L i = some (zR a) := by
  unfold zldA at h
  split at h
  · rename_i a ha; exact ⟨a, (Option.some.inj h).symm, ha⟩
  · cases h
theorem zstI_inv {n pc i pc' : Nat} {L L' : zL} {S S' : List zV} {σ σ' : zS} (h : zstI n pc i L S σ = some (pc', L', S', σ')) : ∃ a, S = zI a :: S' ∧ i < n ∧ pc' = pc ∧ L' = zset L i (zI a) ∧ σ' = σ := by
  unfold zstI at h
  split at h
  · rename_i a r
    split at h
    · rename_i hi; cases h; exact ⟨a, rfl, hi, rfl, rfl, rfl⟩
    · cases h
  · cases h
theorem zstJ_inv {n pc i pc' : Nat} {L L' : zL} {S S' : List zV} {σ σ' : zS} (h : zstJ n pc i L S σ = some (pc', L', S', σ')) : ∃ a, S = zJ a :: S' ∧ i + 1 < n ∧ pc' = pc ∧ L' = zsetJ L i (zJ a) ∧ σ' = σ := by
  unfold zstJ at h
  split at h
  · rename_i a r
    split at h
    · rename_i hi; cases h; exact ⟨a, rfl, hi, rfl, rfl, rfl⟩
    · cases h
  · cases h
theorem zstA_inv {n pc i pc' : Nat} {L L' : zL} {S S' : List zV} {σ σ' : zS} (h : zstA n pc i L S σ = some (pc', L', S', σ')) : ∃ a, S = zR a :: S' ∧ i < n ∧ pc' = pc ∧ L' = zset L i (zR a) ∧ σ' = σ := by
  unfold zstA at h
  split at h
  · rename_i a r
    split at h
    · rename_i hi; cases h; exact ⟨a, rfl, hi, rfl, rfl, rfl⟩
    · cases h
  · cases h
theorem zjmp_inv {pc t : Nat} {off : Int} (h : zjmp pc off = some t) : (pc : Int) + off = (t : Int) := by
  unfold zjmp at h
  split at h
  · obtain rfl := Option.some.inj h; omega
  · cases h
theorem zbr_inv {pc pc' : Nat} {off : Int} {b : Bool} (h : zbr pc off b = some pc') : ∃ t : Nat, (pc : Int) + off = (t : Int) ∧ pc' = if b then t else pc + 3 := by
  unfold zbr at h
  obtain ⟨t, h1, h2⟩ := Option.map_eq_some_iff.mp h
  exact ⟨t, zjmp_inv h1, h2.symm⟩
theorem zsw_out (x d : Int) : ∀ (l : List Int) (base : Int), (x < base ∨ base + l.length ≤ x) → zsw x base l d = d := by
  intro l
  induction l with
  | nil => intro base _; rfl
  | cons o r ih =>
    intro base h
    rw [List.length_cons] at h
    unfold zsw
    rw [if_neg (by omega)]
    exact ih _ (by omega)
theorem zsw_in (x d : Int) : ∀ (l : List Int) (base : Int), base ≤ x → x < base + l.length → l[(x - base).toNat]? = some (zsw x base l d) := by
  intro l
  induction l with
  | nil => intro base h1 h2; simp at h2; omega
  | cons o r ih =>
    intro base h1 h2
    rw [List.length_cons] at h2
    unfold zsw
    by_cases e : x = base
    · subst e
      rw [if_pos rfl]
      simp
    · rw [if_neg e]
      have := ih (base + 1) (by omega) (by omega)
      rw [← this, show (x - base).toNat = (x - (base + 1)).toNat + 1 from by omega, List.getElem?_cons_succ]
/-! what holds of a frame that runs method k -/
def zXok (g : zG) (A : Nat → Prop) (H0 : Heap) (s : State) (X : zX) : Prop := match X with
  | none => True
  | some x => ∃ xs : Nat → Int32, va_X (g.1 52) x.1 xs s H0 ∧ g.1 52 < H0.size ∧ ¬ A (g.1 52) ∧ ∀ i : Nat, i < x.1 → Int32.ofInt (x.2 i) = xs i
def zCx (p : Program) (R : Room) (s : State) (m : MethodId) (args : Array Value) (c : Code) (k : zM) (g : zG) (D : va_G) (A : Nat → Prop) (H0 : Heap) (X : zX) : Prop :=
  p.tables.exec = Jvm.exec ∧ c.code = k.2.1 ∧ c.maxLocals = k.2.2.1 ∧ s.vm.findClass k.1.cls = some m.cls ∧ (∀ w ∈ zT, w.before args s = true) ∧ (k.2.2.2.2.1 < 6 → k.1.cls = zown k.2.2.2.2.1) ∧
  va_K D zcl (ztys g) s ∧ (∀ σ : zS, va_D A (zwd g σ)) ∧ zXok g A H0 s X
def zSt (g : zG) (D : va_G) (A : Nat → Prop) (H0 : Heap) (nL : Nat) (L : zL) (σ : zS) (ls : Array Slot) (H : Heap) (locs : List Loc) : Prop :=
  lv_has ls nL (zloc g.1 L) ∧ va_P D zcl (zwd g σ) H ∧ va_S A H0 H locs
theorem zct_cls {c i : Nat} {v : Int} (h : zct c i = some v) : c < 6 := by
  match c, h with
  | 0, _ => decide
  | 1, _ => decide
  | 2, _ => decide
  | 3, _ => decide
  | 4, _ => decide
  | 5, _ => decide
  | c + 6, h => simp [zct, zctT] at h
theorem zcL_cls {c i : Nat} {v : Int} (h : zcL c i = some v) : c < 6 := by
  match c, h with
  | 0, _ => decide
  | 1, _ => decide
  | 2, _ => decide
  | 3, _ => decide
  | 4, _ => decide
  | 5, _ => decide
  | c + 6, h => simp [zcL, zcLT] at h
theorem zfl_cls {c i : Nat} {v : Nat × Nat} (h : zfl c i = some v) : c < 6 := by
  match c, h with
  | 0, _ => decide
  | 1, _ => decide
  | 2, _ => decide
  | 3, _ => decide
  | 4, _ => decide
  | c + 5, h => simp [zfl, zflT] at h
theorem zml_cls {c i : Nat} {v : zM × Nat × Nat} (h : zml c i = some v) : c < 6 := by
  match c, h with
  | 0, _ => decide
  | 1, _ => decide
  | 2, _ => decide
  | 3, _ => decide
  | 4, _ => decide
  | c + 5, h => simp [zml, zmlT] at h
theorem zly {ci : Nat} {r : vw_C} (h : zcl[ci]? = some r) : ∀ w ∈ u_ws r.1 r.2.1 r.2.2, w ∈ zT := by
  match ci, h with
  | 0, h => cases h; exact zly_0
  | 1, h => cases h; exact zly_1
  | 2, h => cases h; exact zly_2
  | 3, h => cases h; exact zly_3
  | ci + 4, h => simp [zcl] at h
theorem zty {ci : Nat} {r : vw_C} (h : zcl[ci]? = some r) : ∃ ty0 : Nat → FieldType, (∀ k, k < r.2.2 → parseFieldDescriptor (r.2.1 k).2.2.1 = some (ty0 k)) ∧ ∀ a, a < r.2.2 → ∀ b, b < r.2.2 → a ≠ b → (r.2.1 a).2.1 ≠ (r.2.1 b).2.1 := by
  match ci, h with
  | 0, h => cases h; exact ⟨tyX0, tyX0_ok, nmX0⟩
  | 1, h => cases h; exact ⟨tyX1, tyX1_ok, nmX1⟩
  | 2, h => cases h; exact ⟨tyX2, tyX2_ok, nmX2⟩
  | 3, h => cases h; exact ⟨tyX3, tyX3_ok, nmX3⟩
  | ci + 4, h => simp [zcl] at h
theorem zcel_o {g : zG} {σ : zS} {q ci : Nat} (h : zkd q = ci) (hc : ci < 4) : zcel g σ q = .inr (ci, zfs g σ q) := by
  unfold zcel; rw [if_pos (by omega), h]
theorem zcel_i {g : zG} {σ : zS} {q : Nat} (h : zkd q = 4) : zcel g σ q = .inl (g.2.1, zln q, .inl fun i => Int32.ofInt (σ q i)) := by
  unfold zcel; rw [if_neg (by omega), if_pos h]
theorem zcel_j {g : zG} {σ : zS} {q : Nat} (h : zkd q = 5) : zcel g σ q = .inl (g.2.2.1, zln q, .inr (.inl fun i => Int64.ofInt (σ q i))) := by
  unfold zcel; rw [if_neg (by omega), if_neg (by omega), if_pos h]
theorem zcel_s {g : zG} {σ : zS} {q : Nat} (h : zkd q = 6) : zcel g σ q = .inl (g.2.2.2, zln q, .inr (.inr (.inr (.inr fun i => (zrf q i).map g.1)))) := by
  unfold zcel; rw [if_neg (by omega), if_neg (by omega), if_neg (by omega)]
theorem zwd_put {g : zG} {σ : zS} {q f ci : Nat} {v : Int} (h : zkd q = ci) (hc : ci < 4) (hf : f < zln q) (hr : zrf q f = none) : (zwd g σ).set q (g.1 q, .inr (ci, (zfs g σ q).set f (.int (Int32.ofInt v)))) = zwd g (zup σ q f v) := by
  have e : zfs g (zup σ q f v) q = (zfs g σ q).set f (.int (Int32.ofInt v)) := by
    apply List.ext_getElem?
    intro i
    rw [List.getElem?_set]
    unfold zfs
    by_cases hi : i < zln q
    · simp only [List.getElem?_map, List.getElem?_range hi, Option.map_some, List.length_map, List.length_range]
      by_cases e : f = i
      · subst e
        rw [if_pos rfl, if_pos hi]
        unfold zgetf
        rw [hr]
        show some (Value.int (Int32.ofInt (zup σ q f v q f))) = _
        rw [zup_at]
      · rw [if_neg e]
        unfold zgetf
        split
        · rfl
        · rw [zup_ix (Ne.symm e)]
    · rw [List.getElem?_eq_none (by simp; omega), if_neg (by omega), List.getElem?_eq_none (by simp; omega)]
  rw [← e, ← zcel_o h hc]
  exact zwd_set fun x hx => zup_ne hx
theorem zwd_ast {g : zG} {σ : zS} {q n : Nat} {v : Int} (h : zkd q = 4) : (zwd g σ).set q (g.1 q, .inl (g.2.1, zln q, .inl (upd (fun i => Int32.ofInt (σ q i)) n (Int32.ofInt v)))) = zwd g (zup σ q n v) := by
  have e : (upd (fun i => Int32.ofInt (σ q i)) n (Int32.ofInt v)) = fun i => Int32.ofInt (zup σ q n v q i) := by
    funext j
    unfold upd
    by_cases e : j = n
    · subst e; rw [if_pos rfl, zup_at]
    · rw [if_neg e, zup_ix e]
  rw [e, ← zcel_i h]
  exact zwd_set fun x hx => zup_ne hx
theorem zwd_lst {g : zG} {σ : zS} {q n : Nat} {v : Int} (h : zkd q = 5) : (zwd g σ).set q (g.1 q, .inl (g.2.2.1, zln q, .inr (.inl (vp_updL (fun i => Int64.ofInt (σ q i)) n (Int64.ofInt v))))) = zwd g (zup σ q n v) := by
  have e : (vp_updL (fun i => Int64.ofInt (σ q i)) n (Int64.ofInt v)) = fun i => Int64.ofInt (zup σ q n v q i) := by
    funext j
    unfold vp_updL
    by_cases e : j = n
    · subst e; rw [if_pos rfl, zup_at]
    · rw [if_neg e, zup_ix e]
  rw [e, ← zcel_j h]
  exact zwd_set fun x hx => zup_ne hx
theorem zwd_cpy {g : zG} {σ : zS} {a b sp dp n : Nat} (h : zkd b = 4) : (zwd g σ).set b (g.1 b, .inl (g.2.1, zln b, .inl (va_cpy (fun i => Int32.ofInt (σ a i)) (fun i => Int32.ofInt (σ b i)) sp dp n))) = zwd g (zcpy σ a sp b dp n) := by
  have e : (va_cpy (fun i => Int32.ofInt (σ a i)) (fun i => Int32.ofInt (σ b i)) sp dp n) = fun i => Int32.ofInt (zcpy σ a sp b dp n b i) := by
    funext j
    unfold va_cpy zcpy
    by_cases e : dp ≤ j ∧ j < dp + n
    · rw [if_pos e, if_pos ⟨rfl, e⟩]
    · rw [if_neg e, if_neg (fun c => e c.2)]
  rw [e, ← zcel_i h]
  refine zwd_set fun x hx => ?_
  funext j
  unfold zcpy
  rw [if_neg (fun c => hx c.1)]
theorem zfs_get {g : zG} {σ : zS} {q f : Nat} (hf : f < zln q) : (zfs g σ q)[f]? = some (zv g.1 (zgetf (zkd q) f q σ)) := by
  unfold zfs
  simp [hf]
