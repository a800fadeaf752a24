def zWs (k : zM) : List Cond := Cond.code k.1 k.2.1 k.2.2.1 k.2.2.2.1 :: zT
def zRm (d : Nat) : Room := { frames := d, cells := 0, slots := 0, locals := d * 128 }
def zA (g : zG) : Nat → Prop := fun a => ∃ q, q < 52 ∧ a = g.1 q
def zInj (g : zG) : Prop := ∀ i j, i < 52 → j < 52 → g.1 i = g.1 j → i = j
def zNk (U : State) : Prop := ∀ w ∈ zNW, va_Nw w U
def zPre (g : zG) (D : va_G) (σ : zS) (U : State) : Prop := va_P D zcl (zwd g σ) U.heap ∧ va_K D zcl (ztys g) U ∧ zNk U
def zPc (g : zG) (D : va_G) (vs : List zV) (σ : zS) : Array Value → State → Prop := va_Pc (vs.map (zv g.1)) (zPre g D σ)
def zQc (g : zG) (D : va_G) (rv : Option zV) (σ' : zS) : Array Value → State → Outcome → State → Prop := fun _ st oc t => oc = .returned (rv.map (zv g.1)) ∧ va_P D zcl (zwd g σ') t.heap ∧ va_F (zA g) st t
def zMet (l : Launch) (d : Nat) (k : zM) : Prop := ∀ (g : zG) (D : va_G) (vs : List zV) (σ σ' : zS) (rv : Option zV), zInj g → (zent vs).length ≤ k.2.2.1 → zc d k vs σ = some (rv, σ') → Met l k.1 (zWs k) (zRm d) (zPc g D vs σ) (zQc g D rv σ') 0 0 (zA g)
theorem zT_good {w : Cond} (h : w ∈ zT) : w ∈ zT ∧ ((w.onTables && w.keeps) = true ∨ ∃ ty, w = .arrayClass ty) := ⟨h, good_of_word (List.mem_filter.mp h).2⟩
theorem zT_in {ws : List Cond} (h : ∀ w ∈ ws, w ∈ zT) : GoodIn zT ws := fun w hw => zT_good (h w hw)
theorem zNk_warm {s U : State} (hW : s.WarmedH U.vm) (h : zNk s) : zNk U := by
  intro w hw
  have h1 := h w hw
  simp only [zNW, List.mem_cons, List.not_mem_nil, or_false] at hw
  rcases hw with rfl | rfl | rfl | rfl <;> exact va_Nw.warmM hW h1
theorem zNk_same {s U : State} (hv : s.vm = U.vm) (h : zNk s) : zNk U := by
  intro w hw
  have h1 := h w hw
  simp only [zNW, List.mem_cons, List.not_mem_nil, or_false] at hw
  rcases hw with rfl | rfl | rfl | rfl <;> exact va_Nw.same rfl hv h1
theorem zPc_blind (g : zG) (D : va_G) (vs : List zV) (σ : zS) : FrameBlind (zPc g D vs σ) := fun a U f mk h => by
  obtain ⟨h1, h2, h3, h4⟩ := h
  exact ⟨h1, h2, va_K.moved (u := U) (U := U.calling f mk a) (Vm.Alike.refl U.vm) h3, zNk_same (s := U) (U := U.calling f mk a) rfl h4⟩
theorem zD_of {g : zG} (hi : zInj g) (A : Nat → Prop) (hA : ∀ a, zA g a → A a) (σ : zS) : va_D A (zwd g σ) := by
  have hl : ∀ {i : Nat} {p : Nat × va_E}, (zwd g σ)[i]? = some p → i < 52 ∧ p.1 = g.1 i := by
    intro i p h
    have h1 : i < 52 := by have := (List.getElem?_eq_some_iff.mp h).1; simpa [zwd] using this
    rw [zwd_get h1] at h
    exact ⟨h1, by rw [← Option.some.inj h]⟩
  constructor
  · intro i j p q h1 h2 e
    obtain ⟨a1, a2⟩ := hl h1
    obtain ⟨b1, b2⟩ := hl h2
    exact hi i j a1 b1 (by rw [← a2, ← b2, e])
  · intro i q h
    obtain ⟨a1, a2⟩ := hl h
    exact hA _ ⟨i, a1, a2⟩
theorem zcat_1 (ad : Nat → Nat) {v : zV} (h : ∀ x, v ≠ zJ x) : (zv ad v).category = 1 := by
  rcases lv_cat (zv ad v) with h1 | h1
  · exact h1
  · obtain ⟨x, hx⟩ := zv_cat ad v h1
    exact absurd hx (h x)
theorem zsum (ad : Nat → Nat) (S : List zV) : ((S.map (zv ad)).map fun v => v.category).sum = zwords S := by
  induction S with
  | nil => rfl
  | cons v r ih =>
    rw [List.map_cons, List.map_cons, List.sum_cons, ih]
    match v with
    | .inl a => rfl
    | .inr (.inl a) => rfl
    | .inr (.inr none) => rfl
    | .inr (.inr (some q)) => rfl
theorem zent_len (ad : Nat → Nat) (vs : List zV) : (lg_sl (vs.map (zv ad))).length = (zent vs).length := by
  induction vs with
  | nil => rfl
  | cons v r ih =>
    unfold lg_sl at ih ⊢
    rw [List.map_cons, List.flatMap_cons, List.length_append, ih]
    match v with
    | .inl a => simp [zv, zent, Value.category]; omega
    | .inr (.inl a) => simp [zv, zent, Value.category]; omega
    | .inr (.inr none) => simp [zv, zent, Value.category]; omega
    | .inr (.inr (some q)) => simp [zv, zent, Value.category]; omega
theorem zget_cons {o : Option zV} {L : zL} {i : Nat} : zget (o :: L) (i + 1) = zget L i := by unfold zget; rw [List.getElem?_cons_succ]
theorem zget_nil {i : Nat} : zget [] i = none := by unfold zget; rw [List.getElem?_nil]
theorem zent_arg (ad : Nat → Nat) : ∀ (vs : List zV) (j i : Nat) (v : zV), zget (zent vs) i = some v → (j + i, zv ad v) ∈ lv_args j (vs.map (zv ad)) := by
  intro vs
  induction vs with
  | nil => intro j i v h; rw [zent, zget_nil] at h; cases h
  | cons u r ih =>
    intro j i v h
    rw [List.map_cons]
    unfold lv_args
    have one : ∀ {w : zV}, (∀ x, w ≠ zJ x) → zget (some w :: zent r) i = some v → (j + i, zv ad v) ∈ (j, zv ad w) :: lv_args (if (zv ad w).category = 2 then j + 2 else j + 1) (r.map (zv ad)) := by
      intro w hw hh
      rw [if_neg (by rw [zcat_1 ad hw]; decide)]
      cases i with
      | zero =>
        have : w = v := Option.some.inj hh
        subst this
        exact List.mem_cons_self
      | succ i =>
        rw [zget_cons] at hh
        have := ih (j + 1) i v hh
        rw [show j + 1 + i = j + (i + 1) from by omega] at this
        exact List.mem_cons_of_mem _ this
    match u, h with
    | .inl a, h => exact one (fun x hx => by cases hx) h
    | .inr (.inr a), h => exact one (fun x hx => by cases hx) h
    | .inr (.inl a), h =>
      rw [if_pos (by rfl)]
      cases i with
      | zero =>
        have : zJ a = v := Option.some.inj h
        subst this
        exact List.mem_cons_self
      | succ i =>
        cases i with
        | zero => cases h
        | succ i =>
          have h2 : zget (zent r) i = some v := h
          have := ih (j + 2) i v h2
          rw [show j + 2 + i = j + (i + 1 + 1) from by omega] at this
          exact List.mem_cons_of_mem _ this
theorem zget_pad {n i : Nat} {L : zL} {v : zV} (h : zget (zpad n L) i = some v) : zget L i = some v := by
  unfold zpad at h
  unfold zget at h ⊢
  by_cases hi : i < L.length
  · rw [List.getElem?_append_left hi] at h; exact h
  · rw [List.getElem?_append_right (by omega)] at h
    split at h
    · rename_i u hu
      have := List.mem_of_getElem? hu
      have := List.eq_of_mem_replicate this
      cases this
    · cases h
theorem zentry (ad : Nat → Nat) (vs : List zV) {n : Nat} (h : (zent vs).length ≤ n) : lv_has ((lg_sl (vs.map (zv ad)) ++ List.replicate (n - (lg_sl (vs.map (zv ad))).length) Slot.unset).toArray) n (zloc ad (zpad n (zent vs))) := by
  have h1 := lv_entry (vs.map (zv ad)) (n := n) (by rw [zent_len]; exact h)
  refine lv_mono h1 fun q hq => ?_
  obtain ⟨i, w⟩ := q
  obtain ⟨v, hv, rfl⟩ := zloc_mem.mp hq
  have := zent_arg ad vs 0 i v (zget_pad hv)
  rw [Nat.zero_add] at this
  exact this
section ZCALL
variable {p : Program} {l : Launch} {e : Env} {R : Room} {s : State} {m : MethodId} {args : Array Value} {below : List Frame} {meth : Method} {c : Code} {H H0 : Heap} {locs : List Loc} {cells slots : Nat} {Q : State → Prop}
theorem z_callk {pc : Nat} {ls : Array Slot} {rest st0 : List Value} {a : Array Value} {A : Nat → Prop} {g : zG} {D : va_G} {rv : Option zV} {σ' : zS}
    (hr : va_Run p l e R s m args below meth c H locs cells slots 0 0 (F0 m pc ls st0) rest (zQc g D rv σ' a) (zA g)) (hS : va_S A H0 H locs) (hA : ∀ q, zA g q → A q)
    (kk : ∀ (H1 : Heap) (locs1 : List Loc), va_P D zcl (zwd g σ') H1 → va_S A H0 H1 locs1 → W p l e R s m args below meth c H1 locs1 cells slots Q (F0 m (pc + 3) ls ((rv.map (zv g.1)).toList ++ rest))) : W p l e R s m args below meth c H locs cells slots Q (F0 m pc ls st0) := by
  intro T hT X
  obtain ⟨v, st₀, t, T', L, h0, X', hL, e1, e2, ⟨hv, hp, hz, hk⟩, st⟩ := hr T hT X
  cases hv
  rw [h0] at hz hk
  obtain ⟨t2, a1, b1⟩ := kk T'.heap (locs ++ L) (by rw [e1]; exact hp)
    ⟨Nat.le_trans hS.1 (by rw [e1]; exact hz), fun q h1 h2 => by rw [e1, hk q (Nat.lt_of_lt_of_le h1 hS.1) (fun z => h2 (hA q z))]; exact hS.2.1 q h1 h2, fun q hq => by
      rcases List.mem_append.mp hq with h | h
      · exact hS.2.2 q h
      · exact hA _ (hL q h)⟩ T' rfl X'
  exact ⟨t2, st t2 a1, b1⟩
end ZCALL
theorem zpop_inv {n : Nat} {S as S1 : List zV} (h : zpop n S = some (as, S1)) : as.length = n ∧ S = as.reverse ++ S1 := by
  unfold zpop at h
  split at h
  · rename_i hn
    cases h
    exact ⟨by simp; omega, by simp⟩
  · cases h
theorem zrun_ret : ∀ (f d : Nat) (k : zM) (X : zX) (stp : Nat → Bool) (pc : Nat) (L : zL) (S : List zV) (σ : zS) (rv : Option zV) (q : Nat × zL × List zV × zS), zrun f d k X stp pc L S σ = some (some rv, q) → ∃ i len, decode k.2.1 q.1 = .ok (i, len) ∧ zkind i len = (1, 0) ∧ zret k.2.2.2.1 i q.2.2.1 = some rv := by
  intro f
  induction f with
  | zero => intro d k X stp pc L S σ rv q h; simp [zrun] at h
  | succ f ih =>
    intro d k X stp pc L S σ rv q h
    rw [zrun] at h
    split at h
    · cases h
    · revert h
      cases hd : decode k.2.1 pc with
      | error e => intro h; simp at h
      | ok r =>
        obtain ⟨i, len⟩ := r
        dsimp only
        intro h
        by_cases h1 : (zkind i len).1 = 0
        · rw [if_pos h1] at h
          cases hz : zex i k X pc L S σ with
          | none => rw [hz] at h; simp at h
          | some r => rw [hz] at h; exact ih _ _ _ _ _ _ _ _ _ _ h
        · rw [if_neg h1] at h
          by_cases h2 : (zkind i len).1 = 1
          · rw [if_pos h2] at h
            obtain ⟨v, h3, h4⟩ := Option.map_eq_some_iff.mp h
            cases h4
            refine ⟨i, len, hd, ?_, h3⟩
            unfold zkind at h2 ⊢
            split at h2
            · rename_i hl
              rw [if_pos hl]
              split at h2 <;> first | rfl | (simp at h2)
            · exact absurd h2 (by decide)
          · rw [if_neg h2] at h
            cases d with
            | zero => simp at h
            | succ d' =>
              dsimp only at h
              cases ha : zacp (zkind i len).1 k (zkind i len).2 S σ with
              | some r => rw [ha] at h; exact ih _ _ _ _ _ _ _ _ _ _ h
              | none =>
                rw [ha] at h
                dsimp only at h
                cases hp : zprep (zkind i len).1 k (zkind i len).2 S with
                | none => rw [hp] at h; simp at h
                | some c =>
                  rw [hp] at h
                  simp only [Option.bind_some] at h
                  cases hq : zrun f d' c.1 none zno 0 (zpad c.1.2.2.1 (zent c.2.1)) [] σ with
                  | none => rw [hq] at h; simp at h
                  | some q1 =>
                    rw [hq] at h
                    simp only [Option.bind_some] at h
                    cases hr : q1.1 with
                    | none => rw [hr] at h; simp at h
                    | some rv => rw [hr] at h; exact ih _ _ _ _ _ _ _ _ _ _ h
theorem zkind_inv {i : Instr} {len j idx : Nat} (h : zkind i len = (j, idx)) (hj : j ≠ 9) : len = zlen i len := by
  unfold zkind at h
  split at h
  · rename_i hl; exact hl
  · cases h; exact absurd rfl hj
theorem zkind_2 {i : Instr} {len : Nat} (h : (zkind i len).1 = 2) : i = .invokevirtual (zkind i len).2 ∧ len = 3 := by
  have hl := zkind_inv (j := (zkind i len).1) (idx := (zkind i len).2) rfl (by omega)
  unfold zkind at h ⊢
  rw [if_pos hl] at h ⊢
  cases i with
  | invokevirtual n => exact ⟨rfl, hl⟩
  | _ => exact absurd h (by first | decide | (intro h; cases h))
theorem zkind_3 {i : Instr} {len : Nat} (h : (zkind i len).1 = 3) : i = .invokestatic (zkind i len).2 ∧ len = 3 := by
  have hl := zkind_inv (j := (zkind i len).1) (idx := (zkind i len).2) rfl (by omega)
  unfold zkind at h ⊢
  rw [if_pos hl] at h ⊢
  cases i with
  | invokestatic n => exact ⟨rfl, hl⟩
  | _ => exact absurd h (by first | decide | (intro h; cases h))
