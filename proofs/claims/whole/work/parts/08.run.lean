abbrev zX : Type := Option (Nat × (Nat → Int))
abbrev zQ : Type := Option (Option zV) × Nat × zL × List zV × zS
def zb (S : List zV) (f : Int → Int → Option Int) : Option (List zV) := match S with
  | .inl b :: .inl a :: r => (f a b).map fun v => zI v :: r
  | _ => none
def zbL (S : List zV) (f : Int → Int → Option Int) : Option (List zV) := match S with
  | .inr (.inl b) :: .inr (.inl a) :: r => (f a b).map fun v => zJ v :: r
  | _ => none
def zu (S : List zV) (f : Int → zV) : Option (List zV) := match S with
  | .inl a :: r => some (f a :: r)
  | _ => none
def zbr (pc : Nat) (off : Int) (b : Bool) : Option Nat := (zjmp pc off).map fun t => if b then t else pc + 3
def zldI (L : zL) (i : Nat) : Option zV := match zget L i with
  | some (.inl a) => some (zI a)
  | _ => none
def zldJ (L : zL) (i : Nat) : Option zV := match zget L i with
  | some (.inr (.inl a)) => some (zJ a)
  | _ => none
def zldA (L : zL) (i : Nat) : Option zV := match zget L i with
  | some (.inr (.inr a)) => some (zR a)
  | _ => none
def zgo (pc : Nat) (L : zL) (σ : zS) (S : Option (List zV)) : Option (Nat × zL × List zV × zS) := S.map fun S' => (pc, L, S', σ)
def zstI (n : Nat) (pc i : Nat) (L : zL) (S : List zV) (σ : zS) : Option (Nat × zL × List zV × zS) := match S with
  | .inl a :: r => if i < n then some (pc, zset L i (zI a), r, σ) else none
  | _ => none
def zstJ (n : Nat) (pc i : Nat) (L : zL) (S : List zV) (σ : zS) : Option (Nat × zL × List zV × zS) := match S with
  | .inr (.inl a) :: r => if i + 1 < n then some (pc, zsetJ L i (zJ a), r, σ) else none
  | _ => none
def zstA (n : Nat) (pc i : Nat) (L : zL) (S : List zV) (σ : zS) : Option (Nat × zL × List zV × zS) := match S with
  | .inr (.inr a) :: r => if i < n then some (pc, zset L i (zR a), r, σ) else none
  | _ => none
def zgetf (ci f q : Nat) (σ : zS) : zV := match zrf q f with
  | some t => zR (some t)
  | none => zI (σ q f)
/-- one instruction that neither calls nor returns -/
def zex (i : Instr) (k : zM) (X : zX) (pc : Nat) (L : zL) (S : List zV) (σ : zS) : Option (Nat × zL × List zV × zS) := match i with
  | .iconst n => some (pc + 1, L, zI n :: S, σ)
  | .bipush n => if -128 ≤ n ∧ n < 128 then some (pc + 2, L, zI n :: S, σ) else none
  | .sipush n => if -32768 ≤ n ∧ n < 32768 then some (pc + 3, L, zI n :: S, σ) else none
  | .lconst n => some (pc + 1, L, zJ (n : Nat) :: S, σ)
  | .ldc n => (zct k.2.2.2.2.1 n).map fun v => (pc + 2, L, zI v :: S, σ)
  | .ldc_w n => (zct k.2.2.2.2.1 n).map fun v => (pc + 3, L, zI v :: S, σ)
  | .ldc2_w n => (zcL k.2.2.2.2.1 n).map fun v => (pc + 3, L, zJ v :: S, σ)
  | .aconst_null => some (pc + 1, L, zR none :: S, σ)
  | .iload n => (zldI L n).map fun v => (pc + 2, L, v :: S, σ)
  | .iload_n n => (zldI L n).map fun v => (pc + 1, L, v :: S, σ)
  | .lload n => (zldJ L n).map fun v => (pc + 2, L, v :: S, σ)
  | .lload_n n => (zldJ L n).map fun v => (pc + 1, L, v :: S, σ)
  | .aload n => (zldA L n).map fun v => (pc + 2, L, v :: S, σ)
  | .aload_n n => (zldA L n).map fun v => (pc + 1, L, v :: S, σ)
  | .istore n => zstI k.2.2.1 (pc + 2) n L S σ
  | .istore_n n => zstI k.2.2.1 (pc + 1) n L S σ
  | .lstore n => zstJ k.2.2.1 (pc + 2) n L S σ
  | .lstore_n n => zstJ k.2.2.1 (pc + 1) n L S σ
  | .astore n => zstA k.2.2.1 (pc + 2) n L S σ
  | .astore_n n => zstA k.2.2.1 (pc + 1) n L S σ
  | .iinc n c => match zget L n with
    | some (.inl a) => if n < k.2.2.1 then some (pc + 3, zset L n (zI (a + c)), S, σ) else none
    | _ => none
  | .iadd => zgo (pc + 1) L σ (zb S fun a b => some (a + b))
  | .isub => zgo (pc + 1) L σ (zb S fun a b => some (a - b))
  | .imul => zgo (pc + 1) L σ (zb S fun a b => some (a * b))
  | .idiv => zgo (pc + 1) L σ (zb S fun a b => if nrm b = 0 then none else some ((nrm a).tdiv (nrm b)))
  | .irem => zgo (pc + 1) L σ (zb S fun a b => if nrm b = 0 then none else some ((nrm a).tmod (nrm b)))
  | .iand => zgo (pc + 1) L σ (zb S fun a b => some (zand a b))
  | .ior => zgo (pc + 1) L σ (zb S fun a b => some (zor a b))
  | .ixor => zgo (pc + 1) L σ (zb S fun a b => some (zxor a b))
  | .ishl => zgo (pc + 1) L σ (zb S fun a b => some (zshl a b))
  | .ishr => zgo (pc + 1) L σ (zb S fun a b => some (zshr a b))
  | .iushr => zgo (pc + 1) L σ (zb S fun a b => some (zushr a b))
  | .ladd => zgo (pc + 1) L σ (zbL S fun a b => some (a + b))
  | .lmul => zgo (pc + 1) L σ (zbL S fun a b => some (a * b))
  | .ldiv => zgo (pc + 1) L σ (zbL S fun a b => if nrL b = 0 then none else some ((nrL a).tdiv (nrL b)))
  | .lrem => zgo (pc + 1) L σ (zbL S fun a b => if nrL b = 0 then none else some ((nrL a).tmod (nrL b)))
  | .lcmp => zgo (pc + 1) L σ (match S with
    | .inr (.inl b) :: .inr (.inl a) :: r => some (zI (if nrL a < nrL b then -1 else if nrL a = nrL b then 0 else 1) :: r)
    | _ => none)
  | .i2l => zgo (pc + 1) L σ (zu S fun a => zJ (nrm a))
  | .i2b => zgo (pc + 1) L σ (zu S fun a => zI (zi2b a))
  | .i2s => zgo (pc + 1) L σ (zu S fun a => zI (zi2s a))
  | .pop => match S with
    | .inl _ :: r => some (pc + 1, L, r, σ)
    | .inr (.inr _) :: r => some (pc + 1, L, r, σ)
    | _ => none
  | .dup => match S with
    | .inl a :: r => some (pc + 1, L, zI a :: zI a :: r, σ)
    | .inr (.inr a) :: r => some (pc + 1, L, zR a :: zR a :: r, σ)
    | _ => none
  | .dup2 => match S with
    | .inl b :: .inr (.inr a) :: r => some (pc + 1, L, zI b :: zR a :: zI b :: zR a :: r, σ)
    | _ => none
  | .goto off => (zjmp pc off).map fun t => (t, L, S, σ)
  | .ifCond c off => match S with
    | .inl a :: r => (zbr pc off (zcmp c (nrm a) 0)).map fun t => (t, L, r, σ)
    | _ => none
  | .if_icmp c off => match S with
    | .inl b :: .inl a :: r => (zbr pc off (zcmp c (nrm a) (nrm b))).map fun t => (t, L, r, σ)
    | _ => none
  | .ifnull off => match S with
    | .inr (.inr none) :: r => (zjmp pc off).map fun t => (t, L, r, σ)
    | .inr (.inr (some _)) :: r => some (pc + 3, L, r, σ)
    | _ => none
  | .ifnonnull off => match S with
    | .inr (.inr none) :: r => some (pc + 3, L, r, σ)
    | .inr (.inr (some _)) :: r => (zjmp pc off).map fun t => (t, L, r, σ)
    | _ => none
  | .tableswitch d lo hi offs => match S with
    | .inl a :: r => if hi = lo + offs.size - 1 then (zjmp pc (zsw (nrm a) lo offs.toList d)).map fun t => (t, L, r, σ) else none
    | _ => none
  | .lookupswitch d ps => match S with
    | .inl a :: r => if (ps.toList.zip (ps.toList.drop 1)).all (fun (a, next) => a.1 < next.1) = true then (zjmp pc (Op.lookupswitch.offset ps.toList d (nrm a))).map fun t => (t, L, r, σ) else none
    | _ => none
  | .getfield n => match zfl k.2.2.2.2.1 n, S with
    | some (ci, f), .inr (.inr (some q)) :: r => if zkd q = ci then some (pc + 3, L, zgetf ci f q σ :: r, σ) else none
    | _, _ => none
  | .putfield n => match zfl k.2.2.2.2.1 n, S with
    | some (ci, f), .inl v :: .inr (.inr (some q)) :: r => if zkd q = ci ∧ zrf q f = none ∧ (zbo ci f = true → nrm v = 0 ∨ nrm v = 1) then some (pc + 3, L, r, zup σ q f v) else none
    | _, _ => none
  | .iaload => match S with
    | .inl i :: .inr (.inr (some q)) :: r => match decide (q = 52), X with
      | true, some x => if zix i x.1 then some (pc + 1, L, zI (x.2 (nrm i).toNat) :: r, σ) else none
      | true, none => none
      | false, _ => if zkd q = 4 ∧ zix i (zln q) then some (pc + 1, L, zI (σ q (nrm i).toNat) :: r, σ) else none
    | _ => none
  | .laload => match S with
    | .inl i :: .inr (.inr (some q)) :: r => if zkd q = 5 ∧ zix i (zln q) then some (pc + 1, L, zJ (σ q (nrm i).toNat) :: r, σ) else none
    | _ => none
  | .aaload => match S with
    | .inl i :: .inr (.inr (some q)) :: r => if zkd q = 6 ∧ zix i (zln q) then some (pc + 1, L, zR (zrf q (nrm i).toNat) :: r, σ) else none
    | _ => none
  | .iastore => match S with
    | .inl v :: .inl i :: .inr (.inr (some q)) :: r => if zkd q = 4 ∧ zix i (zln q) then some (pc + 1, L, r, zup σ q (nrm i).toNat v) else none
    | _ => none
  | .lastore => match S with
    | .inr (.inl v) :: .inl i :: .inr (.inr (some q)) :: r => if zkd q = 5 ∧ zix i (zln q) then some (pc + 1, L, r, zup σ q (nrm i).toNat v) else none
    | _ => none
  | .arraylength => match S with
    | .inr (.inr (some q)) :: r => match decide (q = 52), X with
      | true, some x => some (pc + 1, L, zI x.1 :: r, σ)
      | true, none => none
      | false, _ => if zkd q = 4 ∨ zkd q = 5 ∨ zkd q = 6 then some (pc + 1, L, zI (zln q) :: r, σ) else none
    | _ => none
  | _ => none
def zpop (n : Nat) (S : List zV) : Option (List zV × List zV) := if n ≤ S.length then some ((S.take n).reverse, S.drop n) else none
/-- what a call needs: the callee, its arguments, the rest of the stack -/
def zprep (j : Nat) (k : zM) (idx : Nat) (S : List zV) : Option (zM × List zV × List zV) := match zml k.2.2.2.2.1 idx with
  | some (k', kind, n) => match zpop n S with
    | some (as, S1) => if j = 2 ∧ kind = 0 then match S1 with
        | .inr (.inr (some b)) :: S2 => if zkd b = k'.2.2.2.2.1 ∧ k'.2.2.2.2.1 < 4 ∧ zwords S2 ≤ 8 ∧ (zent (zR (some b) :: as)).length ≤ k'.2.2.1 then some (k', zR (some b) :: as, S2) else none
        | _ => none
      else if j = 3 ∧ (kind = 1 ∨ kind = 2) ∧ zwords S1 ≤ 8 ∧ (zent as).length ≤ k'.2.2.1 then some (k', as, S1) else none
    | none => none
  | none => none
/-- System.arraycopy of ints; Math.max, Math.min -/
def zcpy (σ : zS) (a sp b dp n : Nat) : zS := fun q i => if q = b ∧ dp ≤ i ∧ i < dp + n then σ a (sp + (i - dp)) else σ q i
def zacp (j : Nat) (k : zM) (idx : Nat) (S : List zV) (σ : zS) : Option (List zV × zS) := match zml k.2.2.2.2.1 idx, S with
  | some (_, 3, _), .inl n :: .inl dp :: .inr (.inr (some b)) :: .inl sp :: .inr (.inr (some a)) :: r =>
    if j = 3 ∧ zkd a = 4 ∧ zkd b = 4 ∧ 0 ≤ nrm sp ∧ 0 ≤ nrm dp ∧ 0 ≤ nrm n ∧ nrm sp + nrm n ≤ zln a ∧ nrm dp + nrm n ≤ zln b ∧ zwords r ≤ 8 then
      some (r, zcpy σ a (nrm sp).toNat b (nrm dp).toNat (nrm n).toNat) else none
  | some (_, 4, _), .inl b :: .inl a :: r => if j = 3 ∧ zwords r ≤ 8 then some (zI (if nrm a < nrm b then b else a) :: r, σ) else none
  | some (_, 5, _), .inl b :: .inl a :: r => if j = 3 ∧ zwords r ≤ 8 then some (zI (if nrm b < nrm a then b else a) :: r, σ) else none
  | _, _ => none
def zno : Nat → Bool := fun _ => false
def zrun (f d : Nat) (k : zM) (X : zX) (stp : Nat → Bool) (pc : Nat) (L : zL) (S : List zV) (σ : zS) : Option zQ := match f with
  | 0 => none
  | f + 1 => if stp pc = true then some (none, pc, L, S, σ) else match decode k.2.1 pc with
    | .error _ => none
    | .ok (i, len) => if (zkind i len).1 = 0 then (zex i k X pc L S σ).bind fun r => zrun f d k X stp r.1 (zclr k r.1 r.2.1) r.2.2.1 r.2.2.2
      else if (zkind i len).1 = 1 then (zret k.2.2.2.1 i S).map fun rv => (some rv, pc, L, S, σ)
      else match d with
        | 0 => none
        | d' + 1 => match zacp (zkind i len).1 k (zkind i len).2 S σ with
          | some r => zrun f (d' + 1) k X stp (pc + 3) (zclr k (pc + 3) L) r.1 r.2
          | none => (zprep (zkind i len).1 k (zkind i len).2 S).bind fun c => (zrun f d' c.1 none zno 0 (zpad c.1.2.2.1 (zent c.2.1)) [] σ).bind fun q => q.1.bind fun rv =>
            zrun f (d' + 1) k X stp (pc + 3) (zclr k (pc + 3) L) (rv.toList ++ c.2.2) q.2.2.2.2
theorem zrun_mono : ∀ (f d : Nat) (k : zM) (X : zX) (stp : Nat → Bool) (pc : Nat) (L : zL) (S : List zV) (σ : zS) (q : zQ), zrun f d k X stp pc L S σ = some q → zrun (f + 1) d k X stp pc L S σ = some q := by
  intro f
  induction f with
  | zero => intro d k X stp pc L S σ q h; simp [zrun] at h
  | succ f ih =>
    intro d k X stp pc L S σ q h
    rw [zrun] at h ⊢
    split at h
    · rename_i h0; rw [if_pos h0]; exact h
    · rename_i h0
      rw [if_neg h0]
      revert h
      cases hd : decode k.2.1 pc with
      | error e => intro h; simp at h
      | ok r =>
        obtain ⟨i, len⟩ := r
        try dsimp only
        intro h
        by_cases h1 : (zkind i len).1 = 0
        · rw [if_pos h1] at h ⊢
          cases hz : zex i k X pc L S σ with
          | none => rw [hz] at h; simp at h
          | some r => rw [hz] at h; exact ih _ _ _ _ _ _ _ _ _ h
        · rw [if_neg h1] at h ⊢
          by_cases h2 : (zkind i len).1 = 1
          · rw [if_pos h2] at h ⊢
            exact h
          · rw [if_neg h2] at h ⊢
            cases d with
            | zero => simp at h
            | succ d' =>
              dsimp only at h ⊢
              cases ha : zacp (zkind i len).1 k (zkind i len).2 S σ with
              | some r => rw [ha] at h; exact ih _ _ _ _ _ _ _ _ _ h
              | none =>
                rw [ha] at h
                dsimp only at h ⊢
                cases hp : zprep (zkind i len).1 k (zkind i len).2 S with
                | none => rw [hp] at h; simp at h
                | some c =>
                  rw [hp] at h
                  simp only [Option.bind_some] at h ⊢
                  cases hq : zrun f d' c.1 none zno 0 (zpad c.1.2.2.1 (zent c.2.1)) [] σ with
                  | none => rw [hq] at h; simp at h
                  | some q1 =>
                    rw [hq] at h
                    rw [ih _ _ _ _ _ _ _ _ _ hq]
                    simp only [Option.bind_some] at h ⊢
                    cases hr : q1.1 with
                    | none => rw [hr] at h; simp at h
                    | some rv => rw [hr] at h; exact ih _ _ _ _ _ _ _ _ _ h
theorem zrun_le {f g d : Nat} {k : zM} {X : zX} {stp : Nat → Bool} {pc : Nat} {L : zL} {S : List zV} {σ : zS} {q : zQ} (hfg : f ≤ g) (h : zrun f d k X stp pc L S σ = some q) : zrun g d k X stp pc L S σ = some q := by
  induction hfg with
  | refl => exact h
  | step _ ih => exact zrun_mono _ _ _ _ _ _ _ _ _ _ ih
/-- where it comes to, whatever the fuel -/
noncomputable def zD (d : Nat) (k : zM) (X : zX) (stp : Nat → Bool) (pc : Nat) (L : zL) (S : List zV) (σ : zS) : Option zQ :=
  @dite _ (∃ q f, zrun f d k X stp pc L S σ = some q) (Classical.propDecidable _) (fun h => some (Classical.choose h)) (fun _ => none)
theorem zD_some {d : Nat} {k : zM} {X : zX} {stp : Nat → Bool} {pc : Nat} {L : zL} {S : List zV} {σ : zS} {q : zQ} : zD d k X stp pc L S σ = some q ↔ ∃ f, zrun f d k X stp pc L S σ = some q := by
  unfold zD
  split
  · rename_i h
    constructor
    · intro e
      have := Classical.choose_spec h
      rw [Option.some.inj e] at this
      exact this
    · rintro ⟨f, hf⟩
      obtain ⟨g, hg⟩ := Classical.choose_spec h
      have a := zrun_le (Nat.le_max_left f g) hf
      have b := zrun_le (Nat.le_max_right f g) hg
      rw [a] at b
      rw [b]
  · rename_i h
    constructor
    · intro e; cases e
    · rintro ⟨f, hf⟩
      exact absurd ⟨q, f, hf⟩ h
noncomputable def zc (d : Nat) (k : zM) (vs : List zV) (σ : zS) : Option (Option zV × zS) :=
  (zD d k none zno 0 (zpad k.2.2.1 (zent vs)) [] σ).bind fun q => q.1.map fun rv => (rv, q.2.2.2.2)
noncomputable def zr (d : Nat) (k : zM) (pc : Nat) (L : zL) (S : List zV) (σ : zS) : Option (Option zV × zS) :=
  (zD d k none zno pc L S σ).bind fun q => q.1.map fun rv => (rv, q.2.2.2.2)
theorem zc_eq (d : Nat) (k : zM) (vs : List zV) (σ : zS) : zc d k vs σ = zr d k 0 (zpad k.2.2.1 (zent vs)) [] σ := rfl
theorem zD_ext {d d2 : Nat} {k k2 : zM} {X X2 : zX} {stp stp2 : Nat → Bool} {pc pc2 : Nat} {L L2 : zL} {S S2 : List zV} {σ σ2 : zS} (h : ∀ f, zrun (f + 1) d k X stp pc L S σ = zrun f d2 k2 X2 stp2 pc2 L2 S2 σ2) : zD d k X stp pc L S σ = zD d2 k2 X2 stp2 pc2 L2 S2 σ2 := by
  apply Option.ext
  intro q
  rw [zD_some, zD_some]
  constructor
  · rintro ⟨f, hf⟩
    cases f with
    | zero => simp [zrun] at hf
    | succ f => rw [h] at hf; exact ⟨f, hf⟩
  · rintro ⟨f, hf⟩
    exact ⟨f + 1, by rw [h]; exact hf⟩
section ZE
variable {d : Nat} {k : zM} {X : zX} {stp : Nat → Bool} {pc : Nat} {L : zL} {S : List zV} {σ : zS} {i : Instr} {len : Nat}
theorem zD_step (hd : decode k.2.1 pc = .ok (i, len)) (hs : stp pc = false) (hk : zkind i len = (0, 0)) {pc' : Nat} {L' : zL} {S' : List zV} {σ' : zS} (hx : zex i k X pc L S σ = some (pc', L', S', σ')) {L2 : zL} (hc : zclr k pc' L' = L2) : zD d k X stp pc L S σ = zD d k X stp pc' L2 S' σ' := by
  subst hc
  apply zD_ext
  intro f
  rw [zrun, if_neg (by rw [hs]; exact Bool.false_ne_true), hd]
  try dsimp only
  rw [if_pos (by rw [hk]), hx]
  rfl
theorem zD_stop (hs : stp pc = true) : zD d k X stp pc L S σ = some (none, pc, L, S, σ) := by
  rw [zD_some]
  exact ⟨1, by rw [zrun, if_pos hs]⟩
theorem zD_ret (hd : decode k.2.1 pc = .ok (i, len)) (hs : stp pc = false) (hk : zkind i len = (1, 0)) {rv : Option zV} (hr : zret k.2.2.2.1 i S = some rv) : zD d k X stp pc L S σ = some (some rv, pc, L, S, σ) := by
  rw [zD_some]
  refine ⟨1, ?_⟩
  rw [zrun, if_neg (by rw [hs]; exact Bool.false_ne_true), hd]
  try dsimp only
  rw [if_neg (by rw [hk]; decide), if_pos (by rw [hk]), hr]
  rfl
theorem zD_acp (hd : decode k.2.1 pc = .ok (i, len)) (hs : stp pc = false) {j idx : Nat} (hk : zkind i len = (j + 2, idx)) {r : List zV × zS} (ha : zacp (j + 2) k idx S σ = some r) {L2 : zL} (hc : zclr k (pc + 3) L = L2) : zD (d + 1) k X stp pc L S σ = zD (d + 1) k X stp (pc + 3) L2 r.1 r.2 := by
  subst hc
  apply zD_ext
  intro f
  rw [zrun, if_neg (by rw [hs]; exact Bool.false_ne_true), hd]
  try dsimp only
  rw [if_neg (by rw [hk]; exact Nat.succ_ne_zero _), if_neg (by rw [hk]; exact fun h => by simp at h)]
  try dsimp only
  rw [hk, ha]
theorem zD_call (hd : decode k.2.1 pc = .ok (i, len)) (hs : stp pc = false) {j idx : Nat} (hk : zkind i len = (j + 2, idx)) (ha : zacp (j + 2) k idx S σ = none) {k' : zM} {as S' : List zV} (hp : zprep (j + 2) k idx S = some (k', as, S')) {L2 : zL} (hc : zclr k (pc + 3) L = L2) :
    zD (d + 1) k X stp pc L S σ = (zc d k' as σ).bind fun r => zD (d + 1) k X stp (pc + 3) L2 (r.1.toList ++ S') r.2 := by
  subst hc
  have e : ∀ f, zrun (f + 1) (d + 1) k X stp pc L S σ = (zrun f d k' none zno 0 (zpad k'.2.2.1 (zent as)) [] σ).bind fun q => q.1.bind fun rv => zrun f (d + 1) k X stp (pc + 3) (zclr k (pc + 3) L) (rv.toList ++ S') q.2.2.2.2 := by
    intro f
    rw [zrun, if_neg (by rw [hs]; exact Bool.false_ne_true), hd]
    try dsimp only
    rw [if_neg (by rw [hk]; exact Nat.succ_ne_zero _), if_neg (by rw [hk]; exact fun h => by simp at h)]
    try dsimp only
    rw [hk, ha]
    try dsimp only
    rw [hp]
    rfl
  apply Option.ext
  intro q
  rw [zD_some]
  unfold zc
  simp only [Option.bind_eq_some_iff, Option.map_eq_some_iff]
  constructor
  · rintro ⟨f, hf⟩
    cases f with
    | zero => simp [zrun] at hf
    | succ f =>
      rw [e] at hf
      simp only [Option.bind_eq_some_iff] at hf
      obtain ⟨q1, h1, rv, h2, h3⟩ := hf
      exact ⟨(rv, q1.2.2.2.2), ⟨q1, zD_some.mpr ⟨f, h1⟩, rv, h2, rfl⟩, zD_some.mpr ⟨f, h3⟩⟩
  · rintro ⟨r, ⟨q1, h1, rv, h2, h3⟩, h4⟩
    subst h3
    obtain ⟨f, hf⟩ := zD_some.mp h1
    obtain ⟨g, hg⟩ := zD_some.mp h4
    refine ⟨max f g + 1, ?_⟩
    rw [e]
    simp only [Option.bind_eq_some_iff]
    exact ⟨q1, zrun_le (Nat.le_max_left f g) hf, rv, h2, zrun_le (Nat.le_max_right f g) hg⟩
end ZE
