set_option maxHeartbeats 4000000 in
theorem z_run {p : Program} {l : Launch} {e : Env} {R : Room} {s : State} {m : MethodId} {args : Array Value} {below : List Frame} {meth : Method} {c : Code} {H0 : Heap} {cells slots : Nat} {Q : State → Prop}
    {g : zG} {D : va_G} {A : Nat → Prop} {X : zX} {k : zM} (C : zCx p R s m args c k g D A H0 X) (hN : zNk s) {d : Nat} (hR : d ≤ R.frames ∧ d * 128 ≤ R.locals) (hcs : cells ≤ R.cells ∧ slots ≤ R.slots) (hi : zInj g) (hAz : ∀ a, zA g a → A a)
    (hM : ∀ d', d = d' + 1 → ∀ k', zokM k' → zMet l d' k') (stp : Nat → Bool) : ∀ (f : Nat) (pc : Nat) (L : zL) (S : List zV) (σ : zS) (ls : Array Slot) (H : Heap) (locs : List Loc) (q : zQ), zSt g D A H0 k.2.2.1 L σ ls H locs → zrun f d k X stp pc L S σ = some q →
    (∀ (ls' : Array Slot) (H' : Heap) (locs' : List Loc), zSt g D A H0 k.2.2.1 q.2.2.1 q.2.2.2.2 ls' H' locs' → W p l e R s m args below meth c H' locs' cells slots Q (F0 m q.2.1 ls' (q.2.2.2.1.map (zv g.1)))) →
    W p l e R s m args below meth c H locs cells slots Q (F0 m pc ls (S.map (zv g.1))) := by
  intro f
  induction f with
  | zero => intro pc L S σ ls H locs q _ h _; simp [zrun] at h
  | succ f ih =>
    intro pc L S σ ls H locs q hst h kk
    rw [zrun] at h
    split at h
    · cases h
      exact kk ls H locs hst
    · revert h
      cases hd : decode k.2.1 pc with
      | error e => intro h; simp at h
      | ok r =>
        obtain ⟨i, len⟩ := r
        dsimp only
        intro h
        by_cases h1 : (zkind i len).1 = 0
        · rw [if_pos h1] at h
          have hl := zkind_inv (j := (zkind i len).1) (idx := (zkind i len).2) rfl (by omega)
          cases hz : zex i k X pc L S σ with
          | none => rw [hz] at h; simp at h
          | some r =>
            rw [hz] at h
            refine z_ex C hst hd hl hz fun ls' H' locs' hst' => ?_
            exact ih _ _ _ _ ls' H' locs' q ⟨zlv_clr k r.1 hst'.1, hst'.2⟩ h kk
        · rw [if_neg h1] at h
          by_cases h2 : (zkind i len).1 = 1
          · rw [if_pos h2] at h
            obtain ⟨v, h3, h4⟩ := Option.map_eq_some_iff.mp h
            cases h4
            exact kk ls H locs hst
          · rw [if_neg h2] at h
            cases d with
            | zero => simp at h
            | succ d' =>
              dsimp only at h
              cases ha : zacp (zkind i len).1 k (zkind i len).2 S σ with
              | some r =>
                rw [ha] at h
                refine z_acp C hR hcs hst hd ha fun H' locs' h5 h6 => ?_
                exact ih _ _ _ _ ls H' locs' q ⟨zlv_clr k (pc + 3) hst.1, h5, h6⟩ h kk
              | none =>
                rw [ha] at h
                dsimp only at h
                cases hp : zprep (zkind i len).1 k (zkind i len).2 S with
                | none => rw [hp] at h; simp at h
                | some c0 =>
                  rw [hp] at h
                  simp only [Option.bind_some] at h
                  cases hq : zrun f d' c0.1 none zno 0 (zpad c0.1.2.2.1 (zent c0.2.1)) [] σ with
                  | none => rw [hq] at h; simp at h
                  | some q1 =>
                    rw [hq] at h
                    simp only [Option.bind_some] at h
                    cases hr : q1.1 with
                    | none => rw [hr] at h; simp at h
                    | some rv =>
                      rw [hr] at h
                      have hc : zc d' c0.1 c0.2.1 σ = some (rv, q1.2.2.2.2) := by
                        unfold zc
                        rw [zD_some.mpr ⟨f, hq⟩]
                        simp only [Option.bind_some, hr, Option.map_some]
                      refine z_call C hN hR hcs hi hAz (hM d' rfl) hst hd (k' := c0.1) (as := c0.2.1) (S' := c0.2.2) hp hc fun H' locs' h5 h6 => ?_
                      exact ih _ _ _ _ ls H' locs' q ⟨zlv_clr k (pc + 3) hst.1, h5, h6⟩ h kk
theorem zret_inv {rt : Option FieldType} {i : Instr} {len : Nat} {S : List zV} {rv : Option zV} (hk : zkind i len = (1, 0)) (h : zret rt i S = some rv) : len = 1 ∧
    ((i = .ireturn ∧ ∃ a, S = [zI a] ∧ rv = some (zI a) ∧ (rt = some .int ∨ (rt = some .boolean ∧ (nrm a = 0 ∨ nrm a = 1)))) ∨ (i = .lreturn ∧ ∃ a, S = [zJ a] ∧ rv = some (zJ a) ∧ rt = some .long) ∨
     (i = .areturn ∧ ∃ a C, S = [zR a] ∧ rv = some (zR a) ∧ rt = some (.object C)) ∨ (i = .return_ ∧ S = [] ∧ rv = none ∧ rt = none)) := by
  have hl := zkind_inv hk (by decide)
  unfold zret at h
  split at h
  · cases h; exact ⟨hl, Or.inl ⟨rfl, _, rfl, rfl, Or.inl rfl⟩⟩
  · split at h
    · rename_i hb; cases h; exact ⟨hl, Or.inl ⟨rfl, _, rfl, rfl, Or.inr ⟨rfl, hb⟩⟩⟩
    · cases h
  · cases h; exact ⟨hl, Or.inr (Or.inl ⟨rfl, _, rfl, rfl, rfl⟩)⟩
  · cases h; exact ⟨hl, Or.inr (Or.inr (Or.inl ⟨rfl, _, _, rfl, rfl, rfl⟩))⟩
  · cases h; exact ⟨hl, Or.inr (Or.inr (Or.inr ⟨rfl, rfl, rfl, rfl⟩))⟩
  · cases h
set_option maxHeartbeats 4000000 in
theorem z_met_at (l : Launch) (d : Nat) (hM : ∀ d', d = d' + 1 → ∀ k', zokM k' → zMet l d' k') : ∀ (k : zM), zokM k → zMet l d k := by
  intro k hok g D vs σ σ' rv hi hent hc
  refine Met.ofW (cc := k.2.1) (maxL := k.2.2.1) (ret := k.2.2.2.1) (ws' := zT) hok.2.1 rfl ?_
  intro p e s m args below meth c s₁ B hml hv
  obtain ⟨rfl, hP, hK, hN⟩ := hv
  have hts := atoms_spec (ws := zWs k) B.pre
  have hown : s.vm.findClass k.1.cls = some m.cls := findClass_of_methodNamed B.named
  have C : zCx p (zRm d) s m ((vs.map (zv g.1)).toArray) c k g D (zA g) s.heap none := ⟨B.exec, B.bytes, hml, hown, fun w hw => hts w (List.mem_cons_of_mem _ hw), hok.2.2.2.2.2, hK, fun σ => zD_of hi _ (fun _ h => h) σ, trivial⟩
  rw [lg_entry_eq]
  have hl := zentry g.1 vs hent
  generalize (lg_sl (vs.map (zv g.1)) ++ List.replicate (k.2.2.1 - (lg_sl (vs.map (zv g.1))).length) Slot.unset).toArray = ls at hl ⊢
  unfold zc at hc
  rw [Option.bind_eq_some_iff] at hc
  obtain ⟨q, hq, hr⟩ := hc
  obtain ⟨f, hf⟩ := zD_some.mp hq
  obtain ⟨rv2, hrv, he⟩ := Option.map_eq_some_iff.mp hr
  cases he
  refine z_run (l := l) (e := e) (R := zRm d) (s := s) (m := m) (below := below) (meth := meth) (c := c) (cells := 0) (slots := 0) (Q := MQ below (zQc g D rv q.2.2.2.2) (vs.map (zv g.1)).toArray s 0 0 (zA g)) C hN (d := d) ⟨Nat.le_refl _, Nat.le_refl _⟩ ⟨Nat.zero_le _, Nat.zero_le _⟩ hi (fun _ h => h) hM zno f 0 _ [] σ ls s.heap [] q ⟨hl, hP, va_S.rf⟩ hf fun ls' H' locs' hst => ?_
  obtain ⟨hlv, hP1, hS1⟩ := hst
  obtain ⟨qo, qpc, qL, qS, qσ⟩ := q
  dsimp only at hrv hP1 ⊢
  subst hrv
  obtain ⟨i, len, hd, hk, hret⟩ := zrun_ret _ _ _ _ _ _ _ _ _ _ _ hf
  dsimp only at hd hret
  have hlocks := B.notSynchronized
  have hfin : ∀ (rt : Option Value), rt = rv.map (zv g.1) → ∀ t : State, t.heap = H' → s.WarmedH t.vm → zQc g D rv qσ (vs.map (zv g.1)).toArray s (.returned rt) t := by
    intro rt hrt t ht hW
    subst hrt
    exact ⟨rfl, by rw [ht]; exact hP1, hS1.F ht⟩
  obtain ⟨hlen, hc4⟩ := zret_inv hk hret
  subst hlen
  rcases hc4 with ⟨rfl, a, rfl, rfl, hrt⟩ | ⟨rfl, a, rfl, rfl, hrt⟩ | ⟨rfl, a, CC, rfl, rfl, hrt⟩ | ⟨rfl, rfl, rfl, hrt⟩
  · rcases hrt with hrt | ⟨hrt, hb⟩
    · exact W.iret B.exec B.bytes (B.returns.trans hrt) (hfin _ rfl) hS1.2.2 hd
    · refine W.zret B.exec B.bytes (ty := .boolean) (B.returns.trans hrt) ?_ (hfin _ rfl) hS1.2.2 hd
      rw [← zI_nrm a]
      rcases hb with h5 | h5 <;> rw [h5] <;> rfl
  · exact W.lret B.exec B.bytes (B.returns.trans hrt) (hfin _ rfl) hS1.2.2 hd
  · refine W.aret B.exec B.bytes (rt := .object CC) (B.returns.trans hrt) (Or.inl ⟨_, rfl⟩) ?_ (hfin _ rfl) hS1.2.2 hd
    cases a with
    | none => exact Or.inl rfl
    | some q => exact Or.inr ⟨_, rfl⟩
  · exact W.vret B.exec B.bytes (B.returns.trans hrt) (hfin _ rfl) hS1.2.2 hd
theorem z_met (l : Launch) : ∀ (d : Nat) (k : zM), zokM k → zMet l d k := by
  intro d
  induction d with
  | zero => exact z_met_at l 0 (fun d' h => by omega)
  | succ d ih => exact z_met_at l (d + 1) (fun d' h => by cases h; exact ih)
