/-- the throw itself -/
theorem z_throw {p : Program} {l : Launch} {e : Env} {R : Room} {s : State} {m : MethodId} {args : Array Value} {below : List Frame} {meth : Method} {c : Code} {H : Heap} {locs : List Loc}
    {g : zG} {D : va_G} {k : zM} (C : zCx p R s m args c k g D (zA g) s.heap none) (hk : k.1.cls = RX2) (hE : zEx g s) (hl : l.stackTraces = false) {L : zL} {σ : zS} {ls : Array Slot} (hst : zSt g D (zA g) s.heap k.2.2.1 L σ ls H locs)
    {pc : Nat} {E : String} (site : zSite k pc E) (hR : 6 ≤ R.frames ∧ 128 ≤ R.locals ∧ 1 ≤ R.cells ∧ 6 ≤ R.slots) (hlocks : meth.locks = false) (hout : ∀ x ∈ c.exceptionTable.toList, False) :
    W p l e R s m args below meth c H locs 0 0 (vx_MQ below (zQx g D (.inr E) σ) (zXx g D (.inr E) σ) args s 1 6 (zA g)) (F0 m pc ls []) := by
  obtain ⟨hexec, hb, hml, hown, hts, hcl, hK, hD, hX⟩ := C
  obtain ⟨hlv, hP, hS⟩ := hst
  obtain ⟨ik, is, ic, text, d0, d3, d4, d7, d10, hlk, hini, hin, hat, hbt, hfit, hgood⟩ := site
  obtain ⟨x1, x2, x3, x4, x5⟩ := hE
  obtain ⟨sa, hsa⟩ := x1 _ hin
  rw [hk] at hown
  refine vx_throwSW (names := zNm) (sa := sa) hexec hb hl hown hfit (by decide +kernel) (hts _ hlk) (hts _ hini) hsa ?_ hgood x4 x5 hS (hlv.1.trans hml.symm) d0 d3 d4 d7 d10 (fun x hx => (hout x hx).elim) ?_ ?_ (by omega) (by omega) hlocks ?_ (fun z hz => hS.2.2 z hz) (Nat.le_refl _) (Nat.le_refl _)
  · exact vx_hat (fun w hw => hts w (hat w hw)) hbt (fun w hw => va_Nw.use (zXC_tab w hw) (x2 w hw))
  · show 2 + 3 < R.frames
    omega
  · show 0 + (13 * 3 + 43) ≤ R.locals
    omega
  · intro t hvm hsz hkeep
    refine ⟨rfl, va_P.kept hP fun j q hq => hkeep _ (vx_lt hP hq), Nat.le_trans hS.1 hsz, fun q h1 h2 => ?_⟩
    rw [hkeep q (Nat.lt_of_lt_of_le h1 hS.1)]
    exact hS.2.1 q h1 h2
/-- a return -/
theorem z_ret {p : Program} {l : Launch} {e : Env} {R : Room} {s : State} {m : MethodId} {args : Array Value} {below : List Frame} {meth : Method} {c : Code} {H : Heap} {locs : List Loc} {cells slots : Nat}
    {g : zG} {D : va_G} {k : zM} (C : zCx p R s m args c k g D (zA g) s.heap none) (hr : meth.sig.returnType = k.2.2.2.1) (hlocks : meth.locks = false) {L : zL} {S : List zV} {σ : zS} {ls : Array Slot} (hst : zSt g D (zA g) s.heap k.2.2.1 L σ ls H locs)
    {i : Instr} {len pc : Nat} (hd : decode k.2.1 pc = .ok (i, len)) (hk : zkind i len = (1, 0)) {rv : Option zV} (hret : zret k.2.2.2.1 i S = some rv) {mc ms : Nat} (hc : cells ≤ mc) (hs : slots ≤ ms) :
    W p l e R s m args below meth c H locs cells slots (vx_MQ below (zQx g D (.inl rv) σ) (zXx g D (.inl rv) σ) args s mc ms (zA g)) (F0 m pc ls (S.map (zv g.1))) := by
  obtain ⟨hexec, hb, hml, hown, hts, hcl, hK, hD, hX⟩ := C
  obtain ⟨hlv, hP, hS⟩ := hst
  refine W.widen hc hs (vx_ret ?_)
  have hfin : ∀ (rt : Option Value), rt = rv.map (zv g.1) → ∀ t : State, t.heap = H → s.WarmedH t.vm → zQx g D (.inl rv) σ args s (.returned rt) t := by
    intro rt hrt t ht hW
    subst hrt
    exact ⟨⟨rv, rfl, rfl⟩, by rw [ht]; exact hP, hS.F ht⟩
  obtain ⟨hlen, hc4⟩ := zret_inv hk hret
  subst hlen
  rcases hc4 with ⟨rfl, a, rfl, rfl, hrt⟩ | ⟨rfl, a, rfl, rfl, hrt⟩ | ⟨rfl, a, CC, rfl, rfl, hrt⟩ | ⟨rfl, rfl, rfl, hrt⟩
  · rcases hrt with hrt | ⟨hrt, hb1⟩
    · exact W.iret hexec hb (hr.trans hrt) (hfin _ rfl) hS.2.2 hd hlocks
    · refine W.zret hexec hb (ty := .boolean) (hr.trans hrt) ?_ (hfin _ rfl) hS.2.2 hd hlocks
      rw [← zI_nrm a]
      rcases hb1 with h5 | h5 <;> rw [h5] <;> rfl
  · exact W.lret hexec hb (hr.trans hrt) (hfin _ rfl) hS.2.2 hd hlocks
  · refine W.aret hexec hb (rt := .object CC) (hr.trans hrt) (Or.inl ⟨_, rfl⟩) ?_ (hfin _ rfl) hS.2.2 hd hlocks
    cases a with
    | none => exact Or.inl rfl
    | some q => exact Or.inr ⟨_, rfl⟩
  · exact W.vret hexec hb (hr.trans hrt) (hfin _ rfl) hS.2.2 hd hlocks
/-- what zi tells of a method without handlers that may throw -/
def zOk (k : zM) (q : zQ) (o : Option zV ⊕ String) : Prop := (∃ rv, q.1 = some rv ∧ o = .inl rv) ∨ (q.1 = none ∧ q.2.2.2.1 = [] ∧ ∃ E, zSite k q.2.1 E ∧ o = .inr E)
theorem z_thr (l : Launch) (hl : l.stackTraces = false) {d : Nat} (hd6 : 6 ≤ d) {k : zM} (hok : zokM k) (hk : k.1.cls = RX2) {g : zG} {D : va_G} {vs : List zV} {σ : zS} (hi : zInj g) (hent : (zent vs).length ≤ k.2.2.1) {stp : Nat → Bool} {q : zQ}
    (hq : zD d k none stp 0 (zpad k.2.2.1 (zent vs)) [] σ = some q) {o : Option zV ⊕ String} (ho : zOk k q o) : zXM l d k (zWs k) g D vs σ o q.2.2.2.2 := by
  refine vx_ofW (cc := k.2.1) (maxL := k.2.2.1) (ret := k.2.2.2.1) (ws' := zT) hok.2.1 rfl ?_
  intro p e s m args below meth c s₁ B hml ht hv
  obtain ⟨rfl, ⟨hP, hK, hN⟩, hE⟩ := hv
  have hts := atoms_spec (ws := zWs k) B.pre
  have hown : s.vm.findClass k.1.cls = some m.cls := findClass_of_methodNamed B.named
  have C : zCx p (zRx d) s m ((vs.map (zv g.1)).toArray) c k g D (zA g) s.heap none := ⟨B.exec, B.bytes, hml, hown, fun w hw => hts w (List.mem_cons_of_mem _ hw), hok.2.2.2.2.2, hK, fun σ => zD_of hi _ (fun _ h => h) σ, trivial⟩
  rw [lg_entry_eq]
  have hlv0 := zentry g.1 vs hent
  generalize (lg_sl (vs.map (zv g.1)) ++ List.replicate (k.2.2.1 - (lg_sl (vs.map (zv g.1))).length) Slot.unset).toArray = ls at hlv0 ⊢
  obtain ⟨f, hf⟩ := zD_some.mp hq
  refine z_run (l := l) (e := e) (R := zRx d) (s := s) (m := m) (below := below) (meth := meth) (c := c) (cells := 0) (slots := 0) (Q := vx_MQ below (zQx g D o q.2.2.2.2) (zXx g D o q.2.2.2.2) (vs.map (zv g.1)).toArray s 1 6 (zA g)) C hN (d := d) ⟨Nat.le_refl _, Nat.le_refl _⟩ ⟨Nat.zero_le _, Nat.zero_le _⟩ hi (fun _ h => h) (fun d' _ => z_met l d') stp f 0 _ [] σ ls s.heap [] q ⟨hlv0, hP, va_S.rf⟩ hf fun ls' H' locs' hst => ?_
  have hlocks := B.notSynchronized
  obtain ⟨qo, qpc, qL, qS, qσ⟩ := q
  rcases ho with ⟨rv, hq1, rfl⟩ | ⟨hq1, hq2, E, site, rfl⟩
  · dsimp only at hq1 hst ⊢
    subst hq1
    obtain ⟨i, len, hd, hkd, hret⟩ := zrun_ret _ _ _ _ _ _ _ _ _ _ _ hf
    exact z_ret C B.returns hlocks hst hd hkd hret (Nat.zero_le _) (Nat.zero_le _)
  · dsimp only at hq1 hq2 site hst ⊢
    subst hq2
    exact z_throw C hk hE hl hst site ⟨hd6, by show 128 ≤ d * 128; omega, Nat.le_refl _, Nat.le_refl _⟩ hlocks ht
section ZXC
variable {p : Program} {l : Launch} {e : Env} {R : Room} {s : State} {m : MethodId} {args : Array Value} {below : List Frame} {meth : Method} {c : Code} {H H0 : Heap} {locs : List Loc} {cells slots : Nat} {Q : State → Prop}
theorem zx_callk {pc : Nat} {ls : Array Slot} {rest st0 : List Value} {a : Array Value} {A : Nat → Prop} {g : zG} {D : va_G} {o : Option zV ⊕ String} {σ' : zS} {mc ms : Nat}
    (hr : vx_Run p l e R s m args below meth c H locs cells slots mc ms (F0 m pc ls st0) rest (zQx g D o σ' a) (zXx g D o σ') (zA g)) (hS : va_S A H0 H locs) (hA : ∀ q, zA g q → A q)
    (kx : ∀ (E : String) (ce : Cell) (q : Addr) (H1 : Heap) (locs1 : List Loc), o = .inr E → va_P D zcl (zwd g σ') H1 → va_S A H0 H1 locs1 → (∀ a : Nat, a < H.size → ¬ zA g a → H1[a]? = H[a]?) → H1[q]? = some ce → ce.vm = .none → s.vm.findClass E = some ce.cls → vx_W p l e R s m args below meth c H1 locs1 (cells + mc) (slots + ms) Q (F0 m pc ls rest) q)
    (kk : ∀ (rv : Option zV) (H1 : Heap) (locs1 : List Loc), o = .inl rv → va_P D zcl (zwd g σ') H1 → va_S A H0 H1 locs1 → (∀ a : Nat, a < H.size → ¬ zA g a → H1[a]? = H[a]?) → W p l e R s m args below meth c H1 locs1 (cells + mc) (slots + ms) Q (F0 m (pc + 3) ls ((rv.map (zv g.1)).toList ++ rest))) : W p l e R s m args below meth c H locs cells slots Q (F0 m pc ls st0) := by
  intro T hT X
  rcases hr T hT X with ⟨v, st₀, t, T', L, h0, X', hL, e1, e2, ⟨⟨rv, ho, hv⟩, hp, hF⟩, st⟩ | ⟨q, st₀, t, T', L, E, ce, h0, X', hL, e1, e2, ⟨ho, hp, hF⟩, hce, hcv, hcl, st⟩
  · cases hv
    obtain ⟨k1, k2, k3⟩ := vx_keep h0 e1 hS (fun q _ h => hA q h) hA hL hF
    obtain ⟨t2, a1, b1⟩ := kk rv T'.heap (locs ++ L) ho (by rw [e1]; exact hp) k3 k2 T' rfl X'
    exact ⟨t2, st t2 a1, b1⟩
  · obtain ⟨k1, k2, k3⟩ := vx_keep h0 e1 hS (fun q _ h => hA q h) hA hL hF
    obtain ⟨t2, a1, b1⟩ := kx E ce q T'.heap (locs ++ L) ho (by rw [e1]; exact hp) k3 k2 (by rw [e1]; exact hce) hcv hcl T' rfl X'
    exact ⟨t2, st.trans a1, b1⟩
end ZXC
/-- the caught exception goes into a local that is not read again -/
theorem zlv_any {ad : Nat → Nat} {ls : Array Slot} {n : Nat} {L : zL} {i : Nat} {v : Value} (h : lv_has ls n ((i, v) :: (zloc ad L).filter (fun q => !(q.1 == i) && !(q.1 + 1 == i && q.2.category == 2)))) {L' : zL} (hL : ∀ j u, zget L' j = some u → zget L j = some u ∧ j ≠ i ∧ ¬ (j + 1 = i ∧ ∃ x, u = zJ x)) : lv_has ls n (zloc ad L') := by
  refine lv_mono h fun q hq => ?_
  obtain ⟨j, w⟩ := q
  obtain ⟨u, hu, rfl⟩ := zloc_mem.mp hq
  obtain ⟨h1, h2, h3⟩ := hL j u hu
  refine List.mem_cons_of_mem _ (List.mem_filter.mpr ⟨zloc_mem.mpr ⟨u, h1, rfl⟩, ?_⟩)
  have e1 : (j == i) = false := by simpa using h2
  by_cases e2 : j + 1 = i
  · have h4 : ¬ (zv ad u).category = 2 := fun c => h3 ⟨e2, zv_cat ad u c⟩
    have e3 : ((zv ad u).category == 2) = false := by simpa using h4
    simp [e1, e3]
  · have e3 : (j + 1 == i) = false := by simpa using e2
    simp [e1, e3]
