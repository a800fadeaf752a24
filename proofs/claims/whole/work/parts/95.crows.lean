/-! constructors: rows -/
def mX0_init : zM := (yX0_init, cX0_init, 1, none, 0, [])
def mX1_init : zM := (yX1_init, cX1_init, 1, none, 1, [])
def mX2_init : zM := (yX2_init, cX2_init, 2, none, 2, [])
def mX3_init : zM := (yX3_init, cX3_init, 1, none, 3, [])
def zNC : List Cond := [.methodLinkNest RX2 11 yX0_init RX2, .methodLinkNest RX2 43 yX1_init RX2]
theorem zNC_warm {s U : State} (hW : s.WarmedH U.vm) (h : ∀ w ∈ zNC, va_Nw w s) : ∀ w ∈ zNC, va_Nw w U := by
  intro w hw
  have h1 := h w hw
  simp only [zNC, List.mem_cons, List.not_mem_nil, or_false] at hw
  rcases hw with rfl | rfl <;> exact va_Nw.warmM hW h1
theorem zNC_same {s U : State} (hv : s.vm = U.vm) (h : ∀ w ∈ zNC, va_Nw w s) : ∀ w ∈ zNC, va_Nw w U := by
  intro w hw
  have h1 := h w hw
  simp only [zNC, List.mem_cons, List.not_mem_nil, or_false] at hw
  rcases hw with rfl | rfl <;> exact va_Nw.same rfl hv h1
def zKc (p : Program) (s : State) (m : MethodId) (args : Array Value) (c : Code) (k : zM) (g : zG) (D : va_G) : Prop :=
  p.tables.exec = Jvm.exec ∧ c.code = k.2.1 ∧ c.maxLocals = k.2.2.1 ∧ s.vm.findClass k.1.cls = some m.cls ∧ (∀ w ∈ zT, w.before args s = true) ∧ k.1.cls = zown k.2.2.2.2.1 ∧ va_K D zcl (ztys g) s ∧ (∀ w ∈ zNC, va_Nw w s) ∧ va_AO RX1 s
def zKs (D : va_G) (A : Nat → Prop) (ws : va_W) (H0 H : Heap) (locs : List Loc) : Prop := va_P D zcl ws H ∧ va_D A ws ∧ va_S A H0 H locs
abbrev eI (g : zG) (n : Nat) : va_E := .inl (g.2.1, n, .inl fun _ => 0)
abbrev eJ (g : zG) (n : Nat) : va_E := .inl (g.2.2.1, n, .inr (.inl fun _ => 0))
abbrev eQ (g : zG) (n : Nat) (f : Nat → Option Nat) : va_E := .inl (g.2.2.2, n, .inr (.inr (.inr (.inr f))))
section CROWS
variable {p : Program} {l : Launch} {e : Env} {R : Room} {s : State} {m : MethodId} {args : Array Value} {below : List Frame} {meth : Method} {c : Code} {H : Heap} {locs : List Loc} {cells slots : Nat} {Q : State → Prop}
variable {g : zG} {D : va_G} {A : Nat → Prop} {k : zM} {ws : va_W} {pc : Nat} {ls : Array Slot} {rest : List Value}
theorem zr_obj (C : zKc p s m args c k g D) (hl : ls.size = k.2.2.1) {idx : Nat} (hlk : Cond.methodLink k.1.cls idx Lib.objectInit ∈ zT) {a : Addr} (hd : decode k.2.1 pc = .ok (.invokespecial idx, 3)) (hR : 1 ≤ R.frames ∧ (rest.map fun v => v.category).sum + 12 ≤ R.locals)
    (kk : W p l e R s m args below meth c H locs cells slots Q (F0 m (pc + 3) ls rest)) : W p l e R s m args below meth c H locs cells slots Q (F0 m pc ls (.ref a :: rest)) := by
  obtain ⟨hexec, hb, hml, hown, hts, hcl, hK, hN, hO⟩ := C
  refine W.objInit hexec hb hown (hts _ hlk) (hts _ (zT_at 69 (by decide +kernel) (by decide +kernel))) (hts _ (zT_at 70 (by decide +kernel) (by decide +kernel))) rfl (hl.trans hml.symm) rfl hd hR.1 ?_ ?_
  · show 2 * 0 + (rest.map fun v => v.category).sum + 12 ≤ R.locals
    omega
  · exact kk
theorem zr_put (C : zKc p s m args c k g D) {ci idx f : Nat} (hf : zfl k.2.2.2.2.1 idx = some (ci, f)) {r : vw_C} (hr : zcl[ci]? = some r) (hst : zKs D A ws s.heap H locs) (q0 : Nat) {a : Nat} {fs : List Value} (he : ws[q0]? = some (a, .inr (ci, fs)))
    {ty : FieldType} (hty : parseFieldDescriptor (r.2.1 f).2.2.1 = some ty) {v : Value} (hn : narrow ty v = v) (hfit : fits ty v = true) (hl : f < fs.length) (hin : meth.name = "<init>") (hfin : (r.2.1 f).2.2.2 = false ∨ (r.2.1 f).1 = k.1.cls) (hd : decode k.2.1 pc = .ok (.putfield idx, 3))
    (kk : ∀ (H1 : Heap) (locs1 : List Loc), zKs D A (ws.set q0 (a, .inr (ci, fs.set f v))) s.heap H1 locs1 → W p l e R s m args below meth c H1 locs1 cells slots Q (F0 m (pc + 3) ls rest)) :
    W p l e R s m args below meth c H locs cells slots Q (F0 m pc ls (v :: .ref a :: rest)) := by
  obtain ⟨hexec, hb, hml, hown, hts, hcl, hK, hN, hO⟩ := C
  obtain ⟨hP, hD, hS⟩ := hst
  obtain ⟨r', hr', hfr, hlk⟩ := zfl_ok hf
  have er : r' = r := Option.some.inj (hr'.symm.trans hr)
  subst er
  rw [← hcl] at hlk
  obtain ⟨ty0, hty0, hnm⟩ := zty hr
  cases hq : (r'.2.1 f).2.2.2 with
  | false => exact va_put hexec hb hts (zly hr) ty0 hty0 hnm hown hK hP hD hS q0 he hr f hfr (hts _ hlk) (fun x hx => hx) hq hty hn hfit hl hd fun H1 locs1 hP1 hD1 hS1 => kk H1 locs1 ⟨hP1, hD1, hS1⟩
  | true =>
    refine va_putF hexec hb hts (zly hr) ty0 hty0 hnm hown hK hP hD hS q0 he hr f hfr (hts _ hlk) (fun x hx => hx) hq hin ?_ hty hn hfit hl hd fun H1 locs1 hP1 hD1 hS1 => kk H1 locs1 ⟨hP1, hD1, hS1⟩
    rcases hfin with h | h
    · rw [hq] at h; cases h
    · exact h
theorem zr_newI (C : zKc p s m args c k g D) (hA : ∀ q, s.heap.size ≤ q → A q) (hst : zKs D A ws s.heap H locs) {n : Int32} (N : Nat) (hn : ¬ n < 0) (hN : n.toNatClampNeg = N) (hb4 : N * 4 ≤ 536870912) (hc : cells + 1 ≤ R.cells) (hs : slots + N ≤ R.slots) (hd : decode k.2.1 pc = .ok (.newarray .int, 2))
    (kk : ∀ (q : Nat) (H1 : Heap), zKs D A (ws ++ [(q, eI g N)]) s.heap H1 locs → W p l e R s m args below meth c H1 locs (cells + 1) (slots + N) Q (F0 m (pc + 2) ls (.ref q :: rest))) :
    W p l e R s m args below meth c H locs cells slots Q (F0 m pc ls (.int n :: rest)) := by
  obtain ⟨hexec, hb, hml, hown, hts, hcl, hK, hNc, hO⟩ := C
  obtain ⟨hP, hD, hS⟩ := hst
  refine va_newa (ty := .int) (a0 := (N, .inl fun _ => 0)) hexec hb (hts _ (zT_at 109 (by decide +kernel) (by decide +kernel))) rfl hK hP hD hS hA (fun _ => rfl) hn hN hb4 hc hs hd fun q cA H1 hK1 hP1 hD1 hS1 => ?_
  have h1 := (hK1.2 3 (cA, .int) rfl).2
  have h2 := (hK.2 0 (g.2.1, .int) rfl).2
  have h3 : s.vm.findClass ("[" ++ FieldType.int.toString) = some cA := h1
  have h4 : s.vm.findClass ("[" ++ FieldType.int.toString) = some g.2.1 := h2
  have e1 : cA = g.2.1 := Option.some.inj (h3.symm.trans h4)
  subst e1
  exact kk q H1 ⟨hP1, hD1, hS1⟩
theorem zr_newJ (C : zKc p s m args c k g D) (hA : ∀ q, s.heap.size ≤ q → A q) (hst : zKs D A ws s.heap H locs) {n : Int32} (N : Nat) (hn : ¬ n < 0) (hN : n.toNatClampNeg = N) (hb4 : N * 8 ≤ 536870912) (hc : cells + 1 ≤ R.cells) (hs : slots + N ≤ R.slots) (hd : decode k.2.1 pc = .ok (.newarray .long, 2))
    (kk : ∀ (q : Nat) (H1 : Heap), zKs D A (ws ++ [(q, eJ g N)]) s.heap H1 locs → W p l e R s m args below meth c H1 locs (cells + 1) (slots + N) Q (F0 m (pc + 2) ls (.ref q :: rest))) :
    W p l e R s m args below meth c H locs cells slots Q (F0 m pc ls (.int n :: rest)) := by
  obtain ⟨hexec, hb, hml, hown, hts, hcl, hK, hNc, hO⟩ := C
  obtain ⟨hP, hD, hS⟩ := hst
  refine va_newa (ty := .long) (a0 := (N, .inr (.inl fun _ => 0))) hexec hb (hts _ (zT_at 142 (by decide +kernel) (by decide +kernel))) rfl hK hP hD hS hA (fun _ => rfl) hn hN hb4 hc hs hd fun q cA H1 hK1 hP1 hD1 hS1 => ?_
  have h1 := (hK1.2 3 (cA, .long) rfl).2
  have h2 := (hK.2 1 (g.2.2.1, .long) rfl).2
  have h3 : s.vm.findClass ("[" ++ FieldType.long.toString) = some cA := h1
  have h4 : s.vm.findClass ("[" ++ FieldType.long.toString) = some g.2.2.1 := h2
  have e1 : cA = g.2.2.1 := Option.some.inj (h3.symm.trans h4)
  subst e1
  exact kk q H1 ⟨hP1, hD1, hS1⟩
theorem zr_newQ (C : zKc p s m args c k g D) (hA : ∀ q, s.heap.size ≤ q → A q) (hst : zKs D A ws s.heap H locs) {n : Int32} (N : Nat) (hn : ¬ n < 0) (hN : n.toNatClampNeg = N) (hb4 : N * 4 ≤ 536870912) (hc : cells + 1 ≤ R.cells) (hs : slots + N ≤ R.slots) {idx : Nat} (hlk : Cond.classLink k.1.cls idx RX1 ∈ zT) (hd : decode k.2.1 pc = .ok (.anewarray idx, 3))
    (kk : ∀ (q : Nat) (H1 : Heap), zKs D A (ws ++ [(q, eQ g N fun _ => none)]) s.heap H1 locs → W p l e R s m args below meth c H1 locs (cells + 1) (slots + N) Q (F0 m (pc + 3) ls (.ref q :: rest))) :
    W p l e R s m args below meth c H locs cells slots Q (F0 m pc ls (.int n :: rest)) := by
  obtain ⟨hexec, hb, hml, hown, hts, hcl, hK, hNc, hO⟩ := C
  obtain ⟨hP, hD, hS⟩ := hst
  refine va_newq hexec hb hown (hts _ hlk) hO hK hP hD hS hA hn hN hb4 hc hs hd fun q cA H1 hK1 hP1 hD1 hS1 => ?_
  obtain ⟨kA, comp, -, -, -, h3⟩ := (hK1.2 3 (cA, .object RX1) rfl).2
  obtain ⟨kA', comp', -, -, -, h4⟩ := (hK.2 2 (g.2.2.2, .object RX1) rfl).2
  have e1 : cA = g.2.2.2 := Option.some.inj (h3.symm.trans h4)
  subst e1
  exact kk q H1 ⟨hP1, hD1, hS1⟩
theorem zr_new (C : zKc p s m args c k g D) (hA : ∀ q, s.heap.size ≤ q → A q) (hst : zKs D A ws s.heap H locs) {ci idx : Nat} {r : vw_C} (hr : zcl[ci]? = some r) (hlk : Cond.classLink k.1.cls idx r.1 ∈ zT) (hins : Cond.instantiable r.1 r.2.2 ∈ zT) (hini : Cond.initialized r.1 ∈ zT) (fs : List Value)
    (hfs : ∀ j, j < r.2.2 → (parseFieldDescriptor (r.2.1 j).2.2.1).map defaultValue = some (vp_V fs j)) (hc : cells + 1 ≤ R.cells) (hs : slots + r.2.2 ≤ R.slots) (hd : decode k.2.1 pc = .ok (.new idx, 3))
    (kk : ∀ (q : Nat) (H1 : Heap), zKs D A (ws ++ [(q, .inr (ci, fs))]) s.heap H1 locs → W p l e R s m args below meth c H1 locs (cells + 1) (slots + r.2.2) Q (F0 m (pc + 3) ls (.ref q :: rest))) :
    W p l e R s m args below meth c H locs cells slots Q (F0 m pc ls rest) := by
  obtain ⟨hexec, hb, hml, hown, hts, hcl, hK, hNc, hO⟩ := C
  obtain ⟨hP, hD, hS⟩ := hst
  obtain ⟨ty0, hty0, hnm⟩ := zty hr
  refine va_new hexec hb hts (zly hr) ty0 hty0 hown (hts _ hlk) (hts _ hins) (hts _ hini) hK hP hD hS hA hr (fun j hj => ?_) hc hs hd fun q H1 hP1 hD1 hS1 => kk q H1 ⟨hP1, hD1, hS1⟩
  have h := hfs j hj
  rw [hty0 j hj] at h
  exact Option.some.inj h
theorem zr_ast (C : zKc p s m args c k g D) (hst : zKs D A ws s.heap H locs) (q0 qk : Nat) {a v n : Nat} {vs : List Value} {f : Nat → Option Nat} (ha : ws[q0]? = some (a, eQ g n f)) (hv : ws[qk]? = some (v, .inr (1, vs))) {i : Int32} (hin : vp_in i n) (hd : decode k.2.1 pc = .ok (.aastore, 1))
    (kk : ∀ (H1 : Heap) (locs1 : List Loc), zKs D A (ws.set q0 (a, eQ g n (va_up f i.toNatClampNeg (some v)))) s.heap H1 locs1 → W p l e R s m args below meth c H1 locs1 cells slots Q (F0 m (pc + 1) ls rest)) :
    W p l e R s m args below meth c H locs cells slots Q (F0 m pc ls (.ref v :: .int i :: .ref a :: rest)) := by
  obtain ⟨hexec, hb, hml, hown, hts, hcl, hK, hNc, hO⟩ := C
  obtain ⟨hP, hD, hS⟩ := hst
  exact va_astq hexec hb hK hP hD hS q0 2 qk 1 (r := (RX1, TX1, 6)) ha rfl hv rfl hin hd fun H1 locs1 hP1 hD1 hS1 => kk H1 locs1 ⟨hP1, hD1, hS1⟩
end CROWS
