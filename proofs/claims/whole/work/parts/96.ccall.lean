/-! constructors: contracts and calls -/
def zCp (g : zG) (D : va_G) (h : Nat) (e0 : va_E) (sz : Nat) : Array Value → State → Prop := va_Pc [.ref h] (fun U => U.heap.size = sz ∧ va_P D zcl [(h, e0)] U.heap ∧ va_D (fun _ => True) [(h, e0)] ∧ va_K D zcl (ztys g) U ∧ (∀ w ∈ zNC, va_Nw w U) ∧ va_AO RX1 U)
def zCq (D : va_G) (h : Nat) (e0 : va_E) (sz : Nat) (F : va_W → Prop) : Array Value → State → Outcome → State → Prop := va_Qv (fun _ : Unit => True) (fun _ t => ∃ w1, F w1 ∧ va_P D zcl w1 t.heap ∧ va_D (va_A [(h, e0)] sz) w1) (va_A [(h, e0)] sz)
theorem zCp_blind (g : zG) (D : va_G) (h : Nat) (e0 : va_E) (sz : Nat) : FrameBlind (zCp g D h e0 sz) := fun a U f mk hh => by
  obtain ⟨h1, h2, h3, h4, h5, h6, h7⟩ := hh
  exact ⟨h1, h2, h3, h4, va_K.moved (u := U) (U := U.calling f mk a) (Vm.Alike.refl U.vm) h5, zNC_same (s := U) (U := U.calling f mk a) rfl h6, va_AO.moved (u := U) (U := U.calling f mk a) (Vm.Alike.refl U.vm) h7⟩
theorem zjoin1 {D : va_G} {A0 : Nat → Prop} {wr w1 : va_W} {x : Nat × va_E} {H H1 : Heap} (hP : va_P D zcl (wr ++ [x]) H) (hD : va_D A0 (wr ++ [x])) (hk : ∀ q : Nat, q < H.size → ¬ va_A [x] H.size q → H1[q]? = H[q]?) (hF : ∀ q, va_A [x] H.size q → A0 q) (hP1 : va_P D zcl w1 H1) (hD1 : va_D (va_A [x] H.size) w1) : va_P D zcl (wr ++ w1) H1 ∧ va_D A0 (wr ++ w1) := by
  have hwr : ∀ {i : Nat} {q : Nat × va_E}, wr[i]? = some q → (wr ++ [x])[i]? = some q := fun {i q} h => by
    rw [List.getElem?_append_left (List.getElem?_eq_some_iff.mp h).1]; exact h
  have hx : (wr ++ [x])[wr.length]? = some x := by rw [List.getElem?_append_right (Nat.le_refl _), Nat.sub_self]; rfl
  have hne : ∀ {i : Nat} {q : Nat × va_E}, wr[i]? = some q → ¬ va_A [x] H.size q.1 := by
    intro i q h hh
    rcases hh with ⟨k, e, h2⟩ | h2
    · have hk0 : k = 0 := by have := (List.getElem?_eq_some_iff.mp h2).1; simp at this; exact this
      subst hk0
      have e1 : x = (q.1, e) := Option.some.inj h2
      have := hD.1 i wr.length q x (hwr h) hx (by rw [e1])
      have h3 := (List.getElem?_eq_some_iff.mp h).1
      omega
    · have := vx_lt hP (hwr h)
      omega
  refine ⟨va_P.app (fun i q h => ((hP i q (hwr h)).kept (hk _ (vx_lt hP (hwr h)) (hne h)))) hP1, va_D.app ⟨fun i j a b h1 h2 e => hD.1 i j a b (hwr h1) (hwr h2) e, fun i q h => hD.2 i q (hwr h)⟩ (hD1.weaken fun _ q _ h => hF _ h) fun i j a b h1 h2 e => hne h1 (by rw [e]; exact hD1.2 j b h2)⟩
section CCALL
variable {p : Program} {l : Launch} {e : Env} {R : Room} {s : State} {m : MethodId} {args : Array Value} {below : List Frame} {meth : Method} {c : Code} {H : Heap} {locs : List Loc} {cells slots mc ms : Nat} {Q : State → Prop}
variable {g : zG} {D : va_G} {A : Nat → Prop} {k : zM} {wr : va_W} {pc : Nat} {ls : Array Slot} {rest : List Value} {h : Nat} {e0 : va_E} {F : va_W → Prop} {a : Array Value}
theorem zc_pre (C : zKc p s m args c k g D) (hst : zKs D A (wr ++ [(h, e0)]) s.heap H locs) : PreS s H (zCp g D h e0 H.size) [.ref h] := by
  obtain ⟨hexec, hb, hml, hown, hts, hcl, hK, hN, hO⟩ := C
  obtain ⟨hP, hD, hS⟩ := hst
  have hx : (wr ++ [(h, e0)])[wr.length]? = some (h, e0) := by rw [List.getElem?_append_right (Nat.le_refl _), Nat.sub_self]; rfl
  refine ⟨zCp_blind _ _ _ _ _, fun U hU hW => ⟨rfl, by rw [hU], fun i q hq => ?_, ⟨fun i j a b h1 h2 _ => ?_, fun _ _ _ => trivial⟩, va_K.moved hW.alike hK, zNC_warm hW hN, va_AO.moved hW.alike hO⟩⟩
  · have hk0 : i = 0 := by have := (List.getElem?_eq_some_iff.mp hq).1; simp at this; exact this
    subst hk0
    cases hq
    rw [hU]
    exact hP _ _ hx
  · have hi0 : i = 0 := by have := (List.getElem?_eq_some_iff.mp h1).1; simp at this; exact this
    have hj0 : j = 0 := by have := (List.getElem?_eq_some_iff.mp h2).1; simp at this; exact this
    omega
theorem zc_call (hA : ∀ q, s.heap.size ≤ q → A q) (hst : zKs D A (wr ++ [(h, e0)]) s.heap H locs) (hr : va_Run p l e R s m args below meth c H locs cells slots mc ms (F0 m pc ls (.ref h :: rest)) rest (zCq D h e0 H.size F a) (va_A [(h, e0)] H.size))
    (kk : ∀ (w1 : va_W) (H1 : Heap) (locs1 : List Loc), F w1 → zKs D A (wr ++ w1) s.heap H1 locs1 → W p l e R s m args below meth c H1 locs1 (cells + mc) (slots + ms) Q (F0 m (pc + 3) ls rest)) : W p l e R s m args below meth c H locs cells slots Q (F0 m pc ls (.ref h :: rest)) := by
  obtain ⟨hP, hD, hS⟩ := hst
  have hx : (wr ++ [(h, e0)])[wr.length]? = some (h, e0) := by rw [List.getElem?_append_right (Nat.le_refl _), Nat.sub_self]; rfl
  have hF : ∀ q, va_A [(h, e0)] H.size q → A q := by
    intro q hq
    rcases hq with ⟨i, e1, h2⟩ | h2
    · have hk0 : i = 0 := by have := (List.getElem?_eq_some_iff.mp h2).1; simp at this; exact this
      subst hk0
      cases h2
      exact hD.2 _ _ hx
    · exact hA q (Nat.le_trans hS.1 h2)
  refine va_callv hr hS (fun q _ hq => hF q hq) hF fun u t H1 locs1 ht hvm _ hB hz hk hS1 => ?_
  obtain ⟨w1, hw, hP1, hD1⟩ := hB
  rw [ht] at hP1
  obtain ⟨hP2, hD2⟩ := zjoin1 hP hD hk hF hP1 hD1
  exact kk w1 H1 locs1 hw ⟨hP2, hD2, hS1⟩
end CCALL
/-- the end of a constructor -/
theorem zc_end {p : Program} {l : Launch} {e : Env} {R : Room} {s : State} {m : MethodId} {below : List Frame} {meth : Method} {c : Code} {H : Heap} {locs : List Loc} {g : zG} {D : va_G} {k : zM} {h : Nat} {e0 : va_E} {F : va_W → Prop} {ws : va_W} {pc : Nat} {ls : Array Slot} {mc ms : Nat}
    (C : zKc p s m #[Value.ref h] c k g D) (hst : zKs D (va_A [(h, e0)] s.heap.size) ws s.heap H locs) (hF : F ws) (hr : meth.sig.returnType = none) (hlocks : meth.locks = false) (hd : decode k.2.1 pc = .ok (.return_, 1)) :
    W p l e R s m #[Value.ref h] below meth c H locs mc ms (MQ below (zCq D h e0 s.heap.size F) #[Value.ref h] s mc ms (va_A [(h, e0)] s.heap.size)) (F0 m pc ls []) := by
  obtain ⟨hP, hD, hS⟩ := hst
  exact W.vret C.1 C.2.1 hr (fun t ht hW => ⟨⟨(), rfl, trivial, ws, hF, by rw [ht]; exact hP, hD⟩, hS.F ht⟩) hS.2.2 hd hlocks
def zRc (fr mc ms lo : Nat) : Room := { frames := fr, cells := mc, slots := ms, locals := lo }
def zCm (l : Launch) (k : zM) (rm : Room) (g : zG) (D : va_G) (h : Nat) (e0 : va_E) (sz : Nat) (F : va_W → Prop) (mc ms : Nat) : Prop := Met l k.1 (zWs k) rm (zCp g D h e0 sz) (zCq D h e0 sz F) mc ms (va_A [(h, e0)] sz)
/-- the body of a constructor, from its entry -/
theorem zc_body {l : Launch} {k : zM} {g : zG} {D : va_G} {h : Nat} {e0 : va_E} {sz : Nat} {F : va_W → Prop} {mc ms fr lo : Nat} (hpl : plainName k.1.cls = true) (hcl : k.1.cls = zown k.2.2.2.2.1) (hn : k.1.name = "<init>") (hret : k.2.2.2.1 = none) (h1 : 1 ≤ k.2.2.1)
    (body : ∀ (p : Program) (e : Env) (s : State) (m : MethodId) (below : List Frame) (meth : Method) (c : Code) (ls : Array Slot), zKc p s m #[Value.ref h] c k g D → zKs D (va_A [(h, e0)] s.heap.size) [(h, e0)] s.heap s.heap [] → (∀ q, s.heap.size ≤ q → va_A [(h, e0)] s.heap.size q) → lv_has ls k.2.2.1 [(0, .ref h)] → meth.sig.returnType = none → meth.locks = false → meth.name = "<init>" →
      W p l e (zRc fr mc ms lo) s m #[Value.ref h] below meth c s.heap [] 0 0 (MQ below (zCq D h e0 s.heap.size F) #[Value.ref h] s mc ms (va_A [(h, e0)] s.heap.size)) (F0 m 0 ls [])) : zCm l k (zRc fr mc ms lo) g D h e0 sz F mc ms := by
  refine Met.ofW (cc := k.2.1) (maxL := k.2.2.1) (ret := k.2.2.2.1) (ws' := zT) hpl rfl ?_
  intro p e s m args below meth c s₁ B hml hv
  obtain ⟨rfl, rfl, hP, hD, hK, hN, hO⟩ := hv
  have hts := atoms_spec (ws := zWs k) B.pre
  have hown : s.vm.findClass k.1.cls = some m.cls := findClass_of_methodNamed B.named
  have hl := lv_entry ([.ref h]) (n := k.2.2.1) h1
  rw [lg_entry_eq]
  generalize (lg_sl ([.ref h]) ++ List.replicate (k.2.2.1 - (lg_sl ([.ref h])).length) Slot.unset).toArray = ls at hl ⊢
  have hl : lv_has ls k.2.2.1 [(0, .ref h)] := hl
  exact body p e s m below meth c ls ⟨B.exec, B.bytes, hml, hown, fun w hw => hts w (List.mem_cons_of_mem _ hw), hcl, hK, hN, hO⟩ ⟨hP, hD.self, va_S.rf⟩ (fun q h => Or.inr h) hl (B.returns.trans hret) B.notSynchronized ((name_of_methodNamed B.named B.method).1.trans hn)
