/-! toss and the law's element: they call what throws, and catch -/
def zWsW (k : zM) (hh : List (Nat × Nat × Nat × Nat)) : List Cond := Cond.codeWith k.1 k.2.1 k.2.2.1 k.2.2.2.1 hh :: zT
def zHt : List (Nat × Nat × Nat × Nat) := [(24, 35, 38, 288), (24, 35, 56, 266), (24, 35, 66, 259)]
def zHl : List (Nat × Nat × Nat × Nat) := [(0, 9, 12, 13), (0, 9, 16, 15)]
theorem zwT_toss : Cond.codeWith mX2_toss.1 mX2_toss.2.1 mX2_toss.2.2.1 mX2_toss.2.2.2.1 zHt ∈ zT := zT_at 635 (by decide +kernel) (by decide +kernel)
theorem zwT_lel : Cond.codeWith mL_element.1 mL_element.2.1 mL_element.2.2.1 mL_element.2.2.2.1 zHl ∈ zT := zT_at 741 (by decide +kernel) (by decide +kernel)
section FIN
variable {p : Program} {l : Launch} {e : Env} {R : Room} {s : State} {m : MethodId} {args : Array Value} {below : List Frame} {meth : Method} {c : Code} {H : Heap} {locs : List Loc} {cells slots : Nat} {g : zG} {D : va_G} {k : zM}
/-- from here to a return -/
theorem z_fin (C : zCx p R s m args c k g D (zA g) s.heap none) (hN : zNk s) {d : Nat} (hR : d ≤ R.frames ∧ d * 128 ≤ R.locals) (hcs : cells ≤ R.cells ∧ slots ≤ R.slots) (hi : zInj g) (hr : meth.sig.returnType = k.2.2.2.1) (hlocks : meth.locks = false)
    {stp : Nat → Bool} {pc : Nat} {L : zL} {S : List zV} {σ : zS} {ls : Array Slot} (hst : zSt g D (zA g) s.heap k.2.2.1 L σ ls H locs) {rv : Option zV} {pc' : Nat} {L' : zL} {S' : List zV} {σ' : zS} (hq : zD d k none stp pc L S σ = some (some rv, pc', L', S', σ')) {mc ms : Nat} (hc : cells ≤ mc) (hs : slots ≤ ms) :
    W p l e R s m args below meth c H locs cells slots (vx_MQ below (zQx g D (.inl rv) σ') (zXx g D (.inl rv) σ') args s mc ms (zA g)) (F0 m pc ls (S.map (zv g.1))) := by
  obtain ⟨f, hf⟩ := zD_some.mp hq
  refine z_run C hN hR hcs hi (fun _ h => h) (fun d' _ => z_met l d') stp f pc L S σ ls H locs _ hst hf fun ls' H' locs' hst' => ?_
  obtain ⟨i, len, hd, hkd, hret⟩ := zrun_ret _ _ _ _ _ _ _ _ _ _ _ hf
  exact z_ret C hr hlocks hst' hd hkd hret hc hs
/-- the handler's first instruction, then to a return -/
theorem z_hand (C : zCx p R s m args c k g D (zA g) s.heap none) (hN : zNk s) {d : Nat} (hR : d ≤ R.frames ∧ d * 128 ≤ R.locals) (hcs : cells ≤ R.cells ∧ slots ≤ R.slots) (hi : zInj g) (hr : meth.sig.returnType = k.2.2.2.1) (hlocks : meth.locks = false)
    {stp : Nat → Bool} {pc : Nat} {L : zL} {σ : zS} {ls : Array Slot} (hst : zSt g D (zA g) s.heap k.2.2.1 L σ ls H locs) {rv : Option zV} {pc' : Nat} {L' : zL} {S' : List zV} {σ' : zS} {x : Addr} (hd : decode k.2.1 pc = .ok (.astore 4, 2)) (h4 : 4 < k.2.2.1)
    (hL : ∀ j u, zget L j = some u → zget L j = some u ∧ j ≠ 4 ∧ ¬ (j + 1 = 4 ∧ ∃ x, u = zJ x)) (hq : zD d k none stp (pc + 2) L [] σ = some (some rv, pc', L', S', σ')) {mc ms : Nat} (hc : cells ≤ mc) (hs : slots ≤ ms) :
    W p l e R s m args below meth c H locs cells slots (vx_MQ below (zQx g D (.inl rv) σ') (zXx g D (.inl rv) σ') args s mc ms (zA g)) (F0 m pc ls [.ref x]) := by
  refine lv_astore C.1 C.2.1 hd hst.1 h4 rfl fun ls' hls => ?_
  exact z_fin C hN hR hcs hi hr hlocks (ls := ls') (S := []) ⟨zlv_any hls hL, hst.2⟩ hq hc hs
end FIN
def mTv (o : Option zV ⊕ String) (k f : Int) : Int := match o with
  | .inl _ => -15
  | .inr E => if E = zEU then 200 + mcost k f else if E = zEI then 100 + f else f
theorem mTv_U (k f : Int) : mTv (.inr zEU) k f = 200 + mcost k f := by unfold mTv; exact if_pos rfl
theorem mTv_I (k f : Int) : mTv (.inr zEI) k f = 100 + f := by unfold mTv; exact (if_neg (show ¬ zEI = zEU by decide +kernel)).trans (if_pos rfl)
theorem mTv_A (k f : Int) : mTv (.inr zEA) k f = f := by unfold mTv; exact (if_neg (show ¬ zEA = zEU by decide +kernel)).trans (if_neg (show ¬ zEA = zEI by decide +kernel))
def mToss (σ : zS) (x : Int) : Int := if 0 ≤ x ∧ x < 8 then (if σ (20 + 2 * x.toNat) 0 = 0 then -11 else if σ (20 + 2 * x.toNat) 0 = 1 then mTv (mFail (σ (20 + 2 * x.toNat) 1) (σ (20 + 2 * x.toNat) 2)) (σ (20 + 2 * x.toNat) 1) (σ (20 + 2 * x.toNat) 2) else -12) else -1
abbrev zT1 : ExceptionTableEntry := ⟨24, 35, 38, 288⟩
abbrev zT2 : ExceptionTableEntry := ⟨24, 35, 56, 266⟩
abbrev zT3 : ExceptionTableEntry := ⟨24, 35, 66, 259⟩
theorem zfree4 {a b c : zV} (h : ∀ x, c ≠ zJ x) {v : zV} (hv : ∀ x, v ≠ zJ x) : ∀ j u, zget [some a, some b, some c, some v, none] j = some u → zget [some a, some b, some c, some v, none] j = some u ∧ j ≠ 4 ∧ ¬ (j + 1 = 4 ∧ ∃ x, u = zJ x) := by
  intro j u hu
  refine ⟨hu, fun e => ?_, fun e => ?_⟩
  · subst e; cases hu
  · obtain ⟨e1, x, e2⟩ := e
    have e3 : j = 3 := by omega
    subst e3
    have : v = u := Option.some.inj hu
    exact hv x (this.trans e2)
set_option maxHeartbeats 4000000 in
theorem x_toss (l : Launch) (hl : l.stackTraces = false) {d : Nat} (hd : 10 ≤ d) {g : zG} {D : va_G} (hi : zInj g) {σ : zS} (hS : ∀ d, d < 8 → zShR σ d) {x : Int} (hx : R32 x) : zXM l d mX2_toss (zWsW mX2_toss zHt) g D [zR (some 0), zI x] σ (.inl (some (zI (mToss σ x)))) σ := by
  obtain ⟨d, rfl⟩ : ∃ n, d = n + 1 := ⟨d - 1, by omega⟩
  refine vx_ofWH (cc := mX2_toss.2.1) (maxL := mX2_toss.2.2.1) (ret := mX2_toss.2.2.2.1) (ws' := zT) (hh := zHt) (by decide +kernel) rfl ?_
  intro p e s m args below meth c s₁ B hml hv
  obtain ⟨rfl, ⟨hP, hK, hN⟩, hE⟩ := hv
  have hts0 := atoms_spec (ws := zWsW mX2_toss zHt) B.pre
  have hts : ∀ w ∈ zT, w.before ((([zR (some 0), zI x] : List zV).map (zv g.1)).toArray) s = true := fun w hw => hts0 w (List.mem_cons_of_mem _ hw)
  have htab : c.exceptionTable.toList = [zT1, zT2, zT3] := vx_table (x := mX2_toss.1) B (hts0 _ List.mem_cons_self)
  have hown : s.vm.findClass RX2 = some m.cls := findClass_of_methodNamed B.named
  have C : zCx p (zRx (d + 1)) s m ((([zR (some 0), zI x] : List zV).map (zv g.1)).toArray) c mX2_toss g D (zA g) s.heap none := ⟨B.exec, B.bytes, hml, hown, hts, fun _ => rfl, hK, fun σ => zD_of hi _ (fun _ h => h) σ, trivial⟩
  have hlocks := B.notSynchronized
  have hr := B.returns
  rw [lg_entry_eq]
  have hlv0 := zentry g.1 [zR (some 0), zI x] (n := 5) (Nat.le_of_ble_eq_true rfl)
  show W p l e (zRx (d + 1)) s m _ below meth c s.heap [] 0 0 _ (F0 m 0 (lg_sl (([zR (some 0), zI x] : List zV).map (zv g.1)) ++ List.replicate (5 - (lg_sl (([zR (some 0), zI x] : List zV).map (zv g.1))).length) Slot.unset).toArray (([] : List zV).map (zv g.1)))
  generalize (lg_sl (([zR (some 0), zI x] : List zV).map (zv g.1)) ++ List.replicate (5 - (lg_sl (([zR (some 0), zI x] : List zV).map (zv g.1))).length) Slot.unset).toArray = ls at hlv0 ⊢
  have hst0 : zSt g D (zA g) s.heap 5 [some (zR (some 0)), some (zI x), none, none, none] σ ls s.heap [] := ⟨hlv0, hP, va_S.rf⟩
  have hRR : d + 1 ≤ (zRx (d + 1)).frames ∧ (d + 1) * 128 ≤ (zRx (d + 1)).locals := ⟨Nat.le_refl _, Nat.le_refl _⟩
  by_cases q : 0 ≤ x ∧ x < 8
  · obtain ⟨i, rfl, hi8⟩ := zix_of q.1 q.2
    have hq := zSh_of i hi8
    obtain ⟨s1, -, s3, -⟩ := hS i hi8
    have et : mToss σ (i : Int) = if σ (20 + 2 * i) 0 = 0 then -11 else if σ (20 + 2 * i) 0 = 1 then mTv (mFail (σ (20 + 2 * i) 1) (σ (20 + 2 * i) 2)) (σ (20 + 2 * i) 1) (σ (20 + 2 * i) 2) else -12 := by
      unfold mToss
      rw [if_pos q]
      rfl
    have ea : zwt (d + 1) 0 [some (zR (some 0)), some (zI (i : Int)), none, none, none] [] σ = zwt (d + 1) 17 [some (zR (some 0)), some (zI (i : Int)), some (zR (some (20 + 2 * i))), none, none] [zI (if σ (20 + 2 * i) 0 = 0 then -11 else if σ (20 + 2 * i) 0 = 1 then 0 else -12)] σ := by
      rw [b_X2_toss_0, s_shelfAt _ _ hi8]
      show zwt (d + 1) 5 _ [zR (some (20 + 2 * i))] σ = _
      rw [b_X2_toss_5 _ _ hq, s_refusal _ hq (Or.inl rfl) s1]
      rfl
    by_cases h1 : σ (20 + 2 * i) 0 = 1
    · obtain ⟨-, -, hk, hf⟩ := s3 h1
      have h0 : ¬ σ (20 + 2 * i) 0 = 0 := by omega
      rw [if_neg h0, if_pos h1, b_X2_toss_17 _ _ _ hq, if_pos (by decide)] at ea
      rw [if_neg h0, if_pos h1] at et
      rw [et]
      obtain ⟨f, hf0⟩ := zD_some.mp (zY_some ea)
      refine z_run C hN hRR ⟨Nat.zero_le _, Nat.zero_le _⟩ hi (fun _ h => h) (fun d' _ => z_met l d') zwts f 0 _ [] σ ls s.heap [] _ hst0 hf0 fun ls' H' locs' hst => ?_
      dsimp only at hst ⊢
      obtain ⟨hlv, hP1, hS1⟩ := hst
      have hM := x_fail l hl (d := d) (by omega) (D := D) hi σ hk hf
      have hcw := va_cwS (R := zRx (d + 1)) (s := s) (args := ((([zR (some 0), zI (i : Int)] : List zV).map (zv g.1)).toArray)) (own := RX2) (index := 285) (rm := zRx d) 2 hts (y := yX2_throwFailure) (ws := zWs mX2_throwFailure) (ws' := zT) (bytes := mX2_throwFailure.2.1) (maxL := 2) (ret := none) (mc := 1) (ms := 6) (fun w hw => by
        rcases List.mem_append.mp hw with h1 | h1
        · simp only [List.mem_cons, List.not_mem_nil, or_false] at h1
          rcases h1 with rfl | rfl | rfl
          · exact zT_good (zT_at 639 (by decide +kernel) (by decide +kernel))
          · exact zT_good (zT_at 640 (by decide +kernel) (by decide +kernel))
          · exact zT_good zw_49
        · exact zT_in (fun w hw => by
            rcases List.mem_cons.mp hw with rfl | h1
            · exact zk_X2_throwFailure.1
            · exact h1) w h1) rfl rfl rfl ⟨by decide +kernel, by decide +kernel, by decide +kernel⟩ ⟨Nat.le_refl _, by show 8 + (2 + 11) + d * 128 ≤ (d + 1) * 128; omega⟩
      have hrun := vx_runS (l := l) (e := e) (below := below) (meth := meth) (locs := locs') (cells := 0) (slots := 0) (As := [.int (Int32.ofInt (σ (20 + 2 * i) 1)), .int (Int32.ofInt (σ (20 + 2 * i) 2))]) (rest := []) (g := F0 m 32 ls' [.int (Int32.ofInt (σ (20 + 2 * i) 2)), .int (Int32.ofInt (σ (20 + 2 * i) 1))]) (p := p) (c := c) (H := H') ⟨B.exec, B.bytes, hml, hown, hts⟩ hM hcw
        ⟨zPx_blind _ _ _ _, fun U hU hW => ⟨rfl, ⟨by rw [hU]; exact hP1, va_K.moved hW.alike hK, zNk_warm hW hN⟩, zEx_at hE (fun a h1 h2 => hS1.2.1 a h1 h2) hU hW⟩⟩ rfl rfl hlv.1 rfl (Nat.zero_le _) dX2_toss_32 ⟨Nat.le_refl _, Nat.le_refl _⟩
      refine zx_callk (mc := 1) (ms := 6) hrun hS1 (fun _ h => h) (fun E ce x9 H1 locs1 ho hP2 hS2 hH2 hce hcv hcl => ?_) (fun rv H1 locs1 ho hP2 hS2 hH2 => ?_)
      · rw [ho]
        have hst2 : zSt g D (zA g) s.heap 5 [some (zR (some 0)), some (zI (i : Int)), some (zR (some (20 + 2 * i))), some (zI 0), none] σ ls' H1 locs1 := ⟨hlv, hP2, hS2⟩
        have hc1 : 0 + 1 ≤ (zRx (d + 1)).cells ∧ 0 + 6 ≤ (zRx (d + 1)).slots := ⟨Nat.le_refl _, Nat.le_refl _⟩
        have hfree := zfree4 (a := zR (some 0)) (b := zI (i : Int)) (c := zR (some (20 + 2 * i))) (fun x h => by cases h) (v := zI 0) (fun x h => by cases h)
        have hEE : E = zEU ∨ E = zEI ∨ E = zEA := by
          unfold mFail at ho
          split at ho
          · cases ho
          · split at ho
            · cases ho; exact Or.inr (Or.inl rfl)
            · split at ho
              · cases ho; exact Or.inl rfl
              · cases ho; exact Or.inr (Or.inr rfl)
        obtain ⟨-, x2, x3, -, -⟩ := hE
        have hz40 : zwt (d + 1) 40 [some (zR (some 0)), some (zI (i : Int)), some (zR (some (20 + 2 * i))), some (zI 0), none] [] σ = some (some (some (zI (200 + mcost (σ (20 + 2 * i) 1) (σ (20 + 2 * i) 2)))), 55, [some (zR (some 0)), some (zI (i : Int)), some (zR (some (20 + 2 * i))), some (zI 0), none], [zI (200 + mcost (σ (20 + 2 * i) 1) (σ (20 + 2 * i) 2))], σ) := by
          rw [b_X2_toss_40 _ _ _ hq, s_costOf _ hk]
          show zwt (d + 1) 54 _ [zI (mcost (σ (20 + 2 * i) 1) (σ (20 + 2 * i) 2)), zI 200] σ = _
          rw [b_X2_toss_54 _ _ _ _ _ hq]
        rcases hEE with rfl | rfl | rfl
        · rw [mTv_U]
          refine vx_catch (own := RX2) (name := zEU) hown [] zT1 [zT2, zT3] htab (fun z hz => by cases hz) (by decide +kernel) (by decide +kernel) (hts _ (zT_at 636 (by decide +kernel) (by decide +kernel))) (va_Nw.use rfl (x2 _ (by decide +kernel))) hce hcv hcl ?_
          refine z_hand C hN hRR hc1 hi hr hlocks hst2 dX2_toss_38 (by decide) hfree (stp := zwts) (zY_some hz40) (Nat.le_refl _) (Nat.le_refl _)
        · rw [mTv_I]
          refine vx_catch (own := RX2) (name := zEI) hown [zT1] zT2 [zT3] htab (fun z hz => by
            simp only [List.mem_cons, List.not_mem_nil, or_false] at hz
            subst hz
            exact Or.inr ⟨by decide +kernel, zEU, hts _ (zT_at 636 (by decide +kernel) (by decide +kernel)), x3 (zEI, zEU) (by decide +kernel)⟩) (by decide +kernel) (by decide +kernel) (hts _ (zT_at 637 (by decide +kernel) (by decide +kernel))) (va_Nw.use rfl (x2 _ (by decide +kernel))) hce hcv hcl ?_
          refine z_hand C hN hRR hc1 hi hr hlocks hst2 dX2_toss_56 (by decide) hfree (stp := zwts) (zY_some (b_X2_toss_58 _ _ _ hq _)) (Nat.le_refl _) (Nat.le_refl _)
        · rw [mTv_A]
          refine vx_catch (own := RX2) (name := zEA) hown [zT1, zT2] zT3 [] htab (fun z hz => by
            simp only [List.mem_cons, List.not_mem_nil, or_false] at hz
            rcases hz with rfl | rfl
            · exact Or.inr ⟨by decide +kernel, zEU, hts _ (zT_at 636 (by decide +kernel) (by decide +kernel)), x3 (zEA, zEU) (by decide +kernel)⟩
            · exact Or.inr ⟨by decide +kernel, zEI, hts _ (zT_at 637 (by decide +kernel) (by decide +kernel)), x3 (zEA, zEI) (by decide +kernel)⟩) (by decide +kernel) (by decide +kernel) (hts _ (zT_at 638 (by decide +kernel) (by decide +kernel))) (va_Nw.use rfl (x2 _ (by decide +kernel))) hce hcv hcl ?_
          refine z_hand C hN hRR hc1 hi hr hlocks hst2 dX2_toss_66 (by decide) hfree (stp := zwts) (zY_some (b_X2_toss_68 _ _ _ hq _)) (Nat.le_refl _) (Nat.le_refl _)
      · rw [ho]
        have hrv : rv = none := by
          unfold mFail at ho
          split at ho
          · cases ho; rfl
          · split at ho
            · cases ho
            · split at ho <;> cases ho
        subst hrv
        exact z_fin C hN hRR ⟨Nat.le_refl _, Nat.le_refl _⟩ hi hr hlocks (S := []) ⟨hlv, hP2, hS2⟩ (stp := zwts) (zY_some (b_X2_toss_35 _ _ _ hq _)) (Nat.le_refl _) (Nat.le_refl _)
    · have ev : (if σ (20 + 2 * i) 0 = 0 then -11 else if σ (20 + 2 * i) 0 = 1 then 0 else -12 : Int) = mToss σ (i : Int) := by
        rw [et, if_neg h1, if_neg h1]
      have hne : ¬ nrm (mToss σ (i : Int)) = 0 := by
        rw [et, if_neg h1]
        split <;> decide
      rw [ev, b_X2_toss_17 _ _ _ hq, if_neg hne] at ea
      exact z_fin C hN hRR ⟨Nat.zero_le _, Nat.zero_le _⟩ hi hr hlocks (S := []) hst0 (stp := zwts) (zY_some ea) (Nat.zero_le _) (Nat.zero_le _)
  · have ea : zwt (d + 1) 0 [some (zR (some 0)), some (zI x), none, none, none] [] σ = some (some (some (zI ((-1)))), 11, [some (zR (some 0)), some (zI x), some (zR none), none, none], [zI ((-1))], σ) := by
      rw [b_X2_toss_0, s_shelfAtN _ _ hx q]
      show zwt (d + 1) 5 _ [zR none] σ = _
      rw [b_X2_toss_5_2]
    have et : mToss σ x = -1 := by unfold mToss; rw [if_neg q]
    rw [et]
    exact z_fin C hN hRR ⟨Nat.zero_le _, Nat.zero_le _⟩ hi hr hlocks (S := []) hst0 (stp := zwts) (zY_some ea) (Nat.zero_le _) (Nat.zero_le _)
