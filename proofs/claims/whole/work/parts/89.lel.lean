abbrev zU1 : ExceptionTableEntry := ⟨0, 9, 12, 13⟩
abbrev zU2 : ExceptionTableEntry := ⟨0, 9, 16, 15⟩
def mElc (σ : zS) (x y : Int) : Int := match mEl σ x y with
  | .inl _ => 0
  | .inr E => if E = zEA then 1 else 2
def mEls (σ : zS) (x y : Int) : zS := match mEl σ x y with
  | .inl (some (.inr (.inl v))) => zup σ 51 0 v
  | _ => σ
theorem mEl_cases (σ : zS) (x y : Int) : (∃ v, mEl σ x y = .inl (some (zJ v)) ∧ mElc σ x y = 0 ∧ mEls σ x y = zup σ 51 0 v) ∨ (mEl σ x y = .inr zEA ∧ mElc σ x y = 1 ∧ mEls σ x y = σ) ∨ (mEl σ x y = .inr zEI ∧ mElc σ x y = 2 ∧ mEls σ x y = σ) := by
  have hc : (∃ v, mEl σ x y = .inl (some (zJ v))) ∨ mEl σ x y = .inr zEA ∨ mEl σ x y = .inr zEI := by
    unfold mEl
    split
    · split
      · exact Or.inl ⟨_, rfl⟩
      · exact Or.inr (Or.inr rfl)
    · exact Or.inr (Or.inl rfl)
  rcases hc with ⟨v, h⟩ | h | h
  · exact Or.inl ⟨v, h, by unfold mElc; rw [h], by unfold mEls; rw [h]⟩
  · exact Or.inr (Or.inl ⟨h, by unfold mElc; rw [h]; exact if_pos rfl, by unfold mEls; rw [h]⟩)
  · exact Or.inr (Or.inr ⟨h, by unfold mElc; rw [h]; exact if_neg (by decide +kernel), by unfold mEls; rw [h]⟩)
set_option maxHeartbeats 4000000 in
theorem x_lel (l : Launch) (hl : l.stackTraces = false) {d : Nat} (hd : 10 ≤ d) {g : zG} {D : va_G} (hi : zInj g) {σ : zS} (hS : ∀ d, d < 8 → zShR σ d) {x y : Int} (hx : R32 x) (hy : R32 y) : zXM l d mL_element (zWsW mL_element zHl) g D [zR (some 0), zI x, zI y, zR (some 51)] σ (.inl (some (zI (mElc σ x y)))) (mEls σ x y) := by
  obtain ⟨d, rfl⟩ : ∃ n, d = n + 1 := ⟨d - 1, by omega⟩
  refine vx_ofWH (cc := mL_element.2.1) (maxL := mL_element.2.2.1) (ret := mL_element.2.2.2.1) (ws' := zT) (hh := zHl) (by decide +kernel) rfl ?_
  intro p e s m args below meth c s₁ B hml hv
  obtain ⟨rfl, ⟨hP, hK, hN⟩, hE⟩ := hv
  have hts0 := atoms_spec (ws := zWsW mL_element zHl) B.pre
  have hts : ∀ w ∈ zT, w.before ((([zR (some 0), zI x, zI y, zR (some 51)] : List zV).map (zv g.1)).toArray) s = true := fun w hw => hts0 w (List.mem_cons_of_mem _ hw)
  have htab : c.exceptionTable.toList = [zU1, zU2] := vx_table (x := mL_element.1) B (hts0 _ List.mem_cons_self)
  have hown : s.vm.findClass RL = some m.cls := findClass_of_methodNamed B.named
  have C : zCx p (zRx (d + 1)) s m ((([zR (some 0), zI x, zI y, zR (some 51)] : List zV).map (zv g.1)).toArray) c mL_element g D (zA g) s.heap none := ⟨B.exec, B.bytes, hml, hown, hts, fun _ => rfl, hK, fun σ => zD_of hi _ (fun _ h => h) σ, trivial⟩
  have hlocks := B.notSynchronized
  have hr := B.returns
  rw [lg_entry_eq]
  have hlv0 := zentry g.1 [zR (some 0), zI x, zI y, zR (some 51)] (n := 5) (Nat.le_of_ble_eq_true rfl)
  show W p l e (zRx (d + 1)) s m _ below meth c s.heap [] 0 0 _ (F0 m 0 (lg_sl (([zR (some 0), zI x, zI y, zR (some 51)] : List zV).map (zv g.1)) ++ List.replicate (5 - (lg_sl (([zR (some 0), zI x, zI y, zR (some 51)] : List zV).map (zv g.1))).length) Slot.unset).toArray (([] : List zV).map (zv g.1)))
  generalize (lg_sl (([zR (some 0), zI x, zI y, zR (some 51)] : List zV).map (zv g.1)) ++ List.replicate (5 - (lg_sl (([zR (some 0), zI x, zI y, zR (some 51)] : List zV).map (zv g.1))).length) Slot.unset).toArray = ls at hlv0 ⊢
  have hst0 : zSt g D (zA g) s.heap 5 [some (zR (some 0)), some (zI x), some (zI y), some (zR (some 51)), none] σ ls s.heap [] := ⟨hlv0, hP, va_S.rf⟩
  have hRR : d + 1 ≤ (zRx (d + 1)).frames ∧ (d + 1) * 128 ≤ (zRx (d + 1)).locals := ⟨Nat.le_refl _, Nat.le_refl _⟩
  obtain ⟨f, hf0⟩ := zD_some.mp (zY_some (b_L_element_0 (d + 1) x y σ))
  refine z_run C hN hRR ⟨Nat.zero_le _, Nat.zero_le _⟩ hi (fun _ h => h) (fun d' _ => z_met l d') zwls f 0 _ [] σ ls s.heap [] _ hst0 hf0 fun ls' H' locs' hst => ?_
  dsimp only at hst ⊢
  obtain ⟨hlv, hP1, hS1⟩ := hst
  have hM := x_elem l hl (d := d) (by omega) (D := D) hi hS hx hy
  have hrecv := va_recv hK hP1 (ci := 2) (q := (RX2, TX2, 8)) rfl (q0 := 0) (by rw [zwd_get (by decide), zcel_o (ci := 2) rfl (by decide)])
  have hcw := cwV (R := zRx (d + 1)) (s := s) (args := ((([zR (some 0), zI x, zI y, zR (some 51)] : List zV).map (zv g.1)).toArray)) (own := RL) (C := RX2) (index := 7) (rm := zRx d) 2 hts (y := yX2_element) (ws := zWs mX2_element) (ws' := zT) (bytes := mX2_element.2.1) (maxL := 4) (ret := some .long) (mc := 1) (ms := 6) (fun w hw => by
    rcases List.mem_append.mp hw with h1 | h1
    · simp only [List.mem_cons, List.not_mem_nil, or_false] at h1
      rcases h1 with rfl | rfl | rfl | rfl
      · exact zT_good (zT_at 744 (by decide +kernel) (by decide +kernel))
      · exact zT_good (zT_at 745 (by decide +kernel) (by decide +kernel))
      · exact zT_good (zT_at 746 (by decide +kernel) (by decide +kernel))
      · exact zT_good zw_49
    · exact zT_in (fun w hw => by
        rcases List.mem_cons.mp hw with rfl | h1
        · exact zk_X2_element.1
        · exact h1) w h1) rfl rfl rfl ⟨rfl, by decide +kernel, by decide +kernel, by decide +kernel⟩ ⟨Nat.le_refl _, by show 8 + (4 + 11) + d * 128 ≤ (d + 1) * 128; omega⟩
  have hrun := vx_runV (l := l) (e := e) (below := below) (meth := meth) (locs := locs') (cells := 0) (slots := 0) (b := g.1 0) (As := [.int (Int32.ofInt x), .int (Int32.ofInt y)]) (rest := ([zI 0, zR (some 51)] : List zV).map (zv g.1)) (g := F0 m 5 ls' (([zI y, zI x, zR (some 0), zI 0, zR (some 51)] : List zV).map (zv g.1))) (p := p) (c := c) (H := H') ⟨B.exec, B.bytes, hml, hown, hts⟩ hM hcw
    ⟨zPx_blind _ _ _ _, hrecv, fun U hU hW => ⟨rfl, ⟨by rw [hU]; exact hP1, va_K.moved hW.alike hK, zNk_warm hW hN⟩, zEx_at hE (fun a h1 h2 => hS1.2.1 a h1 h2) hU hW⟩⟩ rfl rfl hlv.1 rfl (Nat.le_of_ble_eq_true rfl) dL_element_5 ⟨Nat.le_refl _, Nat.le_refl _⟩
  have hc1 : 0 + 1 ≤ (zRx (d + 1)).cells ∧ 0 + 6 ≤ (zRx (d + 1)).slots := ⟨Nat.le_refl _, Nat.le_refl _⟩
  have hfree := zfree4 (a := zR (some 0)) (b := zI x) (c := zI y) (fun x h => by cases h) (v := zR (some 51)) (fun x h => by cases h)
  obtain ⟨-, x2, x3, -, -⟩ := hE
  refine zx_callk (mc := 1) (ms := 6) hrun hS1 (fun _ h => h) (fun E ce x9 H1 locs1 ho hP2 hS2 hH2 hce hcv hcl => ?_) (fun rv H1 locs1 ho hP2 hS2 hH2 => ?_)
  · have hst2 : zSt g D (zA g) s.heap 5 [some (zR (some 0)), some (zI x), some (zI y), some (zR (some 51)), none] σ ls' H1 locs1 := ⟨hlv, hP2, hS2⟩
    rcases mEl_cases σ x y with ⟨v, h1, h2, h3⟩ | ⟨h1, h2, h3⟩ | ⟨h1, h2, h3⟩
    · rw [h1] at ho; cases ho
    · rw [h2, h3]
      rw [h1] at ho; cases ho
      refine vx_catch (own := RL) (name := zEA) hown [] zU1 [zU2] htab (fun z hz => by cases hz) (by decide +kernel) (by decide +kernel) (hts _ (zT_at 742 (by decide +kernel) (by decide +kernel))) (va_Nw.use rfl (x2 _ (by decide +kernel))) hce hcv hcl ?_
      exact z_hand C hN hRR hc1 hi hr hlocks hst2 dL_element_12 (by decide) hfree (stp := zwls) (zY_some (b_L_element_14 _ _ _ _)) (Nat.le_refl _) (Nat.le_refl _)
    · rw [h2, h3]
      rw [h1] at ho; cases ho
      refine vx_catch (own := RL) (name := zEI) hown [zU1] zU2 [] htab (fun z hz => by
        simp only [List.mem_cons, List.not_mem_nil, or_false] at hz
        subst hz
        exact Or.inr ⟨by decide +kernel, zEA, hts _ (zT_at 742 (by decide +kernel) (by decide +kernel)), x3 (zEI, zEA) (by decide +kernel)⟩) (by decide +kernel) (by decide +kernel) (hts _ (zT_at 743 (by decide +kernel) (by decide +kernel))) (va_Nw.use rfl (x2 _ (by decide +kernel))) hce hcv hcl ?_
      exact z_hand C hN hRR hc1 hi hr hlocks hst2 dL_element_16 (by decide) hfree (stp := zwls) (zY_some (b_L_element_18 _ _ _ _)) (Nat.le_refl _) (Nat.le_refl _)
  · rcases mEl_cases σ x y with ⟨v, h1, h2, h3⟩ | ⟨h1, h2, h3⟩ | ⟨h1, h2, h3⟩
    · rw [h2, h3]
      rw [h1] at ho; cases ho
      exact z_fin C hN hRR hc1 hi hr hlocks (S := [zJ v, zI 0, zR (some 51)]) ⟨hlv, hP2, hS2⟩ (stp := zwls) (zY_some ((b_L_element_8 _ _ _ _ _ _).trans (if_pos (by decide)))) (Nat.le_refl _) (Nat.le_refl _)
    · rw [h1] at ho; cases ho
    · rw [h1] at ho; cases ho
