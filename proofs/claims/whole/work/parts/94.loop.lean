/-! the law's loop on the machine -/
theorem zR32 (x : Int32) : R32 x.toInt := ⟨x.le_toInt, x.toInt_lt⟩
section LLOOP
variable {p : Program} {l : Launch} {e : Env} {s : State} {m : MethodId} {below : List Frame} {meth : Method} {c : Code} {b : Nat} {g : zG} {D : va_G} {Lx : Nat} {xs : Nat → Int32}
set_option maxHeartbeats 4000000 in
theorem law_loop (C : zCx p room_1 s m #[Value.ref b] c mL_law g D (fun q => s.heap.size ≤ q) s.heap (some (Lx, fun n => (xs n).toInt))) (hN : zNk s) (hE : zEx g s) (hi : zInj g) (hAz : ∀ a, zA g a → s.heap.size ≤ a) (hl : l.stackTraces = false) (hLx : Lx ≤ 3072) (hlocks : meth.locks = false) (hret : meth.sig.returnType = ret) :
    ∀ (n i : Nat) (σ : zS) (ls : Array Slot) (H : Heap) (locs : List Loc) (cells slots : Nat), Lx < i + 6 * n + 6 → i ≤ 3078 → zSys σ → zSt g D (fun q => s.heap.size ≤ q) s.heap 8 (zLL i) σ ls H locs → cells + n ≤ 601024 → slots + 6 * n ≤ 7293034 →
      W p l e room_1 s m #[Value.ref b] below meth c H locs cells slots (lw_Z below #[Value.ref b] s) (F0 m 23 ls []) := by
  intro n
  induction n with
  | zero =>
    intro i σ ls H locs cells slots h1 h2 hs hst hc hsl
    have hlast : nrm ((Lx : Int) - 6) < nrm (i : Int) := by rw [nrm_id (by omega) (by omega), nrm_id (by omega) (by omega)]; omega
    obtain ⟨f, hf⟩ := zD_some.mp (zY_some (l_last (xs := fun n => (xs n).toInt) (σ := σ) hlast 520))
    refine z_run C hN (d := 521) ⟨Nat.le_of_ble_eq_true rfl, Nat.le_of_ble_eq_true rfl⟩ ⟨by show cells ≤ 601024; omega, by show slots ≤ 7293034; omega⟩ hi hAz (fun d' _ => z_met l d') zstp f 23 (zLL i) [] σ ls H locs _ hst hf fun ls' H' locs' hst' => ?_
    exact va_forget hst'.2.2.2.2 (W.widen (by omega) (by omega) (lw_ret C.1 C.2.1 hret hlocks dL_law_1560))
  | succ n ih =>
    intro i σ ls H locs cells slots h1 h2 hs hst hc hsl
    by_cases hlast : nrm ((Lx : Int) - 6) < nrm (i : Int)
    · obtain ⟨f, hf⟩ := zD_some.mp (zY_some (l_last (xs := fun n => (xs n).toInt) (σ := σ) hlast 520))
      refine z_run C hN (d := 521) ⟨Nat.le_of_ble_eq_true rfl, Nat.le_of_ble_eq_true rfl⟩ ⟨by show cells ≤ 601024; omega, by show slots ≤ 7293034; omega⟩ hi hAz (fun d' _ => z_met l d') zstp f 23 (zLL i) [] σ ls H locs _ hst hf fun ls' H' locs' hst' => ?_
      exact va_forget hst'.2.2.2.2 (W.widen (by omega) (by omega) (lw_ret C.1 C.2.1 hret hlocks dL_law_1560))
    · have hil : i + 6 ≤ Lx := by
        have := hlast
        rw [nrm_id (by omega) (by omega), nrm_id (by omega) (by omega)] at this
        omega
      have hz : ∀ k : Int, 0 ≤ k → k ≤ 5 → zix ((i : Int) + k) Lx := by
        intro k k1 k2
        unfold zix
        rw [nrm_id (by omega) (by omega)]
        omega
      have hx : ∀ n, R32 ((fun n => (xs n).toInt) n) := fun n => zR32 (xs n)
      have next : ∀ (σ' : zS) (ls : Array Slot) (H : Heap) (locs : List Loc) (cells slots : Nat), zSys σ' → zSt g D (fun q => s.heap.size ≤ q) s.heap 8 (zLL i) σ' ls H locs → cells + n ≤ 601024 → slots + 6 * n ≤ 7293034 →
          W p l e room_1 s m #[Value.ref b] below meth c H locs cells slots (lw_Z below #[Value.ref b] s) (F0 m 1553 ls []) := by
        intro σ' ls H locs cells slots hs' hst' hc' hsl'
        obtain ⟨f, hf⟩ := zD_some.mp (zY_some (l_inc (Lx := Lx) (xs := fun n => (xs n).toInt) (i := (i : Int)) (σ := σ') 521))
        refine z_run C hN (d := 521) ⟨Nat.le_of_ble_eq_true rfl, Nat.le_of_ble_eq_true rfl⟩ ⟨by show cells ≤ 601024; omega, by show slots ≤ 7293034; omega⟩ hi hAz (fun d' _ => z_met l d') _ f 1553 (zLL i) [] σ' ls H locs _ hst' hf fun ls' H' locs' hst'' => ?_
        exact ih (i + 6) σ' ls' H' locs' cells slots (by omega) (by omega) hs' hst'' hc' hsl'
      obtain ⟨q, hq, hok⟩ := l_step hs hz hlast hx 500
      obtain ⟨f, hf⟩ := zD_some.mp (zY_some hq)
      refine z_run C hN (d := 521) ⟨Nat.le_of_ble_eq_true rfl, Nat.le_of_ble_eq_true rfl⟩ ⟨by show cells ≤ 601024; omega, by show slots ≤ 7293034; omega⟩ hi hAz (fun d' _ => z_met l d') zstp f 23 (zLL i) [] σ ls H locs q hst hf fun ls' H' locs' hst' => ?_
      obtain ⟨K, T, hsK⟩ := hs
      obtain ⟨hexec, hb, hml, hown, hts, hcl, hK, hD, hX⟩ := C
      have C : zCx p room_1 s m #[Value.ref b] c mL_law g D (fun q => s.heap.size ≤ q) s.heap (some (Lx, fun n => (xs n).toInt)) := ⟨hexec, hb, hml, hown, hts, hcl, hK, hD, hX⟩
      rcases hok with ⟨σ', rfl, hs'⟩ | rfl | rfl
      · exact next σ' ls' H' locs' cells slots hs' hst' (by omega) (by omega)
      · dsimp only at hst' ⊢
        obtain ⟨hlv, hP1, hS1⟩ := hst'
        have hM := x_lel l hl (d := 500) (by decide) (D := D) hi hsK.2.2.2.2.2.2.2 (hx (nrm ((i : Int) + 1)).toNat) (hx (nrm ((i : Int) + 2)).toNat)
        obtain ⟨σ2, hq2, hs2⟩ := l_after_el (i := (i : Int)) hsK hz hx 500
        dsimp only at hM hq2 ⊢
        generalize (xs (nrm ((i : Int) + 1)).toNat).toInt = x at *
        generalize (xs (nrm ((i : Int) + 2)).toNat).toInt = y at *
        have hcw := vx_cwSW (R := room_1) (s := s) (args := #[Value.ref b]) (own := RL) (index := 176) (rm := zRx 500) 4 hts (y := yL_element) (ws := zWsW mL_element zHl) (ws' := zT) (bytes := mL_element.2.1) (maxL := 5) (ret := some .int) (hh := zHl) (mc := 1) (ms := 6) (fun w hw => by
          rcases List.mem_append.mp hw with h1 | h1
          · simp only [List.mem_cons, List.not_mem_nil, or_false] at h1
            rcases h1 with rfl | rfl | rfl
            · exact zT_good (zT_at 739 (by decide +kernel) (by decide +kernel))
            · exact zT_good (zT_at 740 (by decide +kernel) (by decide +kernel))
            · exact zT_good (zT_at 48 (by decide +kernel) (by decide +kernel))
          · exact zT_in (fun w hw => by
              rcases List.mem_cons.mp hw with rfl | h1
              · exact zwT_lel
              · exact h1) w h1) rfl rfl rfl ⟨by decide +kernel, by decide +kernel, by decide +kernel⟩ ⟨Nat.le_of_ble_eq_true rfl, Nat.le_of_ble_eq_true rfl⟩
        have hrun := vx_runSX (l := l) (e := e) (below := below) (meth := meth) (locs := locs') (cells := cells) (slots := slots) (As := ([zR (some 0), zI x, zI y, zR (some 51)] : List zV).map (zv g.1)) (rest := []) (g := F0 m 1377 ls' (([zR (some 51), zI y, zI x, zR (some 0)] : List zV).map (zv g.1))) (p := p) (c := c) (H := H') ⟨hexec, hb, hml, hown, hts⟩ hM hcw
          ⟨zPx_blind _ _ _ _, fun U hU hW => ⟨rfl, ⟨by rw [hU]; exact hP1, va_K.moved hW.alike hK, zNk_warm hW hN⟩, zEx_at hE (fun a h1 h2 => hS1.2.1 a h1 (fun z => Nat.lt_irrefl _ (Nat.lt_of_lt_of_le h1 z))) hU hW⟩⟩ rfl rfl hlv.1 rfl (Nat.zero_le _) dL_law_1377 ⟨by show cells + 1 ≤ 601024; omega, by show slots + 6 ≤ 7293034; omega⟩
        refine zx_callk (mc := 1) (ms := 6) hrun hS1 hAz (fun E ce x9 H1 locs1 ho hP2 hS2 hH2 hce hcv hcl => by cases ho) (fun rv H1 locs1 ho hP2 hS2 hH2 => ?_)
        cases ho
        obtain ⟨f, hf⟩ := zD_some.mp (zY_some hq2)
        refine z_run C hN (d := 521) ⟨Nat.le_of_ble_eq_true rfl, Nat.le_of_ble_eq_true rfl⟩ ⟨by show cells + 1 ≤ 601024; omega, by show slots + 6 ≤ 7293034; omega⟩ hi hAz (fun d' _ => z_met l d') zstp f 1380 (zLL i) [zI (mElc σ x y)] (mEls σ x y) ls' H1 locs1 _ ⟨hlv, hP2, hS2⟩ hf fun ls'' H'' locs'' hst'' => ?_
        exact next σ2 ls'' H'' locs'' (cells + 1) (slots + 6) hs2 hst'' (by omega) (by omega)
      · dsimp only at hst' ⊢
        obtain ⟨hlv, hP1, hS1⟩ := hst'
        have hM := x_toss l hl (d := 500) (by decide) (D := D) hi hsK.2.2.2.2.2.2.2 (hx (nrm ((i : Int) + 1)).toNat)
        have hq2 := l_after_toss (i := (i : Int)) hsK hz hx 500
        dsimp only at hM hq2 ⊢
        generalize (xs (nrm ((i : Int) + 1)).toNat).toInt = x at *
        have hrecv := va_recv hK hP1 (ci := 2) (q := (RX2, TX2, 8)) rfl (q0 := 0) (by rw [zwd_get (by decide), zcel_o (ci := 2) rfl (by decide)])
        have hcw := vx_cwVW (R := room_1) (s := s) (args := #[Value.ref b]) (own := RL) (C := RX2) (index := 194) (rm := zRx 500) 1 hts (y := yX2_toss) (ws := zWsW mX2_toss zHt) (ws' := zT) (bytes := mX2_toss.2.1) (maxL := 5) (ret := some .int) (hh := zHt) (mc := 1) (ms := 6) (fun w hw => by
          rcases List.mem_append.mp hw with h1 | h1
          · simp only [List.mem_cons, List.not_mem_nil, or_false] at h1
            rcases h1 with rfl | rfl | rfl | rfl
            · exact zT_good (zT_at 632 (by decide +kernel) (by decide +kernel))
            · exact zT_good (zT_at 633 (by decide +kernel) (by decide +kernel))
            · exact zT_good (zT_at 634 (by decide +kernel) (by decide +kernel))
            · exact zT_good zw_49
          · exact zT_in (fun w hw => by
              rcases List.mem_cons.mp hw with rfl | h1
              · exact zwT_toss
              · exact h1) w h1) rfl rfl rfl ⟨rfl, by decide +kernel, by decide +kernel, by decide +kernel⟩ ⟨Nat.le_of_ble_eq_true rfl, Nat.le_of_ble_eq_true rfl⟩
        have hrun := vx_runVX (l := l) (e := e) (below := below) (meth := meth) (locs := locs') (cells := cells) (slots := slots) (b := g.1 0) (As := ([zI x] : List zV).map (zv g.1)) (rest := []) (g := F0 m 1535 ls' (([zI x, zR (some 0)] : List zV).map (zv g.1))) (p := p) (c := c) (H := H') ⟨hexec, hb, hml, hown, hts⟩ hM hcw
          ⟨zPx_blind _ _ _ _, hrecv, fun U hU hW => ⟨rfl, ⟨by rw [hU]; exact hP1, va_K.moved hW.alike hK, zNk_warm hW hN⟩, zEx_at hE (fun a h1 h2 => hS1.2.1 a h1 (fun z => Nat.lt_irrefl _ (Nat.lt_of_lt_of_le h1 z))) hU hW⟩⟩ rfl rfl hlv.1 rfl (Nat.zero_le _) dL_law_1535 ⟨by show cells + 1 ≤ 601024; omega, by show slots + 6 ≤ 7293034; omega⟩
        refine zx_callk (mc := 1) (ms := 6) hrun hS1 hAz (fun E ce x9 H1 locs1 ho hP2 hS2 hH2 hce hcv hcl => by cases ho) (fun rv H1 locs1 ho hP2 hS2 hH2 => ?_)
        cases ho
        obtain ⟨f, hf⟩ := zD_some.mp (zY_some hq2)
        refine z_run C hN (d := 521) ⟨Nat.le_of_ble_eq_true rfl, Nat.le_of_ble_eq_true rfl⟩ ⟨by show cells + 1 ≤ 601024; omega, by show slots + 6 ≤ 7293034; omega⟩ hi hAz (fun d' _ => z_met l d') zstp f 1538 (zLL i) [zI (mToss σ x)] σ ls' H1 locs1 _ ⟨hlv, hP2, hS2⟩ hf fun ls'' H'' locs'' hst'' => ?_
        exact next σ ls'' H'' locs'' (cells + 1) (slots + 6) ⟨K, T, hsK⟩ hst'' (by omega) (by omega)
end LLOOP
