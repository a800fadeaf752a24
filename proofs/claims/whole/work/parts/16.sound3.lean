theorem zcl_own {ci : Nat} {r : vw_C} (h : zcl[ci]? = some r) : r.1 = zown ci := by
  match ci, h with
  | 0, h => cases h; rfl
  | 1, h => cases h; rfl
  | 2, h => cases h; rfl
  | 3, h => cases h; rfl
  | ci + 4, h => simp [zcl] at h
theorem zprep_inv {j idx : Nat} {k k' : zM} {S as S' : List zV} (h : zprep j k idx S = some (k', as, S')) : ∃ kind n, zml k.2.2.2.2.1 idx = some (k', kind, n) ∧ zwords S' ≤ 8 ∧ (zent as).length ≤ k'.2.2.1 ∧
    ((j = 2 ∧ kind = 0 ∧ ∃ b as', as = zR (some b) :: as' ∧ as'.length = n ∧ S = as'.reverse ++ zR (some b) :: S' ∧ zkd b = k'.2.2.2.2.1 ∧ k'.2.2.2.2.1 < 4) ∨
     (j = 3 ∧ (kind = 1 ∨ kind = 2) ∧ as.length = n ∧ S = as.reverse ++ S')) := by
  unfold zprep at h
  split at h
  · rename_i k1 kind n hm
    split at h
    · rename_i as1 S1 hp
      obtain ⟨p1, p2⟩ := zpop_inv hp
      split at h
      · rename_i h1
        split at h
        · rename_i b S2
          split at h
          · rename_i h2
            cases h
            exact ⟨kind, n, hm, h2.2.2.1, h2.2.2.2, Or.inl ⟨h1.1, h1.2, b, as1, rfl, p1, p2, h2.1, h2.2.1⟩⟩
          · cases h
        · cases h
      · split at h
        · rename_i h2
          cases h
          exact ⟨kind, n, hm, h2.2.2.1, h2.2.2.2, Or.inr ⟨h2.1, h2.2.1, p1, p2⟩⟩
        · cases h
    · cases h
  · cases h
set_option maxHeartbeats 4000000 in
/-- what a call of zi gives over the machine -/
theorem z_call {p : Program} {l : Launch} {e : Env} {R : Room} {s : State} {m : MethodId} {args : Array Value} {below : List Frame} {meth : Method} {c : Code} {H H0 : Heap} {locs : List Loc} {cells slots : Nat} {Q : State → Prop}
    {g : zG} {D : va_G} {A : Nat → Prop} {X : zX} {k : zM} (C : zCx p R s m args c k g D A H0 X) (hN : zNk s) {d' : Nat} (hR : d' + 1 ≤ R.frames ∧ (d' + 1) * 128 ≤ R.locals) (hcs : cells ≤ R.cells ∧ slots ≤ R.slots) (hi : zInj g) (hAz : ∀ a, zA g a → A a)
    (hM : ∀ k', zokM k' → zMet l d' k') {pc len : Nat} {L : zL} {S : List zV} {σ : zS} {ls : Array Slot} (h : zSt g D A H0 k.2.2.1 L σ ls H locs) {i : Instr} (hd : decode k.2.1 pc = .ok (i, len)) {k' : zM} {as S' : List zV}
    (hp : zprep (zkind i len).1 k (zkind i len).2 S = some (k', as, S')) {rv : Option zV} {σ' : zS} (hc : zc d' k' as σ = some (rv, σ'))
    (kk : ∀ (H' : Heap) (locs' : List Loc), va_P D zcl (zwd g σ') H' → va_S A H0 H' locs' → W p l e R s m args below meth c H' locs' cells slots Q (F0 m (pc + 3) ls ((rv.toList ++ S').map (zv g.1)))) :
    W p l e R s m args below meth c H locs cells slots Q (F0 m pc ls (S.map (zv g.1))) := by
  obtain ⟨hexec, hb, hml, hown, hts, hcl, hK, hD, hX⟩ := C
  obtain ⟨hlv, hP, hS⟩ := h
  obtain ⟨kind, n, hm, hw8, hent, hcase⟩ := zprep_inv hp
  have hcl6 := zml_cls hm
  have hok := zml_ok hm
  rw [← hcl hcl6] at hok
  dsimp only at hok
  have hkk : ∀ (H1 : Heap) (locs1 : List Loc), va_P D zcl (zwd g σ') H1 → va_S A H0 H1 locs1 → W p l e R s m args below meth c H1 locs1 cells slots Q (F0 m (pc + 3) ls ((rv.map (zv g.1)).toList ++ S'.map (zv g.1))) := by
    intro H1 locs1 h1 h2
    have := kk H1 locs1 h1 h2
    rw [List.map_append] at this
    cases rv <;> exact this
  have hsum : ((S'.map (zv g.1)).map fun v => v.category).sum ≤ 8 := by rw [zsum]; exact hw8
  have hpre : ∀ U : State, U.heap = H → s.WarmedH U.vm → zPc g D as σ ((as.map (zv g.1)).toArray) U := fun U hU hW => ⟨rfl, by rw [hU]; exact hP, va_K.moved hW.alike hK, zNk_warm hW hN⟩
  have hfin : zokM k' → Met l k'.1 (zWs k') (zRm d') (zPc g D as σ) (zQc g D rv σ') 0 0 (zA g) := fun ok => hM k' ok g D as σ σ' rv hi hent hc
  have hroom : zokM k' → (zRm d').frames + 1 ≤ R.frames ∧ 8 + (k'.2.2.1 + 11) + (zRm d').locals ≤ R.locals := fun ok => ⟨hR.1, by have := ok.2.2.2.1; have := hR.2; show 8 + (k'.2.2.1 + 11) + d' * 128 ≤ _; omega⟩
  have hwin : zokM k' → GoodIn zT (zWs k') := fun ok => zT_in fun w hw => by
    rcases List.mem_cons.mp hw with rfl | h1
    · exact ok.1
    · exact h1
  rcases hcase with ⟨hj, rfl, b, as', rfl, hn, rfl, hbk, hb4⟩ | ⟨hj, hk12, hn, rfl⟩
  · obtain ⟨hi1, hl1⟩ := zkind_2 hj
    have hd : decode k.2.1 pc = Except.ok (Instr.invokevirtual (zkind i len).2, 3) := hd.trans (congrArg Except.ok (Prod.ext hi1 hl1))
    rcases hok with ⟨-, ok, hdesc, hlink, hinst, hsel⟩ | ⟨h1, -⟩ | ⟨h1, -⟩ | ⟨h1, -⟩ | ⟨h1, -⟩ | ⟨h1, -⟩
    · have hb52 : b < 52 := zkd_lt hbk (by omega)
      obtain ⟨r, hr1, hr2⟩ := zln_cls b hb52 (by omega)
      rw [hbk] at hr1
      have hrc : r.1 = k'.1.cls := by rw [zcl_own hr1, ok.2.2.2.2.2 (by omega)]
      have hrecv := va_recv hK hP hr1 (q0 := b) (by rw [zwd_get hb52, zcel_o hbk hb4])
      rw [hrc] at hrecv
      have hcw := cwV (R := R) (own := k.1.cls) (C := k'.1.cls) (index := (zkind i len).2) (rm := zRm d') n hts (y := k'.1) (ws := zWs k') (ws' := zT) (bytes := k'.2.1) (maxL := k'.2.2.1) (ret := k'.2.2.2.1) (mc := 0) (ms := 0) (fun w hw => by
        rcases List.mem_append.mp hw with h1 | h1
        · simp only [List.mem_cons, List.not_mem_nil, or_false] at h1
          rcases h1 with rfl | rfl | rfl | rfl
          · exact zT_good hlink
          · exact zT_good hinst
          · exact zT_good hsel
          · exact zT_good ok.2.2.2.2.1
        · exact hwin ok w h1) rfl rfl rfl ⟨rfl, ok.2.2.1.1, ok.2.2.1.2, hdesc⟩ (hroom ok)
      have hrun := va_runV (e := e) (below := below) (meth := meth) (locs := locs) (cells := cells) (slots := slots) (As := as'.map (zv g.1)) (rest := S'.map (zv g.1)) (g := F0 m pc ls ((as'.reverse ++ zR (some b) :: S').map (zv g.1))) (b := g.1 b) (p := p) (c := c) ⟨hexec, hb, hml, hown, hts⟩ (hfin ok) hcw ⟨zPc_blind _ _ _ _, hrecv, hpre⟩ rfl (by rw [List.length_map]; exact hn) hlv.1
        (by show List.map _ _ = _; rw [List.map_append, List.map_reverse]; rfl) (lv_room hsum) hd ⟨hcs.1, hcs.2⟩
      exact z_callk hrun hS hAz hkk
    · cases h1
    · cases h1
    · cases h1
    · cases h1
    · cases h1
  · obtain ⟨hi1, hl1⟩ := zkind_3 hj
    have hd : decode k.2.1 pc = Except.ok (Instr.invokestatic (zkind i len).2, 3) := hd.trans (congrArg Except.ok (Prod.ext hi1 hl1))
    rcases hok with ⟨h1, -⟩ | ⟨h1, ok, hdesc, hlink, hstat⟩ | ⟨h1, ok, hdesc, hlink, hstat⟩ | ⟨h1, -⟩ | ⟨h1, -⟩ | ⟨h1, -⟩
    · omega
    · have hcw := va_cwS (R := R) (own := k.1.cls) (index := (zkind i len).2) (rm := zRm d') n hts (y := k'.1) (ws := zWs k') (ws' := zT) (bytes := k'.2.1) (maxL := k'.2.2.1) (ret := k'.2.2.2.1) (mc := 0) (ms := 0) (fun w hw => by
        rcases List.mem_append.mp hw with h1 | h1
        · simp only [List.mem_cons, List.not_mem_nil, or_false] at h1
          rcases h1 with rfl | rfl | rfl
          · exact zT_good hlink
          · exact zT_good hstat
          · exact zT_good ok.2.2.2.2.1
        · exact hwin ok w h1) rfl rfl rfl ⟨ok.2.2.1.1, ok.2.2.1.2, hdesc⟩ (hroom ok)
      have hrun := va_runS (e := e) (below := below) (meth := meth) (locs := locs) (cells := cells) (slots := slots) (As := as.map (zv g.1)) (rest := S'.map (zv g.1)) (g := F0 m pc ls ((as.reverse ++ S').map (zv g.1))) (p := p) (c := c) ⟨hexec, hb, hml, hown, hts⟩ (hfin ok) hcw ⟨zPc_blind _ _ _ _, hpre⟩ rfl (by rw [List.length_map]; exact hn) hlv.1
        (by show List.map _ _ = _; rw [List.map_append, List.map_reverse]) (lv_room hsum) hd ⟨hcs.1, hcs.2⟩
      exact z_callk hrun hS hAz hkk
    · have hcw := va_cnB (R := R) (s := s) (args := args) (own := k.1.cls) (host := "TippedIntoTheNextLap") (index := (zkind i len).2) (rm := zRm d') n hts (y := k'.1) (ws := zWs k') (ws' := zT) (bytes := k'.2.1) (maxL := k'.2.2.1) (ret := k'.2.2.2.1) (mc := 0) (ms := 0) (hwin ok) rfl rfl rfl (hN _ hlink) (hts _ ok.2.2.2.2.1) ⟨ok.2.2.1.1, ok.2.2.1.2, hdesc⟩ (hroom ok)
      have hrun := va_runSN (e := e) (below := below) (meth := meth) (locs := locs) (cells := cells) (slots := slots) (As := as.map (zv g.1)) (rest := S'.map (zv g.1)) (g := F0 m pc ls ((as.reverse ++ S').map (zv g.1))) (p := p) (c := c) ⟨hexec, hb, hml, hown, hts⟩ (hfin ok) ⟨hcw, hts _ hstat, trivial⟩ ⟨zPc_blind _ _ _ _, hpre⟩ rfl (by rw [List.length_map]; exact hn) hlv.1
        (by show List.map _ _ = _; rw [List.map_append, List.map_reverse]) (lv_room hsum) hd ⟨hcs.1, hcs.2⟩
      exact z_callk hrun hS hAz hkk
    · omega
    · omega
    · omega
theorem zacp_j {j idx : Nat} {k : zM} {S : List zV} {σ : zS} {r : List zV × zS} (h : zacp j k idx S σ = some r) : j = 3 := by
  unfold zacp at h
  split at h
  · split at h
    · rename_i h1; exact h1.1
    · cases h
  · split at h
    · rename_i h1; exact h1.1
    · cases h
  · split at h
    · rename_i h1; exact h1.1
    · cases h
  · cases h
set_option maxHeartbeats 4000000 in
theorem z_acp {p : Program} {l : Launch} {e : Env} {R : Room} {s : State} {m : MethodId} {args : Array Value} {below : List Frame} {meth : Method} {c : Code} {H H0 : Heap} {locs : List Loc} {cells slots : Nat} {Q : State → Prop}
    {g : zG} {D : va_G} {A : Nat → Prop} {X : zX} {k : zM} (C : zCx p R s m args c k g D A H0 X) {d' : Nat} (hR : d' + 1 ≤ R.frames ∧ (d' + 1) * 128 ≤ R.locals) (hcs : cells ≤ R.cells ∧ slots ≤ R.slots)
    {pc len : Nat} {L : zL} {S : List zV} {σ : zS} {ls : Array Slot} (h : zSt g D A H0 k.2.2.1 L σ ls H locs) {i : Instr} (hd : decode k.2.1 pc = .ok (i, len)) {r : List zV × zS}
    (ha : zacp (zkind i len).1 k (zkind i len).2 S σ = some r)
    (kk : ∀ (H' : Heap) (locs' : List Loc), va_P D zcl (zwd g r.2) H' → va_S A H0 H' locs' → W p l e R s m args below meth c H' locs' cells slots Q (F0 m (pc + 3) ls (r.1.map (zv g.1)))) :
    W p l e R s m args below meth c H locs cells slots Q (F0 m pc ls (S.map (zv g.1))) := by
  obtain ⟨hi1, hl1⟩ := zkind_3 (zacp_j ha)
  have hd : decode k.2.1 pc = Except.ok (Instr.invokestatic (zkind i len).2, 3) := hd.trans (congrArg Except.ok (Prod.ext hi1 hl1))
  obtain ⟨hexec, hb, hml, hown, hts, hcl, hK, hD, hX⟩ := C
  obtain ⟨hlv, hP, hS⟩ := h
  have hmls : c.maxLocals = ls.size := by rw [hlv.1]; exact hml
  unfold zacp at ha
  split at ha
  · rename_i k0 n0 n dp b sp a r0 hm
    have hok := zml_ok hm
    rw [← hcl (zml_cls hm)] at hok
    split at ha
    · rename_i hc
      obtain ⟨-, hka, hkb, h1, h2, h3, h4, h5, h8⟩ := hc
      cases ha
      have hlk : (Cond.methodLink k.1.cls (zkind i len).2 arraycopyName) ∈ zT := by
        rcases hok with ⟨h1, -⟩ | ⟨h1, -⟩ | ⟨h1, -⟩ | ⟨-, h1, -⟩ | ⟨h1, -⟩ | ⟨h1, -⟩ <;> first | exact h1 | (dsimp only at h1; omega)
      have hsum : ((r0.map (zv g.1)).map fun v => v.category).sum ≤ 8 := by rw [zsum]; exact h8
      refine va_copyi (l := l) (e := e) (below := below) (meth := meth) (cells := cells) (slots := slots) (Q := Q) (ls := ls) (rest := r0.map (zv g.1)) (sp := Int32.ofInt sp) (dp := Int32.ofInt dp) (n := Int32.ofInt n) hexec hb hmls hown (hts _ hlk) (hts _ zsys.1) (hts _ zsys.2.1) (hts _ zsys.2.2) hK hP (hD σ) hS a b 0 0
        (by rw [zwd_get (zkd_lt hka (by omega)), zcel_i hka]) (by rw [zwd_get (zkd_lt hkb (by omega)), zcel_i hkb]) rfl rfl rfl (fun q => by have := zI_lt0.mp q; omega) (fun q => by have := zI_lt0.mp q; omega) (fun q => by have := zI_lt0.mp q; omega)
        (by rw [zI_clamp, zI_clamp]; omega) (by rw [zI_clamp, zI_clamp]; omega) (fun _ _ => rfl) (by omega) (Nat.le_trans (Nat.add_le_add_right hsum _) (Nat.le_trans (Nat.le_of_ble_eq_true (n := _) (m := 128) rfl) (by omega))) hd fun H1 locs1 hP1 _ hS1 => ?_
      rw [zI_clamp, zI_clamp, zI_clamp, zwd_cpy hkb] at hP1
      exact kk H1 locs1 hP1 hS1
    · cases ha
  · rename_i k0 n0 b a r0 hm
    have hok := zml_ok hm
    rw [← hcl (zml_cls hm)] at hok
    split at ha
    · rename_i hc
      cases ha
      have hlk : (Cond.methodLink k.1.cls (zkind i len).2 Lib.Math.max.name) ∈ zT := by
        rcases hok with ⟨h1, -⟩ | ⟨h1, -⟩ | ⟨h1, -⟩ | ⟨h1, -⟩ | ⟨-, h1⟩ | ⟨h1, -⟩ <;> first | exact h1 | (dsimp only at h1; omega)
      have hsum : ((r0.map (zv g.1)).map fun v => v.category).sum ≤ 8 := by rw [zsum]; exact hc.2
      refine va_mmax (x := Int32.ofInt a) (y := Int32.ofInt b) (rest := r0.map (zv g.1)) hexec hb hmls hown (hts _ hlk) (hts _ zmmax.1) (hts _ zmmax.2.1) (hts _ zmmax.2.2) (by omega) (by omega) hcs.1 hcs.2 hd ?_
      have k2 := kk H locs hP hS
      have e1 : (if Int32.ofInt a < Int32.ofInt b then Int32.ofInt b else Int32.ofInt a) = Int32.ofInt (if nrm a < nrm b then b else a) := by
        by_cases q : nrm a < nrm b
        · rw [if_pos q, if_pos (zI_lt.mpr q)]
        · rw [if_neg q, if_neg (fun z => q (zI_lt.mp z))]
      rw [e1]
      exact k2
    · cases ha
  · rename_i k0 n0 b a r0 hm
    have hok := zml_ok hm
    rw [← hcl (zml_cls hm)] at hok
    split at ha
    · rename_i hc
      cases ha
      have hlk : (Cond.methodLink k.1.cls (zkind i len).2 Lib.Math.min.name) ∈ zT := by
        rcases hok with ⟨h1, -⟩ | ⟨h1, -⟩ | ⟨h1, -⟩ | ⟨h1, -⟩ | ⟨h1, -⟩ | ⟨-, h1⟩ <;> first | exact h1 | (dsimp only at h1; omega)
      have hsum : ((r0.map (zv g.1)).map fun v => v.category).sum ≤ 8 := by rw [zsum]; exact hc.2
      refine va_mmin (x := Int32.ofInt a) (y := Int32.ofInt b) (rest := r0.map (zv g.1)) hexec hb hmls hown (hts _ hlk) (hts _ zmmin.1) (hts _ zmmin.2.1) (hts _ zmmin.2.2) (by omega) (by omega) hcs.1 hcs.2 hd ?_
      have k2 := kk H locs hP hS
      have e1 : (if Int32.ofInt b < Int32.ofInt a then Int32.ofInt b else Int32.ofInt a) = Int32.ofInt (if nrm b < nrm a then b else a) := by
        by_cases q : nrm b < nrm a
        · rw [if_pos q, if_pos (zI_lt.mpr q)]
        · rw [if_neg q, if_neg (fun z => q (zI_lt.mp z))]
      rw [e1]
      exact k2
    · cases ha
  · cases ha
