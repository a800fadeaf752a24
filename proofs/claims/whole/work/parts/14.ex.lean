set_option maxHeartbeats 4000000 in
theorem z_ex {p : Program} {l : Launch} {e : Env} {R : Room} {s : State} {m : MethodId} {args : Array Value} {below : List Frame} {meth : Method} {c : Code} {H H0 : Heap} {locs : List Loc} {cells slots : Nat} {Q : State → Prop}
    {g : zG} {D : va_G} {A : Nat → Prop} {X : zX} {k : zM} (C : zCx p R s m args c k g D A H0 X) {pc len : Nat} {L : zL} {S : List zV} {σ : zS} {ls : Array Slot} (h : zSt g D A H0 k.2.2.1 L σ ls H locs) {i : Instr} (hd : decode k.2.1 pc = .ok (i, len)) (hl : len = zlen i len)
    {pc' : Nat} {L' : zL} {S' : List zV} {σ' : zS} (hx : zex i k X pc L S σ = some (pc', L', S', σ'))
    (kk : ∀ (ls' : Array Slot) (H' : Heap) (locs' : List Loc), zSt g D A H0 k.2.2.1 L' σ' ls' H' locs' → W p l e R s m args below meth c H' locs' cells slots Q (F0 m pc' ls' (S'.map (zv g.1)))) :
    W p l e R s m args below meth c H locs cells slots Q (F0 m pc ls (S.map (zv g.1))) := by
  obtain ⟨hexec, hb, hml, hown, hts, hcl, hK, hD, hX⟩ := C
  have h0 := h
  obtain ⟨hlv, hP, hS⟩ := h
  have hbin : ∀ {f : Int → Int → Option Int} {q : Nat}, zgo q L σ (zb S f) = some (pc', L', S', σ') → ∃ b a t v, S = zI b :: zI a :: t ∧ f a b = some v ∧ W p l e R s m args below meth c H locs cells slots Q (F0 m q ls (.int (Int32.ofInt v) :: t.map (zv g.1))) := by
    intro f q hh
    obtain ⟨h1, rfl, rfl, rfl⟩ := zgo_inv hh
    obtain ⟨b, a, t, v, rfl, h2, rfl⟩ := zb_inv h1
    exact ⟨b, a, t, v, rfl, h2, kk ls H locs h0⟩
  have hbinL : ∀ {f : Int → Int → Option Int} {q : Nat}, zgo q L σ (zbL S f) = some (pc', L', S', σ') → ∃ b a t v, S = zJ b :: zJ a :: t ∧ f a b = some v ∧ W p l e R s m args below meth c H locs cells slots Q (F0 m q ls (.long (Int64.ofInt v) :: t.map (zv g.1))) := by
    intro f q hh
    obtain ⟨h1, rfl, rfl, rfl⟩ := zgo_inv hh
    obtain ⟨b, a, t, v, rfl, h2, rfl⟩ := zbL_inv h1
    exact ⟨b, a, t, v, rfl, h2, kk ls H locs h0⟩
  have hst : ∀ {q i : Nat} {v : zV} {t : List zV} (ls' : Array Slot), lv_has ls' k.2.2.1 ((i, zv g.1 v) :: (zloc g.1 L).filter (fun q => !(q.1 == i) && !(q.1 + 1 == i && q.2.category == 2))) → pc' = q → L' = zset L i v → S' = t → σ' = σ → W p l e R s m args below meth c H locs cells slots Q (F0 m q ls' (t.map (zv g.1))) := by
    intro q i v t ls' h1 e1 e2 e3 e4
    subst e1; subst e2; subst e3; subst e4
    exact kk ls' H locs ⟨zlv_set h1, hP, hS⟩
  have hstJ : ∀ {q i : Nat} {v : zV} {t : List zV} (ls' : Array Slot), lv_has ls' k.2.2.1 ((i, zv g.1 v) :: (zloc g.1 L).filter (fun q => !(q.1 == i) && (!(q.1 == i + 1) && !(q.1 + 1 == i && q.2.category == 2)))) → pc' = q → L' = zsetJ L i v → S' = t → σ' = σ → W p l e R s m args below meth c H locs cells slots Q (F0 m q ls' (t.map (zv g.1))) := by
    intro q i v t ls' h1 e1 e2 e3 e4
    subst e1; subst e2; subst e3; subst e4
    exact kk ls' H locs ⟨zlv_setJ h1, hP, hS⟩
  have hcall0 : ∀ {q : Nat} {t : List zV}, some (q, L, t, σ) = some (pc', L', S', σ') → W p l e R s m args below meth c H locs cells slots Q (F0 m q ls (t.map (zv g.1))) := by
    intro q t hh
    cases hh
    exact kk ls H locs h0
  cases i with
  | iconst n =>
    have hl : len = 1 := hl
    subst hl
    exact lv_iconst hexec hb hd rfl (hcall0 hx)
  | bipush n =>
    have hl : len = 2 := hl
    subst hl
    unfold zex at hx
    dsimp only at hx
    split at hx
    · rename_i hn
      exact lv_bipush hexec hb hd (zI_bipush hn.1 hn.2) (hcall0 hx)
    · cases hx
  | sipush n =>
    have hl : len = 3 := hl
    subst hl
    unfold zex at hx
    dsimp only at hx
    split at hx
    · rename_i hn
      exact lv_sipush hexec hb hd (zI_sipush hn.1 hn.2) (hcall0 hx)
    · cases hx
  | lconst n =>
    have hl : len = 1 := hl
    subst hl
    exact lv_lconst hexec hb hd (Int64.ofInt_eq_ofNat (n := (n : Nat))).symm (hcall0 hx)
  | ldc n =>
    have hl : len = 2 := hl
    subst hl
    obtain ⟨v, h1, h2⟩ := Option.map_eq_some_iff.mp hx
    have hw := hts _ (zct_ok h1)
    rw [← hcl (zct_cls h1)] at hw
    exact lv_ldc hexec hb hown hw hd (hcall0 (congrArg some h2))
  | ldc_w n =>
    have hl : len = 3 := hl
    subst hl
    obtain ⟨v, h1, h2⟩ := Option.map_eq_some_iff.mp hx
    have hw := hts _ (zct_ok h1)
    rw [← hcl (zct_cls h1)] at hw
    exact lv_ldcw hexec hb hown hw hd (hcall0 (congrArg some h2))
  | ldc2_w n =>
    have hl : len = 3 := hl
    subst hl
    obtain ⟨v, h1, h2⟩ := Option.map_eq_some_iff.mp hx
    have hw := hts _ (zcL_ok h1)
    rw [← hcl (zcL_cls h1)] at hw
    exact lv_ldc2 hexec hb hown hw hd (hcall0 (congrArg some h2))
  | aconst_null =>
    have hl : len = 1 := hl
    subst hl
    exact lv_null hexec hb hd (hcall0 hx)
  | iload n =>
    have hl : len = 2 := hl
    subst hl
    obtain ⟨v, h1, h2⟩ := Option.map_eq_some_iff.mp hx
    obtain ⟨a, rfl, h3⟩ := zldI_inv h1
    exact lv_iload hexec hb hd (zlv_get hlv h3) (hcall0 (congrArg some h2))
  | iload_n n =>
    have hl : len = 1 := hl
    subst hl
    obtain ⟨v, h1, h2⟩ := Option.map_eq_some_iff.mp hx
    obtain ⟨a, rfl, h3⟩ := zldI_inv h1
    exact lv_iload_n hexec hb hd rfl (zlv_get hlv h3) (hcall0 (congrArg some h2))
  | lload n =>
    have hl : len = 2 := hl
    subst hl
    obtain ⟨v, h1, h2⟩ := Option.map_eq_some_iff.mp hx
    obtain ⟨a, rfl, h3⟩ := zldJ_inv h1
    exact lv_lload hexec hb hd (zlv_get hlv h3) (hcall0 (congrArg some h2))
  | lload_n n =>
    have hl : len = 1 := hl
    subst hl
    obtain ⟨v, h1, h2⟩ := Option.map_eq_some_iff.mp hx
    obtain ⟨a, rfl, h3⟩ := zldJ_inv h1
    exact lv_lload_n hexec hb hd rfl (zlv_get hlv h3) (hcall0 (congrArg some h2))
  | aload n =>
    have hl : len = 2 := hl
    subst hl
    obtain ⟨v, h1, h2⟩ := Option.map_eq_some_iff.mp hx
    obtain ⟨a, rfl, h3⟩ := zldA_inv h1
    cases a with
    | none => exact lv_aloadN hexec hb hd (zlv_get hlv h3) (hcall0 (congrArg some h2))
    | some q => exact lv_aload hexec hb hd (zlv_get hlv h3) (hcall0 (congrArg some h2))
  | aload_n n =>
    have hl : len = 1 := hl
    subst hl
    obtain ⟨v, h1, h2⟩ := Option.map_eq_some_iff.mp hx
    obtain ⟨a, rfl, h3⟩ := zldA_inv h1
    cases a with
    | none => exact lv_aload_nN hexec hb hd rfl (zlv_get hlv h3) (hcall0 (congrArg some h2))
    | some q => exact lv_aload_n hexec hb hd rfl (zlv_get hlv h3) (hcall0 (congrArg some h2))
  | istore n =>
    have hl : len = 2 := hl
    subst hl
    obtain ⟨a, rfl, hi, e1, e2, e3⟩ := zstI_inv hx
    exact lv_istore hexec hb hd hlv hi rfl fun ls' hls => hst (v := zI a) ls' hls e1 e2 rfl e3
  | istore_n n =>
    have hl : len = 1 := hl
    subst hl
    obtain ⟨a, rfl, hi, e1, e2, e3⟩ := zstI_inv hx
    exact lv_istore_n hexec hb hd rfl hlv hi rfl fun ls' hls => hst (v := zI a) ls' hls e1 e2 rfl e3
  | lstore n =>
    have hl : len = 2 := hl
    subst hl
    obtain ⟨a, rfl, hi, e1, e2, e3⟩ := zstJ_inv hx
    exact lv_lstore hexec hb hd hlv hi rfl fun ls' hls => hstJ (v := zJ a) ls' hls e1 e2 rfl e3
  | lstore_n n =>
    have hl : len = 1 := hl
    subst hl
    obtain ⟨a, rfl, hi, e1, e2, e3⟩ := zstJ_inv hx
    exact lv_lstore_n hexec hb hd rfl hlv hi rfl fun ls' hls => hstJ (v := zJ a) ls' hls e1 e2 rfl e3
  | astore n =>
    have hl : len = 2 := hl
    subst hl
    obtain ⟨a, rfl, hi, e1, e2, e3⟩ := zstA_inv hx
    cases a with
    | none => exact lv_astoreN hexec hb hd hlv hi rfl fun ls' hls => hst (v := zR none) ls' hls e1 e2 rfl e3
    | some q => exact lv_astore hexec hb hd hlv hi rfl fun ls' hls => hst (v := zR (some q)) ls' hls e1 e2 rfl e3
  | astore_n n =>
    have hl : len = 1 := hl
    subst hl
    obtain ⟨a, rfl, hi, e1, e2, e3⟩ := zstA_inv hx
    cases a with
    | none => exact lv_astore_nN hexec hb hd rfl hlv hi rfl fun ls' hls => hst (v := zR none) ls' hls e1 e2 rfl e3
    | some q => exact lv_astore_n hexec hb hd rfl hlv hi rfl fun ls' hls => hst (v := zR (some q)) ls' hls e1 e2 rfl e3
  | iinc n cc =>
    have hl : len = 3 := hl
    subst hl
    unfold zex at hx
    dsimp only at hx
    split at hx
    · rename_i a ha
      split at hx
      · rename_i hn
        have hm : (n, Value.int (Int32.ofInt a)) ∈ zloc g.1 L := zloc_mem.mpr ⟨_, ha, rfl⟩
        obtain ⟨j, hj⟩ := List.getElem?_of_mem hm
        cases hx
        exact lv_iinc hexec hb hd hlv hj (v := Int32.ofInt (a + cc)) (by rw [Int32.ofInt_add]) hn rfl fun ls' hls => kk ls' H locs ⟨zlv_set (v := zI (a + cc)) hls, hP, hS⟩
      · cases hx
    · cases hx
  | iadd =>
    have hl : len = 1 := hl
    subst hl
    obtain ⟨b, a, t, v, rfl, h2, k2⟩ := hbin hx
    cases h2
    rw [Int32.ofInt_add] at k2
    exact lv_iadd hexec hb hd k2
  | isub =>
    have hl : len = 1 := hl
    subst hl
    obtain ⟨b, a, t, v, rfl, h2, k2⟩ := hbin hx
    cases h2
    rw [Int32.ofInt_sub] at k2
    exact lv_isub hexec hb hd k2
  | imul =>
    have hl : len = 1 := hl
    subst hl
    obtain ⟨b, a, t, v, rfl, h2, k2⟩ := hbin hx
    cases h2
    rw [Int32.ofInt_mul] at k2
    exact lv_imul hexec hb hd k2
  | idiv =>
    have hl : len = 1 := hl
    subst hl
    obtain ⟨b, a, t, v, rfl, h2, k2⟩ := hbin hx
    split at h2
    · cases h2
    · rename_i hn
      cases h2
      rw [zI_div] at k2
      exact lv_idiv hexec hb hd (fun q => hn (zI_0.mp q)) k2
  | irem =>
    have hl : len = 1 := hl
    subst hl
    obtain ⟨b, a, t, v, rfl, h2, k2⟩ := hbin hx
    split at h2
    · cases h2
    · rename_i hn
      cases h2
      rw [zI_mod] at k2
      exact lv_irem hexec hb hd (fun q => hn (zI_0.mp q)) k2
  | iand =>
    have hl : len = 1 := hl
    subst hl
    obtain ⟨b, a, t, v, rfl, h2, k2⟩ := hbin hx
    cases h2
    unfold zand at k2
    rw [zI_back] at k2
    exact lv_iand hexec hb hd k2
  | ior =>
    have hl : len = 1 := hl
    subst hl
    obtain ⟨b, a, t, v, rfl, h2, k2⟩ := hbin hx
    cases h2
    unfold zor at k2
    rw [zI_back] at k2
    exact lv_ior hexec hb hd k2
  | ixor =>
    have hl : len = 1 := hl
    subst hl
    obtain ⟨b, a, t, v, rfl, h2, k2⟩ := hbin hx
    cases h2
    unfold zxor at k2
    rw [zI_back] at k2
    exact lv_ixor hexec hb hd k2
  | ishl =>
    have hl : len = 1 := hl
    subst hl
    obtain ⟨b, a, t, v, rfl, h2, k2⟩ := hbin hx
    cases h2
    unfold zshl at k2
    rw [zI_back] at k2
    exact lv_ishl hexec hb hd k2
  | ishr =>
    have hl : len = 1 := hl
    subst hl
    obtain ⟨b, a, t, v, rfl, h2, k2⟩ := hbin hx
    cases h2
    unfold zshr at k2
    rw [zI_back] at k2
    exact lv_ishr hexec hb hd k2
  | iushr =>
    have hl : len = 1 := hl
    subst hl
    obtain ⟨b, a, t, v, rfl, h2, k2⟩ := hbin hx
    cases h2
    unfold zushr at k2
    rw [zI_back] at k2
    exact lv_iushr hexec hb hd rfl k2
  | ladd =>
    have hl : len = 1 := hl
    subst hl
    obtain ⟨b, a, t, v, rfl, h2, k2⟩ := hbinL hx
    cases h2
    rw [Int64.ofInt_add] at k2
    exact lv_ladd hexec hb hd k2
  | lmul =>
    have hl : len = 1 := hl
    subst hl
    obtain ⟨b, a, t, v, rfl, h2, k2⟩ := hbinL hx
    cases h2
    rw [Int64.ofInt_mul] at k2
    exact lv_lmul hexec hb hd k2
  | ldiv =>
    have hl : len = 1 := hl
    subst hl
    obtain ⟨b, a, t, v, rfl, h2, k2⟩ := hbinL hx
    split at h2
    · cases h2
    · rename_i hn
      cases h2
      rw [zJ_div] at k2
      exact lv_ldiv hexec hb hd (fun q => hn (zJ_0.mp q)) k2
  | lrem =>
    have hl : len = 1 := hl
    subst hl
    obtain ⟨b, a, t, v, rfl, h2, k2⟩ := hbinL hx
    split at h2
    · cases h2
    · rename_i hn
      cases h2
      rw [zJ_mod] at k2
      exact lv_lrem hexec hb hd (fun q => hn (zJ_0.mp q)) k2
  | lcmp =>
    have hl : len = 1 := hl
    subst hl
    obtain ⟨h1, e1, e2, e3⟩ := zgo_inv hx
    split at h1
    · rename_i b a t
      obtain rfl := Option.some.inj h1
      subst e1; subst e2; subst e3
      have k2 := kk ls H locs h0
      refine W.lcmp hexec hb hd ?_
      rw [zJ_cmp]
      exact k2
    · cases h1
  | i2l =>
    have hl : len = 1 := hl
    subst hl
    obtain ⟨h1, e1, e2, e3⟩ := zgo_inv hx
    obtain ⟨a, t, rfl, rfl⟩ := zu_inv h1
    subst e1; subst e2; subst e3
    exact lv_i2l hexec hb hd (zI_i2l a) (kk ls H locs h0)
  | i2b =>
    have hl : len = 1 := hl
    subst hl
    obtain ⟨h1, e1, e2, e3⟩ := zgo_inv hx
    obtain ⟨a, t, rfl, rfl⟩ := zu_inv h1
    subst e1; subst e2; subst e3
    exact lv_i2b hexec hb hd (zI_back _).symm (kk ls H locs h0)
  | i2s =>
    have hl : len = 1 := hl
    subst hl
    obtain ⟨h1, e1, e2, e3⟩ := zgo_inv hx
    obtain ⟨a, t, rfl, rfl⟩ := zu_inv h1
    subst e1; subst e2; subst e3
    exact lv_i2s hexec hb hd (zI_back _).symm (kk ls H locs h0)
  | pop =>
    have hl : len = 1 := hl
    subst hl
    unfold zex at hx
    dsimp only at hx
    split at hx
    · exact lv_pop hexec hb hd rfl (hcall0 hx)
    · rename_i a t
      cases a <;> exact lv_pop hexec hb hd rfl (hcall0 hx)
    · cases hx
  | dup =>
    have hl : len = 1 := hl
    subst hl
    unfold zex at hx
    dsimp only at hx
    split at hx
    · exact lv_dup hexec hb hd rfl (hcall0 hx)
    · rename_i a t
      cases a <;> exact lv_dup hexec hb hd rfl (hcall0 hx)
    · cases hx
  | dup2 =>
    have hl : len = 1 := hl
    subst hl
    unfold zex at hx
    dsimp only at hx
    split at hx
    · rename_i b a t
      cases a <;> exact lv_dup2_11 hexec hb hd rfl rfl (hcall0 hx)
    · cases hx
  | goto off =>
    have hl : len = 3 := hl
    subst hl
    obtain ⟨t, h1, h2⟩ := Option.map_eq_some_iff.mp hx
    exact lv_goto hexec hb hd (zjmp_inv h1) (hcall0 (congrArg some h2))
  | ifCond cd off =>
    have hl : len = 3 := hl
    subst hl
    unfold zex at hx
    dsimp only at hx
    split at hx
    · rename_i a r
      obtain ⟨t0, h1, h2⟩ := Option.map_eq_some_iff.mp hx
      obtain ⟨t, ht, rfl⟩ := zbr_inv h1
      have k2 := hcall0 (congrArg some h2)
      cases cd with
      | eq => exact lv_if_eq hexec hb hd ht (fun q => by rw [show zcmp .eq (nrm a) 0 = true from decide_eq_true (zI_0.mp q)] at k2; exact k2) (fun q => by rw [show zcmp .eq (nrm a) 0 = false from decide_eq_false (fun z => q (zI_0.mpr z))] at k2; exact k2)
      | ne => exact lv_if_ne hexec hb hd ht (fun q => by rw [show zcmp .ne (nrm a) 0 = true from decide_eq_true (fun z => q (zI_0.mpr z))] at k2; exact k2) (fun q => by rw [show zcmp .ne (nrm a) 0 = false from decide_eq_false (fun z => z (zI_0.mp q))] at k2; exact k2)
      | lt => exact lv_if_lt hexec hb hd ht (fun q => by rw [show zcmp .lt (nrm a) 0 = true from decide_eq_true (zI_lt0.mp q)] at k2; exact k2) (fun q => by rw [show zcmp .lt (nrm a) 0 = false from decide_eq_false (fun z => q (zI_lt0.mpr z))] at k2; exact k2)
      | ge => exact lv_if_ge hexec hb hd ht (fun q => by rw [show zcmp .ge (nrm a) 0 = true from decide_eq_true (zI_0le.mp q)] at k2; exact k2) (fun q => by rw [show zcmp .ge (nrm a) 0 = false from decide_eq_false (fun z => q (zI_0le.mpr z))] at k2; exact k2)
      | gt => exact lv_if_gt hexec hb hd ht (fun q => by rw [show zcmp .gt (nrm a) 0 = true from decide_eq_true (zI_0lt.mp q)] at k2; exact k2) (fun q => by rw [show zcmp .gt (nrm a) 0 = false from decide_eq_false (fun z => q (zI_0lt.mpr z))] at k2; exact k2)
      | le => exact lv_if_le hexec hb hd ht (fun q => by rw [show zcmp .le (nrm a) 0 = true from decide_eq_true (zI_le0.mp q)] at k2; exact k2) (fun q => by rw [show zcmp .le (nrm a) 0 = false from decide_eq_false (fun z => q (zI_le0.mpr z))] at k2; exact k2)
    · cases hx
  | if_icmp cd off =>
    have hl : len = 3 := hl
    subst hl
    unfold zex at hx
    dsimp only at hx
    split at hx
    · rename_i b a r
      obtain ⟨t0, h1, h2⟩ := Option.map_eq_some_iff.mp hx
      obtain ⟨t, ht, rfl⟩ := zbr_inv h1
      have k2 := hcall0 (congrArg some h2)
      cases cd with
      | eq => exact lv_icmp_eq hexec hb hd ht (fun q => by rw [show zcmp .eq (nrm a) (nrm b) = true from decide_eq_true (zI_eq.mp q)] at k2; exact k2) (fun q => by rw [show zcmp .eq (nrm a) (nrm b) = false from decide_eq_false (fun z => q (zI_eq.mpr z))] at k2; exact k2)
      | ne => exact lv_icmp_ne hexec hb hd ht (fun q => by rw [show zcmp .ne (nrm a) (nrm b) = true from decide_eq_true (fun z => q (zI_eq.mpr z))] at k2; exact k2) (fun q => by rw [show zcmp .ne (nrm a) (nrm b) = false from decide_eq_false (fun z => z (zI_eq.mp q))] at k2; exact k2)
      | lt => exact lv_icmp_lt hexec hb hd ht (fun q => by rw [show zcmp .lt (nrm a) (nrm b) = true from decide_eq_true (zI_lt.mp q)] at k2; exact k2) (fun q => by rw [show zcmp .lt (nrm a) (nrm b) = false from decide_eq_false (fun z => q (zI_lt.mpr z))] at k2; exact k2)
      | ge => exact lv_icmp_ge hexec hb hd ht (fun q => by rw [show zcmp .ge (nrm a) (nrm b) = true from decide_eq_true (zI_le.mp q)] at k2; exact k2) (fun q => by rw [show zcmp .ge (nrm a) (nrm b) = false from decide_eq_false (fun z => q (zI_le.mpr z))] at k2; exact k2)
      | gt => exact lv_icmp_gt hexec hb hd ht (fun q => by rw [show zcmp .gt (nrm a) (nrm b) = true from decide_eq_true (zI_lt.mp q)] at k2; exact k2) (fun q => by rw [show zcmp .gt (nrm a) (nrm b) = false from decide_eq_false (fun z => q (zI_lt.mpr z))] at k2; exact k2)
      | le => exact lv_icmp_le hexec hb hd ht (fun q => by rw [show zcmp .le (nrm a) (nrm b) = true from decide_eq_true (zI_le.mp q)] at k2; exact k2) (fun q => by rw [show zcmp .le (nrm a) (nrm b) = false from decide_eq_false (fun z => q (zI_le.mpr z))] at k2; exact k2)
    · cases hx
  | ifnull off =>
    have hl : len = 3 := hl
    subst hl
    unfold zex at hx
    dsimp only at hx
    split at hx
    · obtain ⟨t, h1, h2⟩ := Option.map_eq_some_iff.mp hx
      exact lv_ifnullN hexec hb hd (zjmp_inv h1) (hcall0 (congrArg some h2))
    · exact lv_ifnull hexec hb hd (hcall0 hx)
    · cases hx
  | ifnonnull off =>
    have hl : len = 3 := hl
    subst hl
    unfold zex at hx
    dsimp only at hx
    split at hx
    · exact lv_ifnonnullN hexec hb hd (hcall0 hx)
    · obtain ⟨t, h1, h2⟩ := Option.map_eq_some_iff.mp hx
      exact lv_ifnonnull hexec hb hd (zjmp_inv h1) (hcall0 (congrArg some h2))
    · cases hx
  | tableswitch d lo hi offs =>
    unfold zex at hx
    dsimp only at hx
    split at hx
    · rename_i a r
      split at hx
      · rename_i hh
        obtain ⟨t, h1, h2⟩ := Option.map_eq_some_iff.mp hx
        have ht := zjmp_inv h1
        have hsz : (offs.toList.length : Int) = offs.size := by simp
        by_cases hin : nrm a < lo ∨ hi < nrm a
        · rw [zsw_out _ _ _ _ (by omega)] at ht
          exact lv_tableOut hexec hb hd (by rw [zI_toInt]; exact hin) ht (hcall0 (congrArg some h2))
        · have h3 := zsw_in (nrm a) d offs.toList lo (by omega) (by omega)
          refine lv_tableIn hexec hb hd (off := zsw (nrm a) lo offs.toList d) (by rw [zI_toInt]; omega) (by rw [zI_toInt]; omega) ?_ ht (hcall0 (congrArg some h2))
          rw [zI_toInt, ← h3]
          simp
      · cases hx
    · cases hx
  | lookupswitch d ps =>
    unfold zex at hx
    dsimp only at hx
    split at hx
    · rename_i a r
      split at hx
      · rename_i hh
        obtain ⟨t, h1, h2⟩ := Option.map_eq_some_iff.mp hx
        exact lv_lookup hexec hb hd hh (by rw [zI_toInt]) (zjmp_inv h1) (hcall0 (congrArg some h2))
      · cases hx
    · cases hx
  | getfield n =>
    have hl : len = 3 := hl
    subst hl
    unfold zex at hx
    dsimp only at hx
    split at hx
    · rename_i ci f q t hf
      split at hx
      · rename_i hq
        obtain ⟨r, hr, hfr, hlk⟩ := zfl_ok hf
        have hci : ci < 4 := by have := (List.getElem?_eq_some_iff.mp hr).1; simpa [zcl] using this
        have hq52 : q < 52 := zkd_lt hq (by omega)
        obtain ⟨r2, hr2, hn2⟩ := zln_cls q hq52 (by omega)
        rw [hq] at hr2
        have e : r2 = r := Option.some.inj (hr2.symm.trans hr)
        subst e
        rw [← hcl (zfl_cls hf)] at hlk
        have hfn : f < zln q := by rw [← hn2]; exact hfr
        have h3 := zfs_get (g := g) (σ := σ) hfn
        rw [hq] at h3
        exact va_get hexec hb hts (zly hr) hown hK hP q (by rw [zwd_get hq52, zcel_o hq hci]) hr f hfr (hts _ hlk) (fun x hx => hx) h3 hd (hcall0 hx)
      · cases hx
    · cases hx
  | putfield n =>
    have hl : len = 3 := hl
    subst hl
    unfold zex at hx
    dsimp only at hx
    split at hx
    · rename_i ci f v q t hf
      split at hx
      · rename_i hq
        obtain ⟨hq, hrf, hbo⟩ := hq
        obtain ⟨r, hr, hfr, hlk⟩ := zfl_ok hf
        have hci : ci < 4 := by have := (List.getElem?_eq_some_iff.mp hr).1; simpa [zcl] using this
        have hq52 : q < 52 := zkd_lt hq (by omega)
        obtain ⟨r2, hr2, hn2⟩ := zln_cls q hq52 (by omega)
        rw [hq] at hr2
        have e : r2 = r := Option.some.inj (hr2.symm.trans hr)
        subst e
        rw [← hcl (zfl_cls hf)] at hlk
        have hfn : f < zln q := by rw [← hn2]; exact hfr
        obtain ⟨hfin, hty⟩ := zty_ok q hq52 (by omega) f hfn hrf
        rw [hq] at hfin hty
        dsimp only at hr
        rw [hr] at hfin hty
        simp only [Option.map_some, Option.bind_some, Option.some.injEq] at hfin hty
        obtain ⟨ty0, hty0, hnm⟩ := zty hr
        cases hx
        have hnf : narrow (if zbo ci f = true then FieldType.boolean else FieldType.int) (.int (Int32.ofInt v)) = .int (Int32.ofInt v) ∧ fits (if zbo ci f = true then FieldType.boolean else FieldType.int) (.int (Int32.ofInt v)) = true := by
          split
          · rename_i hb1
            rcases hbo hb1 with h5 | h5
            · rw [← zI_nrm v, h5]; exact ⟨rfl, rfl⟩
            · rw [← zI_nrm v, h5]; exact ⟨rfl, rfl⟩
          · exact ⟨rfl, rfl⟩
        refine va_put hexec hb hts (zly hr) ty0 hty0 hnm hown hK hP (hD σ) hS q (by rw [zwd_get hq52, zcel_o hq hci]) hr f hfr (hts _ hlk) (fun x hx => hx) hfin hty hnf.1 hnf.2 (by unfold zfs; simpa using hfn) hd fun H1 locs1 hP1 _ hS1 => ?_
        have hP2 : va_P D zcl ((zwd g σ).set q (g.1 q, .inr (ci, (zfs g σ q).set f (.int (Int32.ofInt v))))) H1 := hP1
        rw [zwd_put hq hci hfn hrf] at hP2
        exact kk ls H1 locs1 ⟨hlv, hP2, hS1⟩
      · cases hx
    · cases hx
  | iaload =>
    have hl : len = 1 := hl
    subst hl
    unfold zex at hx
    dsimp only at hx
    split at hx
    · rename_i i q t
      split at hx
      · rename_i x hq
        have hq : q = 52 := of_decide_eq_true hq
        subst hq
        split at hx
        · rename_i hz
          obtain ⟨xs, h1, h2, h3, h4⟩ := hX
          have h5 := va_sld (l := l) (e := e) (R := R) (m := m) (args := args) (below := below) (meth := meth) (cells := cells) (slots := slots) (Q := Q) (ls := ls) (rest := t.map (zv g.1)) hexec hb h1 h2 h3 hS (zI_in hz) hd
          refine h5 ?_
          rw [zI_clamp, ← h4 _ (by have := hz.1; have := hz.2; omega)]
          exact hcall0 hx
        · cases hx
      · cases hx
      · rename_i hq
        split at hx
        · rename_i hz
          obtain ⟨hk4, hz⟩ := hz
          have h5 := va_iald (l := l) (e := e) (R := R) (m := m) (args := args) (below := below) (meth := meth) (cells := cells) (slots := slots) (Q := Q) (ls := ls) (rest := t.map (zv g.1)) (locs := locs) hexec hb hK hP q 0 (by rw [zwd_get (zkd_lt hk4 (by omega)), zcel_i hk4]) rfl (zI_in hz) hd
          refine h5 ?_
          rw [zI_clamp]
          exact hcall0 hx
        · cases hx
    · cases hx
  | laload =>
    have hl : len = 1 := hl
    subst hl
    unfold zex at hx
    dsimp only at hx
    split at hx
    · rename_i i q t
      split at hx
      · rename_i hz
        obtain ⟨hk4, hz⟩ := hz
        have h5 := va_lald (l := l) (e := e) (R := R) (m := m) (args := args) (below := below) (meth := meth) (cells := cells) (slots := slots) (Q := Q) (ls := ls) (rest := t.map (zv g.1)) (locs := locs) hexec hb hK hP q 1 (by rw [zwd_get (zkd_lt hk4 (by omega)), zcel_j hk4]) rfl (zI_in hz) hd
        refine h5 ?_
        rw [zI_clamp]
        exact hcall0 hx
      · cases hx
    · cases hx
  | aaload =>
    have hl : len = 1 := hl
    subst hl
    unfold zex at hx
    dsimp only at hx
    split at hx
    · rename_i i q t
      split at hx
      · rename_i hz
        obtain ⟨hk4, hz⟩ := hz
        have h5 := va_aldq (l := l) (e := e) (R := R) (m := m) (args := args) (below := below) (meth := meth) (cells := cells) (slots := slots) (Q := Q) (ls := ls) (rest := t.map (zv g.1)) (locs := locs) hexec hb hK hP q 2 (by rw [zwd_get (zkd_lt hk4 (by omega)), zcel_s hk4]) rfl (zI_in hz) hd
        refine h5 ?_
        rw [zI_clamp]
        have k2 := hcall0 hx
        cases hr : zrf q (nrm i).toNat with
        | none => rw [hr] at k2; exact k2
        | some y => rw [hr] at k2; exact k2
      · cases hx
    · cases hx
  | iastore =>
    have hl : len = 1 := hl
    subst hl
    unfold zex at hx
    dsimp only at hx
    split at hx
    · rename_i v i q t
      split at hx
      · rename_i hz
        obtain ⟨hk4, hz⟩ := hz
        cases hx
        have h5 := va_iast (l := l) (e := e) (R := R) (m := m) (args := args) (below := below) (meth := meth) (cells := cells) (slots := slots) (Q := Q) (ls := ls) (rest := S'.map (zv g.1)) (x := Int32.ofInt v) hexec hb hK hP (hD σ) hS q 0 (by rw [zwd_get (zkd_lt hk4 (by omega)), zcel_i hk4]) rfl (zI_in hz) hd
        refine h5 fun H1 locs1 hP1 _ hS1 => ?_
        rw [zI_clamp, zwd_ast hk4] at hP1
        exact kk ls H1 locs1 ⟨hlv, hP1, hS1⟩
      · cases hx
    · cases hx
  | lastore =>
    have hl : len = 1 := hl
    subst hl
    unfold zex at hx
    dsimp only at hx
    split at hx
    · rename_i v i q t
      split at hx
      · rename_i hz
        obtain ⟨hk4, hz⟩ := hz
        cases hx
        have h5 := va_last (l := l) (e := e) (R := R) (m := m) (args := args) (below := below) (meth := meth) (cells := cells) (slots := slots) (Q := Q) (ls := ls) (rest := S'.map (zv g.1)) (x := Int64.ofInt v) hexec hb hK hP (hD σ) hS q 1 (by rw [zwd_get (zkd_lt hk4 (by omega)), zcel_j hk4]) rfl (zI_in hz) hd
        refine h5 fun H1 locs1 hP1 _ hS1 => ?_
        rw [zI_clamp, zwd_lst hk4] at hP1
        exact kk ls H1 locs1 ⟨hlv, hP1, hS1⟩
      · cases hx
    · cases hx
  | arraylength =>
    have hl : len = 1 := hl
    subst hl
    unfold zex at hx
    dsimp only at hx
    split at hx
    · rename_i q t
      split at hx
      · rename_i x hq
        have hq : q = 52 := of_decide_eq_true hq
        subst hq
        obtain ⟨xs, h1, h2, h3, h4⟩ := hX
        have h5 := va_slen (l := l) (e := e) (R := R) (m := m) (args := args) (below := below) (meth := meth) (cells := cells) (slots := slots) (Q := Q) (ls := ls) (rest := t.map (zv g.1)) hexec hb h1 h2 h3 hS hd
        refine h5 ?_
        rw [← Int32.ofInt_eq_ofNat]
        exact hcall0 hx
      · cases hx
      · rename_i hq
        split at hx
        · rename_i hz
          have hq52 : q < 52 := by rcases hz with h | h | h <;> exact zkd_lt h (by omega)
          have e : ∃ (cA : ClassId) (x : vp_A) (ty : FieldType) (t0 : Nat), zcel g σ q = .inl (cA, x) ∧ x.1 = zln q ∧ (ztys g)[t0]? = some (cA, ty) := by
            rcases hz with h | h | h
            · exact ⟨_, _, _, 0, zcel_i h, rfl, rfl⟩
            · exact ⟨_, _, _, 1, zcel_j h, rfl, rfl⟩
            · exact ⟨_, _, _, 2, zcel_s h, rfl, rfl⟩
          obtain ⟨cA, x, ty, t0, e1, e2, e3⟩ := e
          exact va_alen hexec hb hK hP q t0 (by rw [zwd_get hq52, e1]) e3 (v := Int32.ofInt (zln q)) (by rw [e2, Int32.ofInt_eq_ofNat]) hd (hcall0 hx)
        · cases hx
    · cases hx
  | _ => exact absurd hx (by unfold zex; exact fun h => by cases h)
