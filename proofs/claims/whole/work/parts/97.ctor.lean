section CROWS2
variable {p : Program} {l : Launch} {e : Env} {R : Room} {s : State} {m : MethodId} {args : Array Value} {below : List Frame} {meth : Method} {c : Code} {H : Heap} {locs : List Loc} {cells slots : Nat} {Q : State → Prop}
variable {g : zG} {D : va_G} {A : Nat → Prop} {k : zM} {ws : va_W} {pc : Nat} {ls : Array Slot} {rest : List Value}
theorem zr_get (C : zKc p s m args c k g D) {ci idx f : Nat} (hf : zfl k.2.2.2.2.1 idx = some (ci, f)) {r : vw_C} (hr : zcl[ci]? = some r) (hst : zKs D A ws s.heap H locs) (q0 : Nat) {a : Nat} {fs : List Value} (he : ws[q0]? = some (a, .inr (ci, fs)))
    {v : Value} (hv : fs[f]? = some v) (hd : decode k.2.1 pc = .ok (.getfield idx, 3)) (kk : W p l e R s m args below meth c H locs cells slots Q (F0 m (pc + 3) ls (v :: rest))) :
    W p l e R s m args below meth c H locs cells slots Q (F0 m pc ls (.ref a :: rest)) := by
  obtain ⟨hexec, hb, hml, hown, hts, hcl, hK, hN, hO⟩ := C
  obtain ⟨hP, hD, hS⟩ := hst
  obtain ⟨r', hr', hfr, hlk⟩ := zfl_ok hf
  have er : r' = r := Option.some.inj (hr'.symm.trans hr)
  subst er
  rw [← hcl] at hlk
  exact va_get hexec hb hts (zly hr) hown hK hP q0 he hr f hfr (hts _ hlk) (fun x hx => hx) hv hd kk
theorem zr_iast (C : zKc p s m args c k g D) (hst : zKs D A ws s.heap H locs) (q0 : Nat) {a n : Nat} {f : Nat → Int32} (ha : ws[q0]? = some (a, .inl (g.2.1, n, .inl f))) {i x : Int32} (hin : vp_in i n) (hd : decode k.2.1 pc = .ok (.iastore, 1))
    (kk : ∀ (H1 : Heap) (locs1 : List Loc), zKs D A (ws.set q0 (a, .inl (g.2.1, n, .inl (upd f i.toNatClampNeg x)))) s.heap H1 locs1 → W p l e R s m args below meth c H1 locs1 cells slots Q (F0 m (pc + 1) ls rest)) :
    W p l e R s m args below meth c H locs cells slots Q (F0 m pc ls (.int x :: .int i :: .ref a :: rest)) := by
  obtain ⟨hexec, hb, hml, hown, hts, hcl, hK, hN, hO⟩ := C
  obtain ⟨hP, hD, hS⟩ := hst
  exact va_iast hexec hb hK hP hD hS q0 0 ha rfl hin hd fun H1 locs1 hP1 hD1 hS1 => kk H1 locs1 ⟨hP1, hD1, hS1⟩
theorem zr_qlen (C : zKc p s m args c k g D) (hst : zKs D A ws s.heap H locs) (q0 : Nat) {a n : Nat} {f : Nat → Option Nat} (ha : ws[q0]? = some (a, eQ g n f)) {v : Int32} (hv : Int32.ofNat n = v) (hd : decode k.2.1 pc = .ok (.arraylength, 1))
    (kk : W p l e R s m args below meth c H locs cells slots Q (F0 m (pc + 1) ls (.int v :: rest))) : W p l e R s m args below meth c H locs cells slots Q (F0 m pc ls (.ref a :: rest)) := by
  obtain ⟨hexec, hb, hml, hown, hts, hcl, hK, hN, hO⟩ := C
  obtain ⟨hP, hD, hS⟩ := hst
  exact va_alen hexec hb hK hP q0 2 ha rfl hv hd kk
end CROWS2
abbrev fX0 : va_E := .inr (0, [.int 0, .int 0, .int 0, .int 0, .null, .null, .null, .null])
def wX0 (g : zG) (h : Nat) (a1 a2 a3 a4 : Nat) : va_W := [(h, .inr (0, [.int 0, .int 22, .int 0, .int 0, .ref a1, .ref a2, .ref a3, .ref a4])), (a1, eI g 8), (a2, eI g 8), (a3, eI g 8), (a4, eI g 8)]
def zFX0 (g : zG) (h : Nat) (w : va_W) : Prop := ∃ a1 a2 a3 a4 : Nat, w = wX0 g h a1 a2 a3 a4
set_option maxRecDepth 100000 in
theorem c_X0 (l : Launch) (g : zG) (D : va_G) (h sz : Nat) : zCm l mX0_init (zRc 1 4 32 64) g D h fX0 sz (zFX0 g h) 4 32 := by
  refine zc_body (by decide +kernel) (by decide +kernel) rfl rfl (by decide) ?_
  intro p e s m below meth c ls C hst hA hl hr hlocks hin
  have hx := C.1
  have hb := C.2.1
  refine lv_aload_n hx hb dX0_init_0 rfl (lv_at hl 0 rfl) ?_
  refine zr_obj C hl.1 (zT_at 76 (by decide +kernel) (by decide +kernel)) dX0_init_1 ⟨Nat.le_of_ble_eq_true rfl, Nat.le_of_ble_eq_true rfl⟩ ?_
  refine lv_aload_n hx hb dX0_init_4 rfl (lv_at hl 0 rfl) ?_
  refine lv_iconst (v := 0) hx hb dX0_init_5 (by decide) ?_
  refine zr_put C (ci := 0) (f := 0) (by decide +kernel) (r := (RX0, TX0, 8)) rfl hst 0 rfl (ty := .int) (v := .int 0) (by decide +kernel) rfl rfl (Nat.le_of_ble_eq_true rfl) hin (Or.inl (by decide +kernel)) dX0_init_6 (fun H locs hst => ?_)
  have hst : zKs D _ [(h, .inr (0, [.int 0, .int 0, .int 0, .int 0, .null, .null, .null, .null]))] s.heap H _ := hst
  refine lv_aload_n hx hb dX0_init_9 rfl (lv_at hl 0 rfl) ?_
  refine lv_bipush (v := 22) hx hb dX0_init_10 (by decide) ?_
  refine zr_put C (ci := 0) (f := 1) (by decide +kernel) (r := (RX0, TX0, 8)) rfl hst 0 rfl (ty := .int) (v := .int 22) (by decide +kernel) rfl rfl (Nat.le_of_ble_eq_true rfl) hin (Or.inl (by decide +kernel)) dX0_init_12 (fun H locs hst => ?_)
  have hst : zKs D _ [(h, .inr (0, [.int 0, .int 22, .int 0, .int 0, .null, .null, .null, .null]))] s.heap H _ := hst
  refine lv_aload_n hx hb dX0_init_15 rfl (lv_at hl 0 rfl) ?_
  refine lv_iconst (v := 0) hx hb dX0_init_16 (by decide) ?_
  refine zr_put C (ci := 0) (f := 2) (by decide +kernel) (r := (RX0, TX0, 8)) rfl hst 0 rfl (ty := .int) (v := .int 0) (by decide +kernel) rfl rfl (Nat.le_of_ble_eq_true rfl) hin (Or.inl (by decide +kernel)) dX0_init_17 (fun H locs hst => ?_)
  have hst : zKs D _ [(h, .inr (0, [.int 0, .int 22, .int 0, .int 0, .null, .null, .null, .null]))] s.heap H _ := hst
  refine lv_aload_n hx hb dX0_init_20 rfl (lv_at hl 0 rfl) ?_
  refine lv_iconst (v := 0) hx hb dX0_init_21 (by decide) ?_
  refine zr_put C (ci := 0) (f := 3) (by decide +kernel) (r := (RX0, TX0, 8)) rfl hst 0 rfl (ty := .int) (v := .int 0) (by decide +kernel) rfl rfl (Nat.le_of_ble_eq_true rfl) hin (Or.inl (by decide +kernel)) dX0_init_22 (fun H locs hst => ?_)
  have hst : zKs D _ [(h, .inr (0, [.int 0, .int 22, .int 0, .int 0, .null, .null, .null, .null]))] s.heap H _ := hst
  refine lv_aload_n hx hb dX0_init_25 rfl (lv_at hl 0 rfl) ?_
  refine lv_bipush (v := 8) hx hb dX0_init_26 (by decide) ?_
  refine zr_newI C hA hst (n := 8) 8 (by decide) (by decide) (by decide) (Nat.le_of_ble_eq_true rfl) (Nat.le_of_ble_eq_true rfl) dX0_init_28 (fun a1 H hst => ?_)
  have hst : zKs D _ [(h, .inr (0, [.int 0, .int 22, .int 0, .int 0, .null, .null, .null, .null])), (a1, eI g 8)] s.heap H _ := hst
  refine zr_put C (ci := 0) (f := 4) (by decide +kernel) (r := (RX0, TX0, 8)) rfl hst 0 rfl (ty := (.array .int)) (v := .ref a1) (by decide +kernel) rfl rfl (Nat.le_of_ble_eq_true rfl) hin (Or.inr (by decide +kernel)) dX0_init_30 (fun H locs hst => ?_)
  have hst : zKs D _ [(h, .inr (0, [.int 0, .int 22, .int 0, .int 0, .ref a1, .null, .null, .null])), (a1, eI g 8)] s.heap H _ := hst
  refine lv_aload_n hx hb dX0_init_33 rfl (lv_at hl 0 rfl) ?_
  refine lv_bipush (v := 8) hx hb dX0_init_34 (by decide) ?_
  refine zr_newI C hA hst (n := 8) 8 (by decide) (by decide) (by decide) (Nat.le_of_ble_eq_true rfl) (Nat.le_of_ble_eq_true rfl) dX0_init_36 (fun a2 H hst => ?_)
  have hst : zKs D _ [(h, .inr (0, [.int 0, .int 22, .int 0, .int 0, .ref a1, .null, .null, .null])), (a1, eI g 8), (a2, eI g 8)] s.heap H _ := hst
  refine zr_put C (ci := 0) (f := 5) (by decide +kernel) (r := (RX0, TX0, 8)) rfl hst 0 rfl (ty := (.array .int)) (v := .ref a2) (by decide +kernel) rfl rfl (Nat.le_of_ble_eq_true rfl) hin (Or.inr (by decide +kernel)) dX0_init_38 (fun H locs hst => ?_)
  have hst : zKs D _ [(h, .inr (0, [.int 0, .int 22, .int 0, .int 0, .ref a1, .ref a2, .null, .null])), (a1, eI g 8), (a2, eI g 8)] s.heap H _ := hst
  refine lv_aload_n hx hb dX0_init_41 rfl (lv_at hl 0 rfl) ?_
  refine lv_bipush (v := 8) hx hb dX0_init_42 (by decide) ?_
  refine zr_newI C hA hst (n := 8) 8 (by decide) (by decide) (by decide) (Nat.le_of_ble_eq_true rfl) (Nat.le_of_ble_eq_true rfl) dX0_init_44 (fun a3 H hst => ?_)
  have hst : zKs D _ [(h, .inr (0, [.int 0, .int 22, .int 0, .int 0, .ref a1, .ref a2, .null, .null])), (a1, eI g 8), (a2, eI g 8), (a3, eI g 8)] s.heap H _ := hst
  refine zr_put C (ci := 0) (f := 6) (by decide +kernel) (r := (RX0, TX0, 8)) rfl hst 0 rfl (ty := (.array .int)) (v := .ref a3) (by decide +kernel) rfl rfl (Nat.le_of_ble_eq_true rfl) hin (Or.inr (by decide +kernel)) dX0_init_46 (fun H locs hst => ?_)
  have hst : zKs D _ [(h, .inr (0, [.int 0, .int 22, .int 0, .int 0, .ref a1, .ref a2, .ref a3, .null])), (a1, eI g 8), (a2, eI g 8), (a3, eI g 8)] s.heap H _ := hst
  refine lv_aload_n hx hb dX0_init_49 rfl (lv_at hl 0 rfl) ?_
  refine lv_bipush (v := 8) hx hb dX0_init_50 (by decide) ?_
  refine zr_newI C hA hst (n := 8) 8 (by decide) (by decide) (by decide) (Nat.le_of_ble_eq_true rfl) (Nat.le_of_ble_eq_true rfl) dX0_init_52 (fun a4 H hst => ?_)
  have hst : zKs D _ [(h, .inr (0, [.int 0, .int 22, .int 0, .int 0, .ref a1, .ref a2, .ref a3, .null])), (a1, eI g 8), (a2, eI g 8), (a3, eI g 8), (a4, eI g 8)] s.heap H _ := hst
  refine zr_put C (ci := 0) (f := 7) (by decide +kernel) (r := (RX0, TX0, 8)) rfl hst 0 rfl (ty := (.array .int)) (v := .ref a4) (by decide +kernel) rfl rfl (Nat.le_of_ble_eq_true rfl) hin (Or.inr (by decide +kernel)) dX0_init_54 (fun H locs hst => ?_)
  have hst : zKs D _ [(h, .inr (0, [.int 0, .int 22, .int 0, .int 0, .ref a1, .ref a2, .ref a3, .ref a4])), (a1, eI g 8), (a2, eI g 8), (a3, eI g 8), (a4, eI g 8)] s.heap H _ := hst
  exact zc_end C hst ⟨a1, a2, a3, a4, rfl⟩ hr hlocks dX0_init_57
abbrev fX1 : va_E := .inr (1, [.int 0, .int 0, .int 0, .int 0, .int 0, .null])
def wX1 (g : zG) (h : Nat) (a1 : Nat) : va_W := [(h, .inr (1, [.int 0, .int 0, .int 0, .int 0, .int 0, .ref a1])), (a1, eI g 100)]
def zFX1 (g : zG) (h : Nat) (w : va_W) : Prop := ∃ a1 : Nat, w = wX1 g h a1
set_option maxRecDepth 100000 in
theorem c_X1 (l : Launch) (g : zG) (D : va_G) (h sz : Nat) : zCm l mX1_init (zRc 1 1 100 64) g D h fX1 sz (zFX1 g h) 1 100 := by
  refine zc_body (by decide +kernel) (by decide +kernel) rfl rfl (by decide) ?_
  intro p e s m below meth c ls C hst hA hl hr hlocks hin
  have hx := C.1
  have hb := C.2.1
  refine lv_aload_n hx hb dX1_init_0 rfl (lv_at hl 0 rfl) ?_
  refine zr_obj C hl.1 (zT_at 116 (by decide +kernel) (by decide +kernel)) dX1_init_1 ⟨Nat.le_of_ble_eq_true rfl, Nat.le_of_ble_eq_true rfl⟩ ?_
  refine lv_aload_n hx hb dX1_init_4 rfl (lv_at hl 0 rfl) ?_
  refine lv_iconst (v := 0) hx hb dX1_init_5 (by decide) ?_
  refine zr_put C (ci := 1) (f := 0) (by decide +kernel) (r := (RX1, TX1, 6)) rfl hst 0 rfl (ty := .int) (v := .int 0) (by decide +kernel) rfl rfl (Nat.le_of_ble_eq_true rfl) hin (Or.inl (by decide +kernel)) dX1_init_6 (fun H locs hst => ?_)
  have hst : zKs D _ [(h, .inr (1, [.int 0, .int 0, .int 0, .int 0, .int 0, .null]))] s.heap H _ := hst
  refine lv_aload_n hx hb dX1_init_9 rfl (lv_at hl 0 rfl) ?_
  refine lv_iconst (v := 0) hx hb dX1_init_10 (by decide) ?_
  refine zr_put C (ci := 1) (f := 1) (by decide +kernel) (r := (RX1, TX1, 6)) rfl hst 0 rfl (ty := .int) (v := .int 0) (by decide +kernel) rfl rfl (Nat.le_of_ble_eq_true rfl) hin (Or.inl (by decide +kernel)) dX1_init_11 (fun H locs hst => ?_)
  have hst : zKs D _ [(h, .inr (1, [.int 0, .int 0, .int 0, .int 0, .int 0, .null]))] s.heap H _ := hst
  refine lv_aload_n hx hb dX1_init_14 rfl (lv_at hl 0 rfl) ?_
  refine lv_iconst (v := 0) hx hb dX1_init_15 (by decide) ?_
  refine zr_put C (ci := 1) (f := 2) (by decide +kernel) (r := (RX1, TX1, 6)) rfl hst 0 rfl (ty := .int) (v := .int 0) (by decide +kernel) rfl rfl (Nat.le_of_ble_eq_true rfl) hin (Or.inl (by decide +kernel)) dX1_init_16 (fun H locs hst => ?_)
  have hst : zKs D _ [(h, .inr (1, [.int 0, .int 0, .int 0, .int 0, .int 0, .null]))] s.heap H _ := hst
  refine lv_aload_n hx hb dX1_init_19 rfl (lv_at hl 0 rfl) ?_
  refine lv_iconst (v := 0) hx hb dX1_init_20 (by decide) ?_
  refine zr_put C (ci := 1) (f := 3) (by decide +kernel) (r := (RX1, TX1, 6)) rfl hst 0 rfl (ty := .int) (v := .int 0) (by decide +kernel) rfl rfl (Nat.le_of_ble_eq_true rfl) hin (Or.inl (by decide +kernel)) dX1_init_21 (fun H locs hst => ?_)
  have hst : zKs D _ [(h, .inr (1, [.int 0, .int 0, .int 0, .int 0, .int 0, .null]))] s.heap H _ := hst
  refine lv_aload_n hx hb dX1_init_24 rfl (lv_at hl 0 rfl) ?_
  refine lv_iconst (v := 0) hx hb dX1_init_25 (by decide) ?_
  refine zr_put C (ci := 1) (f := 4) (by decide +kernel) (r := (RX1, TX1, 6)) rfl hst 0 rfl (ty := .int) (v := .int 0) (by decide +kernel) rfl rfl (Nat.le_of_ble_eq_true rfl) hin (Or.inl (by decide +kernel)) dX1_init_26 (fun H locs hst => ?_)
  have hst : zKs D _ [(h, .inr (1, [.int 0, .int 0, .int 0, .int 0, .int 0, .null]))] s.heap H _ := hst
  refine lv_aload_n hx hb dX1_init_29 rfl (lv_at hl 0 rfl) ?_
  refine lv_bipush (v := 100) hx hb dX1_init_30 (by decide) ?_
  refine zr_newI C hA hst (n := 100) 100 (by decide) (by decide) (by decide) (Nat.le_of_ble_eq_true rfl) (Nat.le_of_ble_eq_true rfl) dX1_init_32 (fun a1 H hst => ?_)
  have hst : zKs D _ [(h, .inr (1, [.int 0, .int 0, .int 0, .int 0, .int 0, .null])), (a1, eI g 100)] s.heap H _ := hst
  refine zr_put C (ci := 1) (f := 5) (by decide +kernel) (r := (RX1, TX1, 6)) rfl hst 0 rfl (ty := (.array .int)) (v := .ref a1) (by decide +kernel) rfl rfl (Nat.le_of_ble_eq_true rfl) hin (Or.inr (by decide +kernel)) dX1_init_34 (fun H locs hst => ?_)
  have hst : zKs D _ [(h, .inr (1, [.int 0, .int 0, .int 0, .int 0, .int 0, .ref a1])), (a1, eI g 100)] s.heap H _ := hst
  exact zc_end C hst ⟨a1, rfl⟩ hr hlocks dX1_init_37
abbrev fX3 : va_E := .inr (3, [.null, .null, .null, .null, .null, .int 0, .int 0, .int 0, .int 0, .null, .null, .null, .int 0, .int 0, .null, .null, .null, .null, .null, .null, .int 0])
def wX3 (g : zG) (h : Nat) (a1 a2 a3 a4 a5 a6 a7 a8 a9 a10 a11 a12 a13 a14 : Nat) : va_W := [(h, .inr (3, [.ref a1, .ref a2, .ref a3, .ref a4, .ref a5, .int 0, .int 0, .int 0, .int 0, .ref a6, .ref a7, .ref a8, .int 0, .int 0, .ref a9, .ref a10, .ref a11, .ref a12, .ref a13, .ref a14, .int 0])), (a1, .inl (g.2.1, 35, .inl (upd (fun _ => 0) (1 : Int32).toNatClampNeg 22))), (a2, eI g 35), (a3, eI g 35), (a4, eI g 35), (a5, eI g 8), (a6, eI g 2), (a7, eI g 8), (a8, eI g 8), (a9, eI g 8), (a10, eI g 8), (a11, eI g 8), (a12, eI g 8), (a13, eI g 8), (a14, eI g 800)]
def zFX3 (g : zG) (h : Nat) (w : va_W) : Prop := ∃ a1 a2 a3 a4 a5 a6 a7 a8 a9 a10 a11 a12 a13 a14 : Nat, w = wX3 g h a1 a2 a3 a4 a5 a6 a7 a8 a9 a10 a11 a12 a13 a14
set_option maxRecDepth 100000 in
theorem c_X3 (l : Launch) (g : zG) (D : va_G) (h sz : Nat) : zCm l mX3_init (zRc 1 14 1006 64) g D h fX3 sz (zFX3 g h) 14 1006 := by
  refine zc_body (by decide +kernel) (by decide +kernel) rfl rfl (by decide) ?_
  intro p e s m below meth c ls C hst hA hl hr hlocks hin
  have hx := C.1
  have hb := C.2.1
  refine lv_aload_n hx hb dX3_init_0 rfl (lv_at hl 0 rfl) ?_
  refine zr_obj C hl.1 (zT_at 756 (by decide +kernel) (by decide +kernel)) dX3_init_1 ⟨Nat.le_of_ble_eq_true rfl, Nat.le_of_ble_eq_true rfl⟩ ?_
  refine lv_aload_n hx hb dX3_init_4 rfl (lv_at hl 0 rfl) ?_
  refine lv_bipush (v := 35) hx hb dX3_init_5 (by decide) ?_
  refine zr_newI C hA hst (n := 35) 35 (by decide) (by decide) (by decide) (Nat.le_of_ble_eq_true rfl) (Nat.le_of_ble_eq_true rfl) dX3_init_7 (fun a1 H hst => ?_)
  have hst : zKs D _ [(h, .inr (3, [.null, .null, .null, .null, .null, .int 0, .int 0, .int 0, .int 0, .null, .null, .null, .int 0, .int 0, .null, .null, .null, .null, .null, .null, .int 0])), (a1, eI g 35)] s.heap H _ := hst
  refine zr_put C (ci := 3) (f := 0) (by decide +kernel) (r := (RX3, TX3, 21)) rfl hst 0 rfl (ty := (.array .int)) (v := .ref a1) (by decide +kernel) rfl rfl (Nat.le_of_ble_eq_true rfl) hin (Or.inr (by decide +kernel)) dX3_init_9 (fun H locs hst => ?_)
  have hst : zKs D _ [(h, .inr (3, [.ref a1, .null, .null, .null, .null, .int 0, .int 0, .int 0, .int 0, .null, .null, .null, .int 0, .int 0, .null, .null, .null, .null, .null, .null, .int 0])), (a1, eI g 35)] s.heap H _ := hst
  refine lv_aload_n hx hb dX3_init_12 rfl (lv_at hl 0 rfl) ?_
  refine lv_bipush (v := 35) hx hb dX3_init_13 (by decide) ?_
  refine zr_newI C hA hst (n := 35) 35 (by decide) (by decide) (by decide) (Nat.le_of_ble_eq_true rfl) (Nat.le_of_ble_eq_true rfl) dX3_init_15 (fun a2 H hst => ?_)
  have hst : zKs D _ [(h, .inr (3, [.ref a1, .null, .null, .null, .null, .int 0, .int 0, .int 0, .int 0, .null, .null, .null, .int 0, .int 0, .null, .null, .null, .null, .null, .null, .int 0])), (a1, eI g 35), (a2, eI g 35)] s.heap H _ := hst
  refine zr_put C (ci := 3) (f := 1) (by decide +kernel) (r := (RX3, TX3, 21)) rfl hst 0 rfl (ty := (.array .int)) (v := .ref a2) (by decide +kernel) rfl rfl (Nat.le_of_ble_eq_true rfl) hin (Or.inr (by decide +kernel)) dX3_init_17 (fun H locs hst => ?_)
  have hst : zKs D _ [(h, .inr (3, [.ref a1, .ref a2, .null, .null, .null, .int 0, .int 0, .int 0, .int 0, .null, .null, .null, .int 0, .int 0, .null, .null, .null, .null, .null, .null, .int 0])), (a1, eI g 35), (a2, eI g 35)] s.heap H _ := hst
  refine lv_aload_n hx hb dX3_init_20 rfl (lv_at hl 0 rfl) ?_
  refine lv_bipush (v := 35) hx hb dX3_init_21 (by decide) ?_
  refine zr_newI C hA hst (n := 35) 35 (by decide) (by decide) (by decide) (Nat.le_of_ble_eq_true rfl) (Nat.le_of_ble_eq_true rfl) dX3_init_23 (fun a3 H hst => ?_)
  have hst : zKs D _ [(h, .inr (3, [.ref a1, .ref a2, .null, .null, .null, .int 0, .int 0, .int 0, .int 0, .null, .null, .null, .int 0, .int 0, .null, .null, .null, .null, .null, .null, .int 0])), (a1, eI g 35), (a2, eI g 35), (a3, eI g 35)] s.heap H _ := hst
  refine zr_put C (ci := 3) (f := 2) (by decide +kernel) (r := (RX3, TX3, 21)) rfl hst 0 rfl (ty := (.array .int)) (v := .ref a3) (by decide +kernel) rfl rfl (Nat.le_of_ble_eq_true rfl) hin (Or.inr (by decide +kernel)) dX3_init_25 (fun H locs hst => ?_)
  have hst : zKs D _ [(h, .inr (3, [.ref a1, .ref a2, .ref a3, .null, .null, .int 0, .int 0, .int 0, .int 0, .null, .null, .null, .int 0, .int 0, .null, .null, .null, .null, .null, .null, .int 0])), (a1, eI g 35), (a2, eI g 35), (a3, eI g 35)] s.heap H _ := hst
  refine lv_aload_n hx hb dX3_init_28 rfl (lv_at hl 0 rfl) ?_
  refine lv_bipush (v := 35) hx hb dX3_init_29 (by decide) ?_
  refine zr_newI C hA hst (n := 35) 35 (by decide) (by decide) (by decide) (Nat.le_of_ble_eq_true rfl) (Nat.le_of_ble_eq_true rfl) dX3_init_31 (fun a4 H hst => ?_)
  have hst : zKs D _ [(h, .inr (3, [.ref a1, .ref a2, .ref a3, .null, .null, .int 0, .int 0, .int 0, .int 0, .null, .null, .null, .int 0, .int 0, .null, .null, .null, .null, .null, .null, .int 0])), (a1, eI g 35), (a2, eI g 35), (a3, eI g 35), (a4, eI g 35)] s.heap H _ := hst
  refine zr_put C (ci := 3) (f := 3) (by decide +kernel) (r := (RX3, TX3, 21)) rfl hst 0 rfl (ty := (.array .int)) (v := .ref a4) (by decide +kernel) rfl rfl (Nat.le_of_ble_eq_true rfl) hin (Or.inr (by decide +kernel)) dX3_init_33 (fun H locs hst => ?_)
  have hst : zKs D _ [(h, .inr (3, [.ref a1, .ref a2, .ref a3, .ref a4, .null, .int 0, .int 0, .int 0, .int 0, .null, .null, .null, .int 0, .int 0, .null, .null, .null, .null, .null, .null, .int 0])), (a1, eI g 35), (a2, eI g 35), (a3, eI g 35), (a4, eI g 35)] s.heap H _ := hst
  refine lv_aload_n hx hb dX3_init_36 rfl (lv_at hl 0 rfl) ?_
  refine lv_bipush (v := 8) hx hb dX3_init_37 (by decide) ?_
  refine zr_newI C hA hst (n := 8) 8 (by decide) (by decide) (by decide) (Nat.le_of_ble_eq_true rfl) (Nat.le_of_ble_eq_true rfl) dX3_init_39 (fun a5 H hst => ?_)
  have hst : zKs D _ [(h, .inr (3, [.ref a1, .ref a2, .ref a3, .ref a4, .null, .int 0, .int 0, .int 0, .int 0, .null, .null, .null, .int 0, .int 0, .null, .null, .null, .null, .null, .null, .int 0])), (a1, eI g 35), (a2, eI g 35), (a3, eI g 35), (a4, eI g 35), (a5, eI g 8)] s.heap H _ := hst
  refine zr_put C (ci := 3) (f := 4) (by decide +kernel) (r := (RX3, TX3, 21)) rfl hst 0 rfl (ty := (.array .int)) (v := .ref a5) (by decide +kernel) rfl rfl (Nat.le_of_ble_eq_true rfl) hin (Or.inr (by decide +kernel)) dX3_init_41 (fun H locs hst => ?_)
  have hst : zKs D _ [(h, .inr (3, [.ref a1, .ref a2, .ref a3, .ref a4, .ref a5, .int 0, .int 0, .int 0, .int 0, .null, .null, .null, .int 0, .int 0, .null, .null, .null, .null, .null, .null, .int 0])), (a1, eI g 35), (a2, eI g 35), (a3, eI g 35), (a4, eI g 35), (a5, eI g 8)] s.heap H _ := hst
  refine lv_aload_n hx hb dX3_init_44 rfl (lv_at hl 0 rfl) ?_
  refine lv_iconst (v := 2) hx hb dX3_init_45 (by decide) ?_
  refine zr_newI C hA hst (n := 2) 2 (by decide) (by decide) (by decide) (Nat.le_of_ble_eq_true rfl) (Nat.le_of_ble_eq_true rfl) dX3_init_46 (fun a6 H hst => ?_)
  have hst : zKs D _ [(h, .inr (3, [.ref a1, .ref a2, .ref a3, .ref a4, .ref a5, .int 0, .int 0, .int 0, .int 0, .null, .null, .null, .int 0, .int 0, .null, .null, .null, .null, .null, .null, .int 0])), (a1, eI g 35), (a2, eI g 35), (a3, eI g 35), (a4, eI g 35), (a5, eI g 8), (a6, eI g 2)] s.heap H _ := hst
  refine zr_put C (ci := 3) (f := 9) (by decide +kernel) (r := (RX3, TX3, 21)) rfl hst 0 rfl (ty := (.array .int)) (v := .ref a6) (by decide +kernel) rfl rfl (Nat.le_of_ble_eq_true rfl) hin (Or.inr (by decide +kernel)) dX3_init_48 (fun H locs hst => ?_)
  have hst : zKs D _ [(h, .inr (3, [.ref a1, .ref a2, .ref a3, .ref a4, .ref a5, .int 0, .int 0, .int 0, .int 0, .ref a6, .null, .null, .int 0, .int 0, .null, .null, .null, .null, .null, .null, .int 0])), (a1, eI g 35), (a2, eI g 35), (a3, eI g 35), (a4, eI g 35), (a5, eI g 8), (a6, eI g 2)] s.heap H _ := hst
  refine lv_aload_n hx hb dX3_init_51 rfl (lv_at hl 0 rfl) ?_
  refine lv_bipush (v := 8) hx hb dX3_init_52 (by decide) ?_
  refine zr_newI C hA hst (n := 8) 8 (by decide) (by decide) (by decide) (Nat.le_of_ble_eq_true rfl) (Nat.le_of_ble_eq_true rfl) dX3_init_54 (fun a7 H hst => ?_)
  have hst : zKs D _ [(h, .inr (3, [.ref a1, .ref a2, .ref a3, .ref a4, .ref a5, .int 0, .int 0, .int 0, .int 0, .ref a6, .null, .null, .int 0, .int 0, .null, .null, .null, .null, .null, .null, .int 0])), (a1, eI g 35), (a2, eI g 35), (a3, eI g 35), (a4, eI g 35), (a5, eI g 8), (a6, eI g 2), (a7, eI g 8)] s.heap H _ := hst
  refine zr_put C (ci := 3) (f := 10) (by decide +kernel) (r := (RX3, TX3, 21)) rfl hst 0 rfl (ty := (.array .int)) (v := .ref a7) (by decide +kernel) rfl rfl (Nat.le_of_ble_eq_true rfl) hin (Or.inr (by decide +kernel)) dX3_init_56 (fun H locs hst => ?_)
  have hst : zKs D _ [(h, .inr (3, [.ref a1, .ref a2, .ref a3, .ref a4, .ref a5, .int 0, .int 0, .int 0, .int 0, .ref a6, .ref a7, .null, .int 0, .int 0, .null, .null, .null, .null, .null, .null, .int 0])), (a1, eI g 35), (a2, eI g 35), (a3, eI g 35), (a4, eI g 35), (a5, eI g 8), (a6, eI g 2), (a7, eI g 8)] s.heap H _ := hst
  refine lv_aload_n hx hb dX3_init_59 rfl (lv_at hl 0 rfl) ?_
  refine lv_bipush (v := 8) hx hb dX3_init_60 (by decide) ?_
  refine zr_newI C hA hst (n := 8) 8 (by decide) (by decide) (by decide) (Nat.le_of_ble_eq_true rfl) (Nat.le_of_ble_eq_true rfl) dX3_init_62 (fun a8 H hst => ?_)
  have hst : zKs D _ [(h, .inr (3, [.ref a1, .ref a2, .ref a3, .ref a4, .ref a5, .int 0, .int 0, .int 0, .int 0, .ref a6, .ref a7, .null, .int 0, .int 0, .null, .null, .null, .null, .null, .null, .int 0])), (a1, eI g 35), (a2, eI g 35), (a3, eI g 35), (a4, eI g 35), (a5, eI g 8), (a6, eI g 2), (a7, eI g 8), (a8, eI g 8)] s.heap H _ := hst
  refine zr_put C (ci := 3) (f := 11) (by decide +kernel) (r := (RX3, TX3, 21)) rfl hst 0 rfl (ty := (.array .int)) (v := .ref a8) (by decide +kernel) rfl rfl (Nat.le_of_ble_eq_true rfl) hin (Or.inr (by decide +kernel)) dX3_init_64 (fun H locs hst => ?_)
  have hst : zKs D _ [(h, .inr (3, [.ref a1, .ref a2, .ref a3, .ref a4, .ref a5, .int 0, .int 0, .int 0, .int 0, .ref a6, .ref a7, .ref a8, .int 0, .int 0, .null, .null, .null, .null, .null, .null, .int 0])), (a1, eI g 35), (a2, eI g 35), (a3, eI g 35), (a4, eI g 35), (a5, eI g 8), (a6, eI g 2), (a7, eI g 8), (a8, eI g 8)] s.heap H _ := hst
  refine lv_aload_n hx hb dX3_init_67 rfl (lv_at hl 0 rfl) ?_
  refine lv_bipush (v := 8) hx hb dX3_init_68 (by decide) ?_
  refine zr_newI C hA hst (n := 8) 8 (by decide) (by decide) (by decide) (Nat.le_of_ble_eq_true rfl) (Nat.le_of_ble_eq_true rfl) dX3_init_70 (fun a9 H hst => ?_)
  have hst : zKs D _ [(h, .inr (3, [.ref a1, .ref a2, .ref a3, .ref a4, .ref a5, .int 0, .int 0, .int 0, .int 0, .ref a6, .ref a7, .ref a8, .int 0, .int 0, .null, .null, .null, .null, .null, .null, .int 0])), (a1, eI g 35), (a2, eI g 35), (a3, eI g 35), (a4, eI g 35), (a5, eI g 8), (a6, eI g 2), (a7, eI g 8), (a8, eI g 8), (a9, eI g 8)] s.heap H _ := hst
  refine zr_put C (ci := 3) (f := 14) (by decide +kernel) (r := (RX3, TX3, 21)) rfl hst 0 rfl (ty := (.array .int)) (v := .ref a9) (by decide +kernel) rfl rfl (Nat.le_of_ble_eq_true rfl) hin (Or.inr (by decide +kernel)) dX3_init_72 (fun H locs hst => ?_)
  have hst : zKs D _ [(h, .inr (3, [.ref a1, .ref a2, .ref a3, .ref a4, .ref a5, .int 0, .int 0, .int 0, .int 0, .ref a6, .ref a7, .ref a8, .int 0, .int 0, .ref a9, .null, .null, .null, .null, .null, .int 0])), (a1, eI g 35), (a2, eI g 35), (a3, eI g 35), (a4, eI g 35), (a5, eI g 8), (a6, eI g 2), (a7, eI g 8), (a8, eI g 8), (a9, eI g 8)] s.heap H _ := hst
  refine lv_aload_n hx hb dX3_init_75 rfl (lv_at hl 0 rfl) ?_
  refine lv_bipush (v := 8) hx hb dX3_init_76 (by decide) ?_
  refine zr_newI C hA hst (n := 8) 8 (by decide) (by decide) (by decide) (Nat.le_of_ble_eq_true rfl) (Nat.le_of_ble_eq_true rfl) dX3_init_78 (fun a10 H hst => ?_)
  have hst : zKs D _ [(h, .inr (3, [.ref a1, .ref a2, .ref a3, .ref a4, .ref a5, .int 0, .int 0, .int 0, .int 0, .ref a6, .ref a7, .ref a8, .int 0, .int 0, .ref a9, .null, .null, .null, .null, .null, .int 0])), (a1, eI g 35), (a2, eI g 35), (a3, eI g 35), (a4, eI g 35), (a5, eI g 8), (a6, eI g 2), (a7, eI g 8), (a8, eI g 8), (a9, eI g 8), (a10, eI g 8)] s.heap H _ := hst
  refine zr_put C (ci := 3) (f := 15) (by decide +kernel) (r := (RX3, TX3, 21)) rfl hst 0 rfl (ty := (.array .int)) (v := .ref a10) (by decide +kernel) rfl rfl (Nat.le_of_ble_eq_true rfl) hin (Or.inr (by decide +kernel)) dX3_init_80 (fun H locs hst => ?_)
  have hst : zKs D _ [(h, .inr (3, [.ref a1, .ref a2, .ref a3, .ref a4, .ref a5, .int 0, .int 0, .int 0, .int 0, .ref a6, .ref a7, .ref a8, .int 0, .int 0, .ref a9, .ref a10, .null, .null, .null, .null, .int 0])), (a1, eI g 35), (a2, eI g 35), (a3, eI g 35), (a4, eI g 35), (a5, eI g 8), (a6, eI g 2), (a7, eI g 8), (a8, eI g 8), (a9, eI g 8), (a10, eI g 8)] s.heap H _ := hst
  refine lv_aload_n hx hb dX3_init_83 rfl (lv_at hl 0 rfl) ?_
  refine lv_bipush (v := 8) hx hb dX3_init_84 (by decide) ?_
  refine zr_newI C hA hst (n := 8) 8 (by decide) (by decide) (by decide) (Nat.le_of_ble_eq_true rfl) (Nat.le_of_ble_eq_true rfl) dX3_init_86 (fun a11 H hst => ?_)
  have hst : zKs D _ [(h, .inr (3, [.ref a1, .ref a2, .ref a3, .ref a4, .ref a5, .int 0, .int 0, .int 0, .int 0, .ref a6, .ref a7, .ref a8, .int 0, .int 0, .ref a9, .ref a10, .null, .null, .null, .null, .int 0])), (a1, eI g 35), (a2, eI g 35), (a3, eI g 35), (a4, eI g 35), (a5, eI g 8), (a6, eI g 2), (a7, eI g 8), (a8, eI g 8), (a9, eI g 8), (a10, eI g 8), (a11, eI g 8)] s.heap H _ := hst
  refine zr_put C (ci := 3) (f := 16) (by decide +kernel) (r := (RX3, TX3, 21)) rfl hst 0 rfl (ty := (.array .int)) (v := .ref a11) (by decide +kernel) rfl rfl (Nat.le_of_ble_eq_true rfl) hin (Or.inr (by decide +kernel)) dX3_init_88 (fun H locs hst => ?_)
  have hst : zKs D _ [(h, .inr (3, [.ref a1, .ref a2, .ref a3, .ref a4, .ref a5, .int 0, .int 0, .int 0, .int 0, .ref a6, .ref a7, .ref a8, .int 0, .int 0, .ref a9, .ref a10, .ref a11, .null, .null, .null, .int 0])), (a1, eI g 35), (a2, eI g 35), (a3, eI g 35), (a4, eI g 35), (a5, eI g 8), (a6, eI g 2), (a7, eI g 8), (a8, eI g 8), (a9, eI g 8), (a10, eI g 8), (a11, eI g 8)] s.heap H _ := hst
  refine lv_aload_n hx hb dX3_init_91 rfl (lv_at hl 0 rfl) ?_
  refine lv_bipush (v := 8) hx hb dX3_init_92 (by decide) ?_
  refine zr_newI C hA hst (n := 8) 8 (by decide) (by decide) (by decide) (Nat.le_of_ble_eq_true rfl) (Nat.le_of_ble_eq_true rfl) dX3_init_94 (fun a12 H hst => ?_)
  have hst : zKs D _ [(h, .inr (3, [.ref a1, .ref a2, .ref a3, .ref a4, .ref a5, .int 0, .int 0, .int 0, .int 0, .ref a6, .ref a7, .ref a8, .int 0, .int 0, .ref a9, .ref a10, .ref a11, .null, .null, .null, .int 0])), (a1, eI g 35), (a2, eI g 35), (a3, eI g 35), (a4, eI g 35), (a5, eI g 8), (a6, eI g 2), (a7, eI g 8), (a8, eI g 8), (a9, eI g 8), (a10, eI g 8), (a11, eI g 8), (a12, eI g 8)] s.heap H _ := hst
  refine zr_put C (ci := 3) (f := 17) (by decide +kernel) (r := (RX3, TX3, 21)) rfl hst 0 rfl (ty := (.array .int)) (v := .ref a12) (by decide +kernel) rfl rfl (Nat.le_of_ble_eq_true rfl) hin (Or.inr (by decide +kernel)) dX3_init_96 (fun H locs hst => ?_)
  have hst : zKs D _ [(h, .inr (3, [.ref a1, .ref a2, .ref a3, .ref a4, .ref a5, .int 0, .int 0, .int 0, .int 0, .ref a6, .ref a7, .ref a8, .int 0, .int 0, .ref a9, .ref a10, .ref a11, .ref a12, .null, .null, .int 0])), (a1, eI g 35), (a2, eI g 35), (a3, eI g 35), (a4, eI g 35), (a5, eI g 8), (a6, eI g 2), (a7, eI g 8), (a8, eI g 8), (a9, eI g 8), (a10, eI g 8), (a11, eI g 8), (a12, eI g 8)] s.heap H _ := hst
  refine lv_aload_n hx hb dX3_init_99 rfl (lv_at hl 0 rfl) ?_
  refine lv_bipush (v := 8) hx hb dX3_init_100 (by decide) ?_
  refine zr_newI C hA hst (n := 8) 8 (by decide) (by decide) (by decide) (Nat.le_of_ble_eq_true rfl) (Nat.le_of_ble_eq_true rfl) dX3_init_102 (fun a13 H hst => ?_)
  have hst : zKs D _ [(h, .inr (3, [.ref a1, .ref a2, .ref a3, .ref a4, .ref a5, .int 0, .int 0, .int 0, .int 0, .ref a6, .ref a7, .ref a8, .int 0, .int 0, .ref a9, .ref a10, .ref a11, .ref a12, .null, .null, .int 0])), (a1, eI g 35), (a2, eI g 35), (a3, eI g 35), (a4, eI g 35), (a5, eI g 8), (a6, eI g 2), (a7, eI g 8), (a8, eI g 8), (a9, eI g 8), (a10, eI g 8), (a11, eI g 8), (a12, eI g 8), (a13, eI g 8)] s.heap H _ := hst
  refine zr_put C (ci := 3) (f := 18) (by decide +kernel) (r := (RX3, TX3, 21)) rfl hst 0 rfl (ty := (.array .int)) (v := .ref a13) (by decide +kernel) rfl rfl (Nat.le_of_ble_eq_true rfl) hin (Or.inr (by decide +kernel)) dX3_init_104 (fun H locs hst => ?_)
  have hst : zKs D _ [(h, .inr (3, [.ref a1, .ref a2, .ref a3, .ref a4, .ref a5, .int 0, .int 0, .int 0, .int 0, .ref a6, .ref a7, .ref a8, .int 0, .int 0, .ref a9, .ref a10, .ref a11, .ref a12, .ref a13, .null, .int 0])), (a1, eI g 35), (a2, eI g 35), (a3, eI g 35), (a4, eI g 35), (a5, eI g 8), (a6, eI g 2), (a7, eI g 8), (a8, eI g 8), (a9, eI g 8), (a10, eI g 8), (a11, eI g 8), (a12, eI g 8), (a13, eI g 8)] s.heap H _ := hst
  refine lv_aload_n hx hb dX3_init_107 rfl (lv_at hl 0 rfl) ?_
  refine lv_sipush (v := 800) hx hb dX3_init_108 (by decide) ?_
  refine zr_newI C hA hst (n := 800) 800 (by decide) (by decide) (by decide) (Nat.le_of_ble_eq_true rfl) (Nat.le_of_ble_eq_true rfl) dX3_init_111 (fun a14 H hst => ?_)
  have hst : zKs D _ [(h, .inr (3, [.ref a1, .ref a2, .ref a3, .ref a4, .ref a5, .int 0, .int 0, .int 0, .int 0, .ref a6, .ref a7, .ref a8, .int 0, .int 0, .ref a9, .ref a10, .ref a11, .ref a12, .ref a13, .null, .int 0])), (a1, eI g 35), (a2, eI g 35), (a3, eI g 35), (a4, eI g 35), (a5, eI g 8), (a6, eI g 2), (a7, eI g 8), (a8, eI g 8), (a9, eI g 8), (a10, eI g 8), (a11, eI g 8), (a12, eI g 8), (a13, eI g 8), (a14, eI g 800)] s.heap H _ := hst
  refine zr_put C (ci := 3) (f := 19) (by decide +kernel) (r := (RX3, TX3, 21)) rfl hst 0 rfl (ty := (.array .int)) (v := .ref a14) (by decide +kernel) rfl rfl (Nat.le_of_ble_eq_true rfl) hin (Or.inr (by decide +kernel)) dX3_init_113 (fun H locs hst => ?_)
  have hst : zKs D _ [(h, .inr (3, [.ref a1, .ref a2, .ref a3, .ref a4, .ref a5, .int 0, .int 0, .int 0, .int 0, .ref a6, .ref a7, .ref a8, .int 0, .int 0, .ref a9, .ref a10, .ref a11, .ref a12, .ref a13, .ref a14, .int 0])), (a1, eI g 35), (a2, eI g 35), (a3, eI g 35), (a4, eI g 35), (a5, eI g 8), (a6, eI g 2), (a7, eI g 8), (a8, eI g 8), (a9, eI g 8), (a10, eI g 8), (a11, eI g 8), (a12, eI g 8), (a13, eI g 8), (a14, eI g 800)] s.heap H _ := hst
  refine lv_aload_n hx hb dX3_init_116 rfl (lv_at hl 0 rfl) ?_
  refine zr_get C (ci := 3) (f := 0) (by decide +kernel) (r := (RX3, TX3, 21)) rfl hst 0 rfl (v := .ref a1) rfl dX3_init_117 ?_
  refine lv_iconst (v := 1) hx hb dX3_init_120 (by decide) ?_
  refine lv_bipush (v := 22) hx hb dX3_init_121 (by decide) ?_
  refine zr_iast C hst 1 (n := 35) (f := fun _ => 0) rfl (i := 1) (x := 22) (by unfold vp_in; decide) dX3_init_123 (fun H locs hst => ?_)
  have hst : zKs D _ [(h, .inr (3, [.ref a1, .ref a2, .ref a3, .ref a4, .ref a5, .int 0, .int 0, .int 0, .int 0, .ref a6, .ref a7, .ref a8, .int 0, .int 0, .ref a9, .ref a10, .ref a11, .ref a12, .ref a13, .ref a14, .int 0])), (a1, .inl (g.2.1, 35, .inl (upd (fun _ => 0) (1 : Int32).toNatClampNeg 22))), (a2, eI g 35), (a3, eI g 35), (a4, eI g 35), (a5, eI g 8), (a6, eI g 2), (a7, eI g 8), (a8, eI g 8), (a9, eI g 8), (a10, eI g 8), (a11, eI g 8), (a12, eI g 8), (a13, eI g 8), (a14, eI g 800)] s.heap H _ := hst
  exact zc_end C hst ⟨a1, a2, a3, a4, a5, a6, a7, a8, a9, a10, a11, a12, a13, a14, rfl⟩ hr hlocks dX3_init_124
