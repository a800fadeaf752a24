/-! methods that throw: what holds at their start, their throws, their contracts -/
abbrev zEU : String := "java/lang/UnsupportedOperationException"
abbrev zEI : String := "java/lang/IllegalStateException"
abbrev zEA : String := "java/lang/IllegalArgumentException"
abbrev zNm : List String := ["java/lang/RuntimeException", "java/lang/Exception"]
def mX2_element : zM := (yX2_element, cX2_element, 4, (some .long), 2, [])
def mX2_toss : zM := (yX2_toss, cX2_toss, 5, (some .int), 2, [])
def mX2_throwFailure : zM := (yX2_throwFailure, cX2_throwFailure, 2, none, 2, [])
def mL_element : zM := (yL_element, cL_element, 5, (some .int), 4, [])
theorem zk_X2_element : zokM mX2_element := ⟨zT_at 747 (by decide +kernel) (by decide +kernel), by decide +kernel, ⟨by decide +kernel, by decide +kernel⟩, by decide +kernel, zw_49, fun h => rfl⟩
theorem zk_X2_throwFailure : zokM mX2_throwFailure := ⟨zT_at 641 (by decide +kernel) (by decide +kernel), by decide +kernel, ⟨by decide +kernel, by decide +kernel⟩, by decide +kernel, zw_49, fun h => rfl⟩
def zXC : List Cond := [.declares ⟨"java/lang/RuntimeException", "<init>", "(Ljava/lang/String;)V"⟩, .declares ⟨"java/lang/Exception", "<init>", "(Ljava/lang/String;)V"⟩, .declares ⟨"java/lang/Throwable", "<init>", "(Ljava/lang/String;)V"⟩, .castable zEU zEU, .castable zEI zEI, .castable zEA zEA]
def zXN : List (String × String) := [(zEI, zEU), (zEA, zEU), (zEA, zEI), (zEI, zEA)]
def zXS : List (Nat × String) := [(348, "a stopper's failure"), (351, "a tall one's failure"), (353, "a failure"), (261, "no such shelf"), (268, "no row of numbers there"), (271, "no such place")]
def zEx (g : zG) (U : State) : Prop := (∀ q ∈ zXS, ∃ a, vk_R RX2 q.1 q.2 a U) ∧ (∀ w ∈ zXC, va_Nw w U) ∧ (∀ q ∈ zXN, va_Nc q.1 q.2 U) ∧
  vx_Zq Bundle.tN "UNASSIGNED_STACK" Bundle.steD (zA g) U U.heap ∧ vx_Zq Bundle.tN "SUPPRESSED_SENTINEL" Bundle.listD (zA g) U U.heap
theorem zXC_tab : ∀ w ∈ zXC, w.onTables = true := by decide +kernel
theorem zEx_at {g : zG} {s U : State} {H : Heap} (hx : zEx g s) (hH : ∀ a : Nat, a < s.heap.size → ¬ zA g a → H[a]? = s.heap[a]?) (hU : U.heap = H) (hW : s.WarmedH U.vm) : zEx g U := by
  obtain ⟨h1, h2, h3, h4, h5⟩ := hx
  refine ⟨fun q hq => ?_, fun w hw => ?_, fun q hq => va_Nc.moved hW.alike (h3 q hq), ?_, ?_⟩
  · obtain ⟨a, ha⟩ := h1 q hq
    exact ⟨a, vk_R.warm hW ha⟩
  · have h := h2 w hw
    simp only [zXC, List.mem_cons, List.not_mem_nil, or_false] at hw
    rcases hw with rfl | rfl | rfl | rfl | rfl | rfl
    · exact va_Nw.warmD hW h
    · exact va_Nw.warmD hW h
    · exact va_Nw.warmD hW h
    · exact va_Nw.warmC hW h
    · exact va_Nw.warmC hW h
    · exact va_Nw.warmC hW h
  · rw [hU]; exact vx_Zq.moved hW.alike (h4.kept hH)
  · rw [hU]; exact vx_Zq.moved hW.alike (h5.kept hH)
def zRx (d : Nat) : Room := { frames := d, cells := 1, slots := 6, locals := d * 128 }
def zPx (g : zG) (D : va_G) (vs : List zV) (σ : zS) : Array Value → State → Prop := va_Pc (vs.map (zv g.1)) (fun U => zPre g D σ U ∧ zEx g U)
def zQx (g : zG) (D : va_G) (o : Option zV ⊕ String) (σ' : zS) : Array Value → State → Outcome → State → Prop := fun _ st oc t => (∃ rv, o = .inl rv ∧ oc = .returned (rv.map (zv g.1))) ∧ va_P D zcl (zwd g σ') t.heap ∧ va_F (zA g) st t
def zXx (g : zG) (D : va_G) (o : Option zV ⊕ String) (σ' : zS) : String → State → State → Prop := fun E st t => o = .inr E ∧ va_P D zcl (zwd g σ') t.heap ∧ va_F (zA g) st t
def zXM (l : Launch) (d : Nat) (k : zM) (ws : List Cond) (g : zG) (D : va_G) (vs : List zV) (σ : zS) (o : Option zV ⊕ String) (σ' : zS) : Prop := vx_Met l k.1 ws (zRx d) (zPx g D vs σ) (zQx g D o σ') (zXx g D o σ') 1 6 (zA g)
theorem zPx_blind (g : zG) (D : va_G) (vs : List zV) (σ : zS) : FrameBlind (zPx g D vs σ) := fun a U f mk h => by
  obtain ⟨h1, ⟨h2, h3, h4⟩, h5, h6, h7, h8, h9⟩ := h
  refine ⟨h1, ⟨h2, va_K.moved (u := U) (U := U.calling f mk a) (Vm.Alike.refl U.vm) h3, zNk_same (s := U) (U := U.calling f mk a) rfl h4⟩, fun q hq => ?_, fun w hw => va_Nw.same (u := U) (U := U.calling f mk a) (zXC_tab w hw) rfl (h6 w hw), fun q hq => va_Nc.moved (u := U) (U := U.calling f mk a) (Vm.Alike.refl U.vm) (h7 q hq), ?_, ?_⟩
  · obtain ⟨b, hb⟩ := h5 q hq
    exact ⟨b, vk_R.same (u := U) (U := U.calling f mk a) rfl hb⟩
  · exact vx_Zq.moved (u := U) (U := U.calling f mk a) (Vm.Alike.refl U.vm) h8
  · exact vx_Zq.moved (u := U) (U := U.calling f mk a) (Vm.Alike.refl U.vm) h9
/-- a place where 'new E(text)' is thrown -/
def zSite (k : zM) (pc : Nat) (E : String) : Prop := ∃ (ik is ic : Nat) (text : String), decode k.2.1 pc = .ok (.new ik, 3) ∧ decode k.2.1 (pc + 3) = .ok (.dup, 1) ∧ decode k.2.1 (pc + 4) = .ok (.ldc_w is, 3) ∧ decode k.2.1 (pc + 7) = .ok (.invokespecial ic, 3) ∧ decode k.2.1 (pc + 10) = .ok (.athrow, 1) ∧
  Cond.classLink RX2 ik E ∈ zT ∧ Cond.initialized E ∈ zT ∧ (is, text) ∈ zXS ∧ (∀ w ∈ (vx_atS RX2 ic E zNm).filter goodWord, w ∈ zT) ∧ (∀ w ∈ (vx_atS RX2 ic E zNm).filter (fun w => !goodWord w), w ∈ zXC) ∧ Bundle.fit E = true ∧ (∀ w ∈ Cond.classLink RX2 ik E :: Cond.initialized E :: vx_atS RX2 ic E zNm, vx_ot w = true)
theorem zT_ps {L : List Cond} (ps : List Nat) (h : L.filter goodWord = ps.filterMap fun i => lw_tbl[i]?) : ∀ w ∈ L.filter goodWord, w ∈ zT := by
  intro w hw
  have h1 := (List.mem_filter.mp hw).2
  rw [h] at hw
  obtain ⟨i, -, hi⟩ := List.mem_filterMap.mp hw
  exact zT_at i hi h1
theorem zat_U : ∀ w ∈ (vx_atS RX2 350 zEU zNm).filter goodWord, w ∈ zT := zT_ps [57, 663, 672, 676, 679, 681, 664, 665, 69, 70, 666, 671, 677, 697, 653, 698, 655, 699, 657, 667, 669, 659, 693, 694, 696, 659, 684, 685, 686, 687, 687, 688, 689, 690, 690, 691, 692, 693, 683, 642, 650, 651, 652, 654, 656, 658, 662, 661, 660] (by decide +kernel)
theorem zat_I : ∀ w ∈ (vx_atS RX2 270 zEI zNm).filter goodWord, w ∈ zT := zT_ps [57, 663, 672, 676, 679, 681, 664, 665, 69, 70, 666, 671, 677, 697, 653, 698, 655, 699, 657, 667, 669, 659, 693, 694, 696, 659, 719, 720, 721, 687, 687, 688, 689, 690, 690, 691, 692, 693, 718, 709, 711, 675, 712, 713, 714, 715, 662, 661, 716] (by decide +kernel)
theorem zat_A : ∀ w ∈ (vx_atS RX2 263 zEA zNm).filter goodWord, w ∈ zT := zT_ps [57, 663, 672, 676, 679, 681, 664, 665, 69, 70, 666, 671, 677, 697, 653, 698, 655, 699, 657, 667, 669, 659, 693, 694, 696, 659, 734, 735, 736, 687, 687, 688, 689, 690, 690, 691, 692, 693, 733, 724, 726, 674, 727, 728, 729, 730, 662, 661, 731] (by decide +kernel)
theorem zSite_e10 : zSite mX2_element 10 zEA := ⟨259, 261, 263, "no such shelf", dX2_element_10, dX2_element_13, dX2_element_14, dX2_element_17, dX2_element_20, zT_at 638 (by decide +kernel) (by decide +kernel), zT_at 60 (by decide +kernel) (by decide +kernel), by decide +kernel, zat_A, by decide +kernel, by decide +kernel, by decide +kernel⟩
theorem zSite_e29 : zSite mX2_element 29 zEI := ⟨266, 268, 270, "no row of numbers there", dX2_element_29, dX2_element_32, dX2_element_33, dX2_element_36, dX2_element_39, zT_at 637 (by decide +kernel) (by decide +kernel), zT_at 61 (by decide +kernel) (by decide +kernel), by decide +kernel, zat_I, by decide +kernel, by decide +kernel, by decide +kernel⟩
theorem zSite_e48 : zSite mX2_element 48 zEI := ⟨266, 271, 270, "no such place", dX2_element_48, dX2_element_51, dX2_element_52, dX2_element_55, dX2_element_58, zT_at 637 (by decide +kernel) (by decide +kernel), zT_at 61 (by decide +kernel) (by decide +kernel), by decide +kernel, zat_I, by decide +kernel, by decide +kernel, by decide +kernel⟩
theorem zSite_t45 : zSite mX2_throwFailure 45 zEU := ⟨288, 348, 350, "a stopper's failure", dX2_throwFailure_45, dX2_throwFailure_48, dX2_throwFailure_49, dX2_throwFailure_52, dX2_throwFailure_55, zT_at 636 (by decide +kernel) (by decide +kernel), zT_at 62 (by decide +kernel) (by decide +kernel), by decide +kernel, zat_U, by decide +kernel, by decide +kernel, by decide +kernel⟩
theorem zSite_t56 : zSite mX2_throwFailure 56 zEI := ⟨266, 351, 270, "a tall one's failure", dX2_throwFailure_56, dX2_throwFailure_59, dX2_throwFailure_60, dX2_throwFailure_63, dX2_throwFailure_66, zT_at 637 (by decide +kernel) (by decide +kernel), zT_at 61 (by decide +kernel) (by decide +kernel), by decide +kernel, zat_I, by decide +kernel, by decide +kernel, by decide +kernel⟩
theorem zSite_t67 : zSite mX2_throwFailure 67 zEA := ⟨259, 353, 263, "a failure", dX2_throwFailure_67, dX2_throwFailure_70, dX2_throwFailure_71, dX2_throwFailure_74, dX2_throwFailure_77, zT_at 638 (by decide +kernel) (by decide +kernel), zT_at 60 (by decide +kernel) (by decide +kernel), by decide +kernel, zat_A, by decide +kernel, by decide +kernel, by decide +kernel⟩
