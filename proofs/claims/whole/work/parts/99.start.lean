/-! the first world -/
def zσ0 : zS := fun q i => if i = 1 ∧ (q = 1 ∨ q = 6 ∨ q = 11 ∨ q = 37) then 22 else 0
theorem zσ0_n {q i : Nat} (h : ¬ (i = 1 ∧ (q = 1 ∨ q = 6 ∨ q = 11 ∨ q = 37))) : zσ0 q i = 0 := if_neg h
theorem zSys0 : zSys zσ0 := by
  refine ⟨(0, 22, fun _ => 0, fun _ => 0, fun _ => 0, fun _ => 0), 0, ⟨rfl, rfl, fun r _ => zσ0_n (by omega), fun r _ => zσ0_n (by omega), fun r _ => zσ0_n (by omega), ⟨by decide, by decide⟩, fun r _ => ?_⟩, ⟨rfl, rfl, fun r _ => zσ0_n (by omega), fun r _ => zσ0_n (by omega), fun r _ => zσ0_n (by omega), fun r _ => zσ0_n (by omega)⟩, ⟨by decide, by decide, fun r _ => (by decide : (0 : Int) ≤ 0 ∧ (0 : Int) ≤ 7), fun r _ => (by decide : (0 : Int) ≤ 0 ∧ (0 : Int) ≤ 9), fun r _ => (by decide : (0 : Int) ≤ 0 ∧ (0 : Int) ≤ 10), fun r _ => ⟨Or.inl rfl, fun _ => rfl, fun _ => rfl⟩⟩, rfl, rfl, by decide, Or.inl ⟨rfl, rfl⟩, fun d hd => ?_⟩
  · show mbit (zσ0 1 3) r = 0
    rw [zσ0_n (by omega)]
    unfold mbit
    simp
  · have e0 : zσ0 (20 + 2 * d) 0 = 0 := zσ0_n (by omega)
    refine ⟨Or.inl e0, by rw [e0]; exact zσ0_n (by omega), fun e => ?_, fun e => ?_⟩
    · rw [e0] at e; exact absurd e (by decide)
    · rw [e0] at e; exact absurd e (by decide)
theorem zcI0 {g : zG} {q n : Nat} (h4 : zkd q = 4) (hn : zln q = n) (hq : ¬ (q = 1 ∨ q = 6 ∨ q = 11 ∨ q = 37)) : zcel g zσ0 q = eI g n := by
  rw [zcel_i h4, hn]
  have h : (fun i => Int32.ofInt (zσ0 q i)) = fun _ => 0 := funext fun i => by rw [zσ0_n (fun e => hq e.2)]; rfl
  rw [h]
theorem zcJ0 {g : zG} {q n : Nat} (h5 : zcel g zσ0 q = .inl (g.2.2.1, n, .inr (.inl fun i => Int64.ofInt (zσ0 q i)))) (hq : ¬ (q = 1 ∨ q = 6 ∨ q = 11 ∨ q = 37)) : zcel g zσ0 q = eJ g n := by
  rw [h5]
  have h : (fun i => Int64.ofInt (zσ0 q i)) = fun _ => 0 := funext fun i => by rw [zσ0_n (fun e => hq e.2)]; rfl
  rw [h]
theorem zc370 {g : zG} : zcel g zσ0 37 = .inl (g.2.1, 35, .inl (upd (fun _ => 0) (1 : Int32).toNatClampNeg 22)) := by
  rw [zcel_i rfl]
  have h : (fun i => Int32.ofInt (zσ0 37 i)) = upd (fun _ => 0) (1 : Int32).toNatClampNeg 22 := funext fun i => by
    by_cases hi : i = 1
    · subst hi; rfl
    · rw [zσ0_n (fun e => hi e.1)]
      unfold upd
      rw [if_neg (show ¬ i = (1 : Int32).toNatClampNeg from fun e => hi (e.trans rfl))]
      rfl
  rw [h]
  rfl
theorem zc160 {g : zG} : zcel g zσ0 16 = eQ g 8 (va_up (va_up (va_up (va_up (va_up (va_up (va_up (va_up (fun _ => none) (0 : Int32).toNatClampNeg (some (g.1 20))) (1 : Int32).toNatClampNeg (some (g.1 22))) (2 : Int32).toNatClampNeg (some (g.1 24))) (3 : Int32).toNatClampNeg (some (g.1 26))) (4 : Int32).toNatClampNeg (some (g.1 28))) (5 : Int32).toNatClampNeg (some (g.1 30))) (6 : Int32).toNatClampNeg (some (g.1 32))) (7 : Int32).toNatClampNeg (some (g.1 34))) := by
  have h : (fun i => (zrf 16 i).map g.1) = va_up (va_up (va_up (va_up (va_up (va_up (va_up (va_up (fun _ => none) (0 : Int32).toNatClampNeg (some (g.1 20))) (1 : Int32).toNatClampNeg (some (g.1 22))) (2 : Int32).toNatClampNeg (some (g.1 24))) (3 : Int32).toNatClampNeg (some (g.1 26))) (4 : Int32).toNatClampNeg (some (g.1 28))) (5 : Int32).toNatClampNeg (some (g.1 30))) (6 : Int32).toNatClampNeg (some (g.1 32))) (7 : Int32).toNatClampNeg (some (g.1 34)) := funext fun i => by
    by_cases hi : i < 8
    · rcases (show i = 0 ∨ i = 1 ∨ i = 2 ∨ i = 3 ∨ i = 4 ∨ i = 5 ∨ i = 6 ∨ i = 7 by omega) with rfl | rfl | rfl | rfl | rfl | rfl | rfl | rfl <;> rfl
    · have hz : zrf 16 i = none := by
        unfold zrf
        rw [List.getD_eq_getElem?_getD, List.getElem?_eq_none (by show 8 ≤ i; omega)]
        rfl
      have hne : ∀ k : Int32, k.toNatClampNeg < 8 → i ≠ k.toNatClampNeg := fun k hk => by omega
      rw [hz, va_up_ne _ _ (hne 7 (by decide)), va_up_ne _ _ (hne 6 (by decide)), va_up_ne _ _ (hne 5 (by decide)), va_up_ne _ _ (hne 4 (by decide)), va_up_ne _ _ (hne 3 (by decide)), va_up_ne _ _ (hne 2 (by decide)), va_up_ne _ _ (hne 1 (by decide)), va_up_ne _ _ (hne 0 (by decide))]
      rfl
  rw [← h]
  rfl
def zad (h c1 b11 b12 b13 b14 c2 b21 b22 b23 b24 c3 b31 b32 b33 b34 q16 q17 q18 q19 s0 n0 s1 n1 s2 n2 s3 n3 s4 n4 s5 n5 s6 n6 s7 n7 h3 m1 m2 m3 m4 m5 m6 m7 m8 m9 m10 m11 m12 m13 m14 q51 b : Nat) : Nat → Nat := fun q => ([h, c1, b11, b12, b13, b14, c2, b21, b22, b23, b24, c3, b31, b32, b33, b34, q16, q17, q18, q19, s0, n0, s1, n1, s2, n2, s3, n3, s4, n4, s5, n5, s6, n6, s7, n7, h3, m1, m2, m3, m4, m5, m6, m7, m8, m9, m10, m11, m12, m13, m14, q51, b] : List Nat).getD q b
set_option maxRecDepth 100000 in
set_option maxHeartbeats 4000000 in
theorem zw0 (G : zG) (h c1 b11 b12 b13 b14 c2 b21 b22 b23 b24 c3 b31 b32 b33 b34 q16 q17 q18 q19 s0 n0 s1 n1 s2 n2 s3 n3 s4 n4 s5 n5 s6 n6 s7 n7 h3 m1 m2 m3 m4 m5 m6 m7 m8 m9 m10 m11 m12 m13 m14 q51 b : Nat) : (wX2 G h c1 b11 b12 b13 b14 c2 b21 b22 b23 b24 c3 b31 b32 b33 b34 q16 q17 q18 q19 s0 n0 s1 n1 s2 n2 s3 n3 s4 n4 s5 n5 s6 n6 s7 n7 ++ wX3 G h3 m1 m2 m3 m4 m5 m6 m7 m8 m9 m10 m11 m12 m13 m14) ++ [(q51, eJ G 1)] = zwd (zad h c1 b11 b12 b13 b14 c2 b21 b22 b23 b24 c3 b31 b32 b33 b34 q16 q17 q18 q19 s0 n0 s1 n1 s2 n2 s3 n3 s4 n4 s5 n5 s6 n6 s7 n7 h3 m1 m2 m3 m4 m5 m6 m7 m8 m9 m10 m11 m12 m13 m14 q51 b, G.2) zσ0 := by
  have hg : ∀ q : Nat, (zad h c1 b11 b12 b13 b14 c2 b21 b22 b23 b24 c3 b31 b32 b33 b34 q16 q17 q18 q19 s0 n0 s1 n1 s2 n2 s3 n3 s4 n4 s5 n5 s6 n6 s7 n7 h3 m1 m2 m3 m4 m5 m6 m7 m8 m9 m10 m11 m12 m13 m14 q51 b, G.2).1 q = zad h c1 b11 b12 b13 b14 c2 b21 b22 b23 b24 c3 b31 b32 b33 b34 q16 q17 q18 q19 s0 n0 s1 n1 s2 n2 s3 n3 s4 n4 s5 n5 s6 n6 s7 n7 h3 m1 m2 m3 m4 m5 m6 m7 m8 m9 m10 m11 m12 m13 m14 q51 b q := fun _ => rfl
  have hG : (zad h c1 b11 b12 b13 b14 c2 b21 b22 b23 b24 c3 b31 b32 b33 b34 q16 q17 q18 q19 s0 n0 s1 n1 s2 n2 s3 n3 s4 n4 s5 n5 s6 n6 s7 n7 h3 m1 m2 m3 m4 m5 m6 m7 m8 m9 m10 m11 m12 m13 m14 q51 b, G.2).2 = G.2 := rfl
  have e : zwd (zad h c1 b11 b12 b13 b14 c2 b21 b22 b23 b24 c3 b31 b32 b33 b34 q16 q17 q18 q19 s0 n0 s1 n1 s2 n2 s3 n3 s4 n4 s5 n5 s6 n6 s7 n7 h3 m1 m2 m3 m4 m5 m6 m7 m8 m9 m10 m11 m12 m13 m14 q51 b, G.2) zσ0 = [(h, zcel (zad h c1 b11 b12 b13 b14 c2 b21 b22 b23 b24 c3 b31 b32 b33 b34 q16 q17 q18 q19 s0 n0 s1 n1 s2 n2 s3 n3 s4 n4 s5 n5 s6 n6 s7 n7 h3 m1 m2 m3 m4 m5 m6 m7 m8 m9 m10 m11 m12 m13 m14 q51 b, G.2) zσ0 0), (c1, zcel (zad h c1 b11 b12 b13 b14 c2 b21 b22 b23 b24 c3 b31 b32 b33 b34 q16 q17 q18 q19 s0 n0 s1 n1 s2 n2 s3 n3 s4 n4 s5 n5 s6 n6 s7 n7 h3 m1 m2 m3 m4 m5 m6 m7 m8 m9 m10 m11 m12 m13 m14 q51 b, G.2) zσ0 1), (b11, zcel (zad h c1 b11 b12 b13 b14 c2 b21 b22 b23 b24 c3 b31 b32 b33 b34 q16 q17 q18 q19 s0 n0 s1 n1 s2 n2 s3 n3 s4 n4 s5 n5 s6 n6 s7 n7 h3 m1 m2 m3 m4 m5 m6 m7 m8 m9 m10 m11 m12 m13 m14 q51 b, G.2) zσ0 2), (b12, zcel (zad h c1 b11 b12 b13 b14 c2 b21 b22 b23 b24 c3 b31 b32 b33 b34 q16 q17 q18 q19 s0 n0 s1 n1 s2 n2 s3 n3 s4 n4 s5 n5 s6 n6 s7 n7 h3 m1 m2 m3 m4 m5 m6 m7 m8 m9 m10 m11 m12 m13 m14 q51 b, G.2) zσ0 3), (b13, zcel (zad h c1 b11 b12 b13 b14 c2 b21 b22 b23 b24 c3 b31 b32 b33 b34 q16 q17 q18 q19 s0 n0 s1 n1 s2 n2 s3 n3 s4 n4 s5 n5 s6 n6 s7 n7 h3 m1 m2 m3 m4 m5 m6 m7 m8 m9 m10 m11 m12 m13 m14 q51 b, G.2) zσ0 4), (b14, zcel (zad h c1 b11 b12 b13 b14 c2 b21 b22 b23 b24 c3 b31 b32 b33 b34 q16 q17 q18 q19 s0 n0 s1 n1 s2 n2 s3 n3 s4 n4 s5 n5 s6 n6 s7 n7 h3 m1 m2 m3 m4 m5 m6 m7 m8 m9 m10 m11 m12 m13 m14 q51 b, G.2) zσ0 5), (c2, zcel (zad h c1 b11 b12 b13 b14 c2 b21 b22 b23 b24 c3 b31 b32 b33 b34 q16 q17 q18 q19 s0 n0 s1 n1 s2 n2 s3 n3 s4 n4 s5 n5 s6 n6 s7 n7 h3 m1 m2 m3 m4 m5 m6 m7 m8 m9 m10 m11 m12 m13 m14 q51 b, G.2) zσ0 6), (b21, zcel (zad h c1 b11 b12 b13 b14 c2 b21 b22 b23 b24 c3 b31 b32 b33 b34 q16 q17 q18 q19 s0 n0 s1 n1 s2 n2 s3 n3 s4 n4 s5 n5 s6 n6 s7 n7 h3 m1 m2 m3 m4 m5 m6 m7 m8 m9 m10 m11 m12 m13 m14 q51 b, G.2) zσ0 7), (b22, zcel (zad h c1 b11 b12 b13 b14 c2 b21 b22 b23 b24 c3 b31 b32 b33 b34 q16 q17 q18 q19 s0 n0 s1 n1 s2 n2 s3 n3 s4 n4 s5 n5 s6 n6 s7 n7 h3 m1 m2 m3 m4 m5 m6 m7 m8 m9 m10 m11 m12 m13 m14 q51 b, G.2) zσ0 8), (b23, zcel (zad h c1 b11 b12 b13 b14 c2 b21 b22 b23 b24 c3 b31 b32 b33 b34 q16 q17 q18 q19 s0 n0 s1 n1 s2 n2 s3 n3 s4 n4 s5 n5 s6 n6 s7 n7 h3 m1 m2 m3 m4 m5 m6 m7 m8 m9 m10 m11 m12 m13 m14 q51 b, G.2) zσ0 9), (b24, zcel (zad h c1 b11 b12 b13 b14 c2 b21 b22 b23 b24 c3 b31 b32 b33 b34 q16 q17 q18 q19 s0 n0 s1 n1 s2 n2 s3 n3 s4 n4 s5 n5 s6 n6 s7 n7 h3 m1 m2 m3 m4 m5 m6 m7 m8 m9 m10 m11 m12 m13 m14 q51 b, G.2) zσ0 10), (c3, zcel (zad h c1 b11 b12 b13 b14 c2 b21 b22 b23 b24 c3 b31 b32 b33 b34 q16 q17 q18 q19 s0 n0 s1 n1 s2 n2 s3 n3 s4 n4 s5 n5 s6 n6 s7 n7 h3 m1 m2 m3 m4 m5 m6 m7 m8 m9 m10 m11 m12 m13 m14 q51 b, G.2) zσ0 11), (b31, zcel (zad h c1 b11 b12 b13 b14 c2 b21 b22 b23 b24 c3 b31 b32 b33 b34 q16 q17 q18 q19 s0 n0 s1 n1 s2 n2 s3 n3 s4 n4 s5 n5 s6 n6 s7 n7 h3 m1 m2 m3 m4 m5 m6 m7 m8 m9 m10 m11 m12 m13 m14 q51 b, G.2) zσ0 12), (b32, zcel (zad h c1 b11 b12 b13 b14 c2 b21 b22 b23 b24 c3 b31 b32 b33 b34 q16 q17 q18 q19 s0 n0 s1 n1 s2 n2 s3 n3 s4 n4 s5 n5 s6 n6 s7 n7 h3 m1 m2 m3 m4 m5 m6 m7 m8 m9 m10 m11 m12 m13 m14 q51 b, G.2) zσ0 13), (b33, zcel (zad h c1 b11 b12 b13 b14 c2 b21 b22 b23 b24 c3 b31 b32 b33 b34 q16 q17 q18 q19 s0 n0 s1 n1 s2 n2 s3 n3 s4 n4 s5 n5 s6 n6 s7 n7 h3 m1 m2 m3 m4 m5 m6 m7 m8 m9 m10 m11 m12 m13 m14 q51 b, G.2) zσ0 14), (b34, zcel (zad h c1 b11 b12 b13 b14 c2 b21 b22 b23 b24 c3 b31 b32 b33 b34 q16 q17 q18 q19 s0 n0 s1 n1 s2 n2 s3 n3 s4 n4 s5 n5 s6 n6 s7 n7 h3 m1 m2 m3 m4 m5 m6 m7 m8 m9 m10 m11 m12 m13 m14 q51 b, G.2) zσ0 15), (q16, zcel (zad h c1 b11 b12 b13 b14 c2 b21 b22 b23 b24 c3 b31 b32 b33 b34 q16 q17 q18 q19 s0 n0 s1 n1 s2 n2 s3 n3 s4 n4 s5 n5 s6 n6 s7 n7 h3 m1 m2 m3 m4 m5 m6 m7 m8 m9 m10 m11 m12 m13 m14 q51 b, G.2) zσ0 16), (q17, zcel (zad h c1 b11 b12 b13 b14 c2 b21 b22 b23 b24 c3 b31 b32 b33 b34 q16 q17 q18 q19 s0 n0 s1 n1 s2 n2 s3 n3 s4 n4 s5 n5 s6 n6 s7 n7 h3 m1 m2 m3 m4 m5 m6 m7 m8 m9 m10 m11 m12 m13 m14 q51 b, G.2) zσ0 17), (q18, zcel (zad h c1 b11 b12 b13 b14 c2 b21 b22 b23 b24 c3 b31 b32 b33 b34 q16 q17 q18 q19 s0 n0 s1 n1 s2 n2 s3 n3 s4 n4 s5 n5 s6 n6 s7 n7 h3 m1 m2 m3 m4 m5 m6 m7 m8 m9 m10 m11 m12 m13 m14 q51 b, G.2) zσ0 18), (q19, zcel (zad h c1 b11 b12 b13 b14 c2 b21 b22 b23 b24 c3 b31 b32 b33 b34 q16 q17 q18 q19 s0 n0 s1 n1 s2 n2 s3 n3 s4 n4 s5 n5 s6 n6 s7 n7 h3 m1 m2 m3 m4 m5 m6 m7 m8 m9 m10 m11 m12 m13 m14 q51 b, G.2) zσ0 19), (s0, zcel (zad h c1 b11 b12 b13 b14 c2 b21 b22 b23 b24 c3 b31 b32 b33 b34 q16 q17 q18 q19 s0 n0 s1 n1 s2 n2 s3 n3 s4 n4 s5 n5 s6 n6 s7 n7 h3 m1 m2 m3 m4 m5 m6 m7 m8 m9 m10 m11 m12 m13 m14 q51 b, G.2) zσ0 20), (n0, zcel (zad h c1 b11 b12 b13 b14 c2 b21 b22 b23 b24 c3 b31 b32 b33 b34 q16 q17 q18 q19 s0 n0 s1 n1 s2 n2 s3 n3 s4 n4 s5 n5 s6 n6 s7 n7 h3 m1 m2 m3 m4 m5 m6 m7 m8 m9 m10 m11 m12 m13 m14 q51 b, G.2) zσ0 21), (s1, zcel (zad h c1 b11 b12 b13 b14 c2 b21 b22 b23 b24 c3 b31 b32 b33 b34 q16 q17 q18 q19 s0 n0 s1 n1 s2 n2 s3 n3 s4 n4 s5 n5 s6 n6 s7 n7 h3 m1 m2 m3 m4 m5 m6 m7 m8 m9 m10 m11 m12 m13 m14 q51 b, G.2) zσ0 22), (n1, zcel (zad h c1 b11 b12 b13 b14 c2 b21 b22 b23 b24 c3 b31 b32 b33 b34 q16 q17 q18 q19 s0 n0 s1 n1 s2 n2 s3 n3 s4 n4 s5 n5 s6 n6 s7 n7 h3 m1 m2 m3 m4 m5 m6 m7 m8 m9 m10 m11 m12 m13 m14 q51 b, G.2) zσ0 23), (s2, zcel (zad h c1 b11 b12 b13 b14 c2 b21 b22 b23 b24 c3 b31 b32 b33 b34 q16 q17 q18 q19 s0 n0 s1 n1 s2 n2 s3 n3 s4 n4 s5 n5 s6 n6 s7 n7 h3 m1 m2 m3 m4 m5 m6 m7 m8 m9 m10 m11 m12 m13 m14 q51 b, G.2) zσ0 24), (n2, zcel (zad h c1 b11 b12 b13 b14 c2 b21 b22 b23 b24 c3 b31 b32 b33 b34 q16 q17 q18 q19 s0 n0 s1 n1 s2 n2 s3 n3 s4 n4 s5 n5 s6 n6 s7 n7 h3 m1 m2 m3 m4 m5 m6 m7 m8 m9 m10 m11 m12 m13 m14 q51 b, G.2) zσ0 25), (s3, zcel (zad h c1 b11 b12 b13 b14 c2 b21 b22 b23 b24 c3 b31 b32 b33 b34 q16 q17 q18 q19 s0 n0 s1 n1 s2 n2 s3 n3 s4 n4 s5 n5 s6 n6 s7 n7 h3 m1 m2 m3 m4 m5 m6 m7 m8 m9 m10 m11 m12 m13 m14 q51 b, G.2) zσ0 26), (n3, zcel (zad h c1 b11 b12 b13 b14 c2 b21 b22 b23 b24 c3 b31 b32 b33 b34 q16 q17 q18 q19 s0 n0 s1 n1 s2 n2 s3 n3 s4 n4 s5 n5 s6 n6 s7 n7 h3 m1 m2 m3 m4 m5 m6 m7 m8 m9 m10 m11 m12 m13 m14 q51 b, G.2) zσ0 27), (s4, zcel (zad h c1 b11 b12 b13 b14 c2 b21 b22 b23 b24 c3 b31 b32 b33 b34 q16 q17 q18 q19 s0 n0 s1 n1 s2 n2 s3 n3 s4 n4 s5 n5 s6 n6 s7 n7 h3 m1 m2 m3 m4 m5 m6 m7 m8 m9 m10 m11 m12 m13 m14 q51 b, G.2) zσ0 28), (n4, zcel (zad h c1 b11 b12 b13 b14 c2 b21 b22 b23 b24 c3 b31 b32 b33 b34 q16 q17 q18 q19 s0 n0 s1 n1 s2 n2 s3 n3 s4 n4 s5 n5 s6 n6 s7 n7 h3 m1 m2 m3 m4 m5 m6 m7 m8 m9 m10 m11 m12 m13 m14 q51 b, G.2) zσ0 29), (s5, zcel (zad h c1 b11 b12 b13 b14 c2 b21 b22 b23 b24 c3 b31 b32 b33 b34 q16 q17 q18 q19 s0 n0 s1 n1 s2 n2 s3 n3 s4 n4 s5 n5 s6 n6 s7 n7 h3 m1 m2 m3 m4 m5 m6 m7 m8 m9 m10 m11 m12 m13 m14 q51 b, G.2) zσ0 30), (n5, zcel (zad h c1 b11 b12 b13 b14 c2 b21 b22 b23 b24 c3 b31 b32 b33 b34 q16 q17 q18 q19 s0 n0 s1 n1 s2 n2 s3 n3 s4 n4 s5 n5 s6 n6 s7 n7 h3 m1 m2 m3 m4 m5 m6 m7 m8 m9 m10 m11 m12 m13 m14 q51 b, G.2) zσ0 31), (s6, zcel (zad h c1 b11 b12 b13 b14 c2 b21 b22 b23 b24 c3 b31 b32 b33 b34 q16 q17 q18 q19 s0 n0 s1 n1 s2 n2 s3 n3 s4 n4 s5 n5 s6 n6 s7 n7 h3 m1 m2 m3 m4 m5 m6 m7 m8 m9 m10 m11 m12 m13 m14 q51 b, G.2) zσ0 32), (n6, zcel (zad h c1 b11 b12 b13 b14 c2 b21 b22 b23 b24 c3 b31 b32 b33 b34 q16 q17 q18 q19 s0 n0 s1 n1 s2 n2 s3 n3 s4 n4 s5 n5 s6 n6 s7 n7 h3 m1 m2 m3 m4 m5 m6 m7 m8 m9 m10 m11 m12 m13 m14 q51 b, G.2) zσ0 33), (s7, zcel (zad h c1 b11 b12 b13 b14 c2 b21 b22 b23 b24 c3 b31 b32 b33 b34 q16 q17 q18 q19 s0 n0 s1 n1 s2 n2 s3 n3 s4 n4 s5 n5 s6 n6 s7 n7 h3 m1 m2 m3 m4 m5 m6 m7 m8 m9 m10 m11 m12 m13 m14 q51 b, G.2) zσ0 34), (n7, zcel (zad h c1 b11 b12 b13 b14 c2 b21 b22 b23 b24 c3 b31 b32 b33 b34 q16 q17 q18 q19 s0 n0 s1 n1 s2 n2 s3 n3 s4 n4 s5 n5 s6 n6 s7 n7 h3 m1 m2 m3 m4 m5 m6 m7 m8 m9 m10 m11 m12 m13 m14 q51 b, G.2) zσ0 35), (h3, zcel (zad h c1 b11 b12 b13 b14 c2 b21 b22 b23 b24 c3 b31 b32 b33 b34 q16 q17 q18 q19 s0 n0 s1 n1 s2 n2 s3 n3 s4 n4 s5 n5 s6 n6 s7 n7 h3 m1 m2 m3 m4 m5 m6 m7 m8 m9 m10 m11 m12 m13 m14 q51 b, G.2) zσ0 36), (m1, zcel (zad h c1 b11 b12 b13 b14 c2 b21 b22 b23 b24 c3 b31 b32 b33 b34 q16 q17 q18 q19 s0 n0 s1 n1 s2 n2 s3 n3 s4 n4 s5 n5 s6 n6 s7 n7 h3 m1 m2 m3 m4 m5 m6 m7 m8 m9 m10 m11 m12 m13 m14 q51 b, G.2) zσ0 37), (m2, zcel (zad h c1 b11 b12 b13 b14 c2 b21 b22 b23 b24 c3 b31 b32 b33 b34 q16 q17 q18 q19 s0 n0 s1 n1 s2 n2 s3 n3 s4 n4 s5 n5 s6 n6 s7 n7 h3 m1 m2 m3 m4 m5 m6 m7 m8 m9 m10 m11 m12 m13 m14 q51 b, G.2) zσ0 38), (m3, zcel (zad h c1 b11 b12 b13 b14 c2 b21 b22 b23 b24 c3 b31 b32 b33 b34 q16 q17 q18 q19 s0 n0 s1 n1 s2 n2 s3 n3 s4 n4 s5 n5 s6 n6 s7 n7 h3 m1 m2 m3 m4 m5 m6 m7 m8 m9 m10 m11 m12 m13 m14 q51 b, G.2) zσ0 39), (m4, zcel (zad h c1 b11 b12 b13 b14 c2 b21 b22 b23 b24 c3 b31 b32 b33 b34 q16 q17 q18 q19 s0 n0 s1 n1 s2 n2 s3 n3 s4 n4 s5 n5 s6 n6 s7 n7 h3 m1 m2 m3 m4 m5 m6 m7 m8 m9 m10 m11 m12 m13 m14 q51 b, G.2) zσ0 40), (m5, zcel (zad h c1 b11 b12 b13 b14 c2 b21 b22 b23 b24 c3 b31 b32 b33 b34 q16 q17 q18 q19 s0 n0 s1 n1 s2 n2 s3 n3 s4 n4 s5 n5 s6 n6 s7 n7 h3 m1 m2 m3 m4 m5 m6 m7 m8 m9 m10 m11 m12 m13 m14 q51 b, G.2) zσ0 41), (m6, zcel (zad h c1 b11 b12 b13 b14 c2 b21 b22 b23 b24 c3 b31 b32 b33 b34 q16 q17 q18 q19 s0 n0 s1 n1 s2 n2 s3 n3 s4 n4 s5 n5 s6 n6 s7 n7 h3 m1 m2 m3 m4 m5 m6 m7 m8 m9 m10 m11 m12 m13 m14 q51 b, G.2) zσ0 42), (m7, zcel (zad h c1 b11 b12 b13 b14 c2 b21 b22 b23 b24 c3 b31 b32 b33 b34 q16 q17 q18 q19 s0 n0 s1 n1 s2 n2 s3 n3 s4 n4 s5 n5 s6 n6 s7 n7 h3 m1 m2 m3 m4 m5 m6 m7 m8 m9 m10 m11 m12 m13 m14 q51 b, G.2) zσ0 43), (m8, zcel (zad h c1 b11 b12 b13 b14 c2 b21 b22 b23 b24 c3 b31 b32 b33 b34 q16 q17 q18 q19 s0 n0 s1 n1 s2 n2 s3 n3 s4 n4 s5 n5 s6 n6 s7 n7 h3 m1 m2 m3 m4 m5 m6 m7 m8 m9 m10 m11 m12 m13 m14 q51 b, G.2) zσ0 44), (m9, zcel (zad h c1 b11 b12 b13 b14 c2 b21 b22 b23 b24 c3 b31 b32 b33 b34 q16 q17 q18 q19 s0 n0 s1 n1 s2 n2 s3 n3 s4 n4 s5 n5 s6 n6 s7 n7 h3 m1 m2 m3 m4 m5 m6 m7 m8 m9 m10 m11 m12 m13 m14 q51 b, G.2) zσ0 45), (m10, zcel (zad h c1 b11 b12 b13 b14 c2 b21 b22 b23 b24 c3 b31 b32 b33 b34 q16 q17 q18 q19 s0 n0 s1 n1 s2 n2 s3 n3 s4 n4 s5 n5 s6 n6 s7 n7 h3 m1 m2 m3 m4 m5 m6 m7 m8 m9 m10 m11 m12 m13 m14 q51 b, G.2) zσ0 46), (m11, zcel (zad h c1 b11 b12 b13 b14 c2 b21 b22 b23 b24 c3 b31 b32 b33 b34 q16 q17 q18 q19 s0 n0 s1 n1 s2 n2 s3 n3 s4 n4 s5 n5 s6 n6 s7 n7 h3 m1 m2 m3 m4 m5 m6 m7 m8 m9 m10 m11 m12 m13 m14 q51 b, G.2) zσ0 47), (m12, zcel (zad h c1 b11 b12 b13 b14 c2 b21 b22 b23 b24 c3 b31 b32 b33 b34 q16 q17 q18 q19 s0 n0 s1 n1 s2 n2 s3 n3 s4 n4 s5 n5 s6 n6 s7 n7 h3 m1 m2 m3 m4 m5 m6 m7 m8 m9 m10 m11 m12 m13 m14 q51 b, G.2) zσ0 48), (m13, zcel (zad h c1 b11 b12 b13 b14 c2 b21 b22 b23 b24 c3 b31 b32 b33 b34 q16 q17 q18 q19 s0 n0 s1 n1 s2 n2 s3 n3 s4 n4 s5 n5 s6 n6 s7 n7 h3 m1 m2 m3 m4 m5 m6 m7 m8 m9 m10 m11 m12 m13 m14 q51 b, G.2) zσ0 49), (m14, zcel (zad h c1 b11 b12 b13 b14 c2 b21 b22 b23 b24 c3 b31 b32 b33 b34 q16 q17 q18 q19 s0 n0 s1 n1 s2 n2 s3 n3 s4 n4 s5 n5 s6 n6 s7 n7 h3 m1 m2 m3 m4 m5 m6 m7 m8 m9 m10 m11 m12 m13 m14 q51 b, G.2) zσ0 50), (q51, zcel (zad h c1 b11 b12 b13 b14 c2 b21 b22 b23 b24 c3 b31 b32 b33 b34 q16 q17 q18 q19 s0 n0 s1 n1 s2 n2 s3 n3 s4 n4 s5 n5 s6 n6 s7 n7 h3 m1 m2 m3 m4 m5 m6 m7 m8 m9 m10 m11 m12 m13 m14 q51 b, G.2) zσ0 51)] := rfl
  have e2 : zcel (zad h c1 b11 b12 b13 b14 c2 b21 b22 b23 b24 c3 b31 b32 b33 b34 q16 q17 q18 q19 s0 n0 s1 n1 s2 n2 s3 n3 s4 n4 s5 n5 s6 n6 s7 n7 h3 m1 m2 m3 m4 m5 m6 m7 m8 m9 m10 m11 m12 m13 m14 q51 b, G.2) zσ0 2 = eI G 8 := zcI0 rfl rfl (by decide)
  have e3 : zcel (zad h c1 b11 b12 b13 b14 c2 b21 b22 b23 b24 c3 b31 b32 b33 b34 q16 q17 q18 q19 s0 n0 s1 n1 s2 n2 s3 n3 s4 n4 s5 n5 s6 n6 s7 n7 h3 m1 m2 m3 m4 m5 m6 m7 m8 m9 m10 m11 m12 m13 m14 q51 b, G.2) zσ0 3 = eI G 8 := zcI0 rfl rfl (by decide)
  have e4 : zcel (zad h c1 b11 b12 b13 b14 c2 b21 b22 b23 b24 c3 b31 b32 b33 b34 q16 q17 q18 q19 s0 n0 s1 n1 s2 n2 s3 n3 s4 n4 s5 n5 s6 n6 s7 n7 h3 m1 m2 m3 m4 m5 m6 m7 m8 m9 m10 m11 m12 m13 m14 q51 b, G.2) zσ0 4 = eI G 8 := zcI0 rfl rfl (by decide)
  have e5 : zcel (zad h c1 b11 b12 b13 b14 c2 b21 b22 b23 b24 c3 b31 b32 b33 b34 q16 q17 q18 q19 s0 n0 s1 n1 s2 n2 s3 n3 s4 n4 s5 n5 s6 n6 s7 n7 h3 m1 m2 m3 m4 m5 m6 m7 m8 m9 m10 m11 m12 m13 m14 q51 b, G.2) zσ0 5 = eI G 8 := zcI0 rfl rfl (by decide)
  have e7 : zcel (zad h c1 b11 b12 b13 b14 c2 b21 b22 b23 b24 c3 b31 b32 b33 b34 q16 q17 q18 q19 s0 n0 s1 n1 s2 n2 s3 n3 s4 n4 s5 n5 s6 n6 s7 n7 h3 m1 m2 m3 m4 m5 m6 m7 m8 m9 m10 m11 m12 m13 m14 q51 b, G.2) zσ0 7 = eI G 8 := zcI0 rfl rfl (by decide)
  have e8 : zcel (zad h c1 b11 b12 b13 b14 c2 b21 b22 b23 b24 c3 b31 b32 b33 b34 q16 q17 q18 q19 s0 n0 s1 n1 s2 n2 s3 n3 s4 n4 s5 n5 s6 n6 s7 n7 h3 m1 m2 m3 m4 m5 m6 m7 m8 m9 m10 m11 m12 m13 m14 q51 b, G.2) zσ0 8 = eI G 8 := zcI0 rfl rfl (by decide)
  have e9 : zcel (zad h c1 b11 b12 b13 b14 c2 b21 b22 b23 b24 c3 b31 b32 b33 b34 q16 q17 q18 q19 s0 n0 s1 n1 s2 n2 s3 n3 s4 n4 s5 n5 s6 n6 s7 n7 h3 m1 m2 m3 m4 m5 m6 m7 m8 m9 m10 m11 m12 m13 m14 q51 b, G.2) zσ0 9 = eI G 8 := zcI0 rfl rfl (by decide)
  have e10 : zcel (zad h c1 b11 b12 b13 b14 c2 b21 b22 b23 b24 c3 b31 b32 b33 b34 q16 q17 q18 q19 s0 n0 s1 n1 s2 n2 s3 n3 s4 n4 s5 n5 s6 n6 s7 n7 h3 m1 m2 m3 m4 m5 m6 m7 m8 m9 m10 m11 m12 m13 m14 q51 b, G.2) zσ0 10 = eI G 8 := zcI0 rfl rfl (by decide)
  have e12 : zcel (zad h c1 b11 b12 b13 b14 c2 b21 b22 b23 b24 c3 b31 b32 b33 b34 q16 q17 q18 q19 s0 n0 s1 n1 s2 n2 s3 n3 s4 n4 s5 n5 s6 n6 s7 n7 h3 m1 m2 m3 m4 m5 m6 m7 m8 m9 m10 m11 m12 m13 m14 q51 b, G.2) zσ0 12 = eI G 8 := zcI0 rfl rfl (by decide)
  have e13 : zcel (zad h c1 b11 b12 b13 b14 c2 b21 b22 b23 b24 c3 b31 b32 b33 b34 q16 q17 q18 q19 s0 n0 s1 n1 s2 n2 s3 n3 s4 n4 s5 n5 s6 n6 s7 n7 h3 m1 m2 m3 m4 m5 m6 m7 m8 m9 m10 m11 m12 m13 m14 q51 b, G.2) zσ0 13 = eI G 8 := zcI0 rfl rfl (by decide)
  have e14 : zcel (zad h c1 b11 b12 b13 b14 c2 b21 b22 b23 b24 c3 b31 b32 b33 b34 q16 q17 q18 q19 s0 n0 s1 n1 s2 n2 s3 n3 s4 n4 s5 n5 s6 n6 s7 n7 h3 m1 m2 m3 m4 m5 m6 m7 m8 m9 m10 m11 m12 m13 m14 q51 b, G.2) zσ0 14 = eI G 8 := zcI0 rfl rfl (by decide)
  have e15 : zcel (zad h c1 b11 b12 b13 b14 c2 b21 b22 b23 b24 c3 b31 b32 b33 b34 q16 q17 q18 q19 s0 n0 s1 n1 s2 n2 s3 n3 s4 n4 s5 n5 s6 n6 s7 n7 h3 m1 m2 m3 m4 m5 m6 m7 m8 m9 m10 m11 m12 m13 m14 q51 b, G.2) zσ0 15 = eI G 8 := zcI0 rfl rfl (by decide)
  have e16 := zc160 (g := (zad h c1 b11 b12 b13 b14 c2 b21 b22 b23 b24 c3 b31 b32 b33 b34 q16 q17 q18 q19 s0 n0 s1 n1 s2 n2 s3 n3 s4 n4 s5 n5 s6 n6 s7 n7 h3 m1 m2 m3 m4 m5 m6 m7 m8 m9 m10 m11 m12 m13 m14 q51 b, G.2))
  have e17 : zcel (zad h c1 b11 b12 b13 b14 c2 b21 b22 b23 b24 c3 b31 b32 b33 b34 q16 q17 q18 q19 s0 n0 s1 n1 s2 n2 s3 n3 s4 n4 s5 n5 s6 n6 s7 n7 h3 m1 m2 m3 m4 m5 m6 m7 m8 m9 m10 m11 m12 m13 m14 q51 b, G.2) zσ0 17 = eI G 6 := zcI0 rfl rfl (by decide)
  have e18 : zcel (zad h c1 b11 b12 b13 b14 c2 b21 b22 b23 b24 c3 b31 b32 b33 b34 q16 q17 q18 q19 s0 n0 s1 n1 s2 n2 s3 n3 s4 n4 s5 n5 s6 n6 s7 n7 h3 m1 m2 m3 m4 m5 m6 m7 m8 m9 m10 m11 m12 m13 m14 q51 b, G.2) zσ0 18 = eI G 6 := zcI0 rfl rfl (by decide)
  have e19 : zcel (zad h c1 b11 b12 b13 b14 c2 b21 b22 b23 b24 c3 b31 b32 b33 b34 q16 q17 q18 q19 s0 n0 s1 n1 s2 n2 s3 n3 s4 n4 s5 n5 s6 n6 s7 n7 h3 m1 m2 m3 m4 m5 m6 m7 m8 m9 m10 m11 m12 m13 m14 q51 b, G.2) zσ0 19 = eJ G 81 := zcJ0 rfl (by decide)
  have e21 : zcel (zad h c1 b11 b12 b13 b14 c2 b21 b22 b23 b24 c3 b31 b32 b33 b34 q16 q17 q18 q19 s0 n0 s1 n1 s2 n2 s3 n3 s4 n4 s5 n5 s6 n6 s7 n7 h3 m1 m2 m3 m4 m5 m6 m7 m8 m9 m10 m11 m12 m13 m14 q51 b, G.2) zσ0 21 = eI G 100 := zcI0 rfl rfl (by decide)
  have e23 : zcel (zad h c1 b11 b12 b13 b14 c2 b21 b22 b23 b24 c3 b31 b32 b33 b34 q16 q17 q18 q19 s0 n0 s1 n1 s2 n2 s3 n3 s4 n4 s5 n5 s6 n6 s7 n7 h3 m1 m2 m3 m4 m5 m6 m7 m8 m9 m10 m11 m12 m13 m14 q51 b, G.2) zσ0 23 = eI G 100 := zcI0 rfl rfl (by decide)
  have e25 : zcel (zad h c1 b11 b12 b13 b14 c2 b21 b22 b23 b24 c3 b31 b32 b33 b34 q16 q17 q18 q19 s0 n0 s1 n1 s2 n2 s3 n3 s4 n4 s5 n5 s6 n6 s7 n7 h3 m1 m2 m3 m4 m5 m6 m7 m8 m9 m10 m11 m12 m13 m14 q51 b, G.2) zσ0 25 = eI G 100 := zcI0 rfl rfl (by decide)
  have e27 : zcel (zad h c1 b11 b12 b13 b14 c2 b21 b22 b23 b24 c3 b31 b32 b33 b34 q16 q17 q18 q19 s0 n0 s1 n1 s2 n2 s3 n3 s4 n4 s5 n5 s6 n6 s7 n7 h3 m1 m2 m3 m4 m5 m6 m7 m8 m9 m10 m11 m12 m13 m14 q51 b, G.2) zσ0 27 = eI G 100 := zcI0 rfl rfl (by decide)
  have e29 : zcel (zad h c1 b11 b12 b13 b14 c2 b21 b22 b23 b24 c3 b31 b32 b33 b34 q16 q17 q18 q19 s0 n0 s1 n1 s2 n2 s3 n3 s4 n4 s5 n5 s6 n6 s7 n7 h3 m1 m2 m3 m4 m5 m6 m7 m8 m9 m10 m11 m12 m13 m14 q51 b, G.2) zσ0 29 = eI G 100 := zcI0 rfl rfl (by decide)
  have e31 : zcel (zad h c1 b11 b12 b13 b14 c2 b21 b22 b23 b24 c3 b31 b32 b33 b34 q16 q17 q18 q19 s0 n0 s1 n1 s2 n2 s3 n3 s4 n4 s5 n5 s6 n6 s7 n7 h3 m1 m2 m3 m4 m5 m6 m7 m8 m9 m10 m11 m12 m13 m14 q51 b, G.2) zσ0 31 = eI G 100 := zcI0 rfl rfl (by decide)
  have e33 : zcel (zad h c1 b11 b12 b13 b14 c2 b21 b22 b23 b24 c3 b31 b32 b33 b34 q16 q17 q18 q19 s0 n0 s1 n1 s2 n2 s3 n3 s4 n4 s5 n5 s6 n6 s7 n7 h3 m1 m2 m3 m4 m5 m6 m7 m8 m9 m10 m11 m12 m13 m14 q51 b, G.2) zσ0 33 = eI G 100 := zcI0 rfl rfl (by decide)
  have e35 : zcel (zad h c1 b11 b12 b13 b14 c2 b21 b22 b23 b24 c3 b31 b32 b33 b34 q16 q17 q18 q19 s0 n0 s1 n1 s2 n2 s3 n3 s4 n4 s5 n5 s6 n6 s7 n7 h3 m1 m2 m3 m4 m5 m6 m7 m8 m9 m10 m11 m12 m13 m14 q51 b, G.2) zσ0 35 = eI G 100 := zcI0 rfl rfl (by decide)
  have e37 : zcel (zad h c1 b11 b12 b13 b14 c2 b21 b22 b23 b24 c3 b31 b32 b33 b34 q16 q17 q18 q19 s0 n0 s1 n1 s2 n2 s3 n3 s4 n4 s5 n5 s6 n6 s7 n7 h3 m1 m2 m3 m4 m5 m6 m7 m8 m9 m10 m11 m12 m13 m14 q51 b, G.2) zσ0 37 = .inl (G.2.1, 35, .inl (upd (fun _ => 0) (1 : Int32).toNatClampNeg 22)) := zc370
  have e38 : zcel (zad h c1 b11 b12 b13 b14 c2 b21 b22 b23 b24 c3 b31 b32 b33 b34 q16 q17 q18 q19 s0 n0 s1 n1 s2 n2 s3 n3 s4 n4 s5 n5 s6 n6 s7 n7 h3 m1 m2 m3 m4 m5 m6 m7 m8 m9 m10 m11 m12 m13 m14 q51 b, G.2) zσ0 38 = eI G 35 := zcI0 rfl rfl (by decide)
  have e39 : zcel (zad h c1 b11 b12 b13 b14 c2 b21 b22 b23 b24 c3 b31 b32 b33 b34 q16 q17 q18 q19 s0 n0 s1 n1 s2 n2 s3 n3 s4 n4 s5 n5 s6 n6 s7 n7 h3 m1 m2 m3 m4 m5 m6 m7 m8 m9 m10 m11 m12 m13 m14 q51 b, G.2) zσ0 39 = eI G 35 := zcI0 rfl rfl (by decide)
  have e40 : zcel (zad h c1 b11 b12 b13 b14 c2 b21 b22 b23 b24 c3 b31 b32 b33 b34 q16 q17 q18 q19 s0 n0 s1 n1 s2 n2 s3 n3 s4 n4 s5 n5 s6 n6 s7 n7 h3 m1 m2 m3 m4 m5 m6 m7 m8 m9 m10 m11 m12 m13 m14 q51 b, G.2) zσ0 40 = eI G 35 := zcI0 rfl rfl (by decide)
  have e41 : zcel (zad h c1 b11 b12 b13 b14 c2 b21 b22 b23 b24 c3 b31 b32 b33 b34 q16 q17 q18 q19 s0 n0 s1 n1 s2 n2 s3 n3 s4 n4 s5 n5 s6 n6 s7 n7 h3 m1 m2 m3 m4 m5 m6 m7 m8 m9 m10 m11 m12 m13 m14 q51 b, G.2) zσ0 41 = eI G 8 := zcI0 rfl rfl (by decide)
  have e42 : zcel (zad h c1 b11 b12 b13 b14 c2 b21 b22 b23 b24 c3 b31 b32 b33 b34 q16 q17 q18 q19 s0 n0 s1 n1 s2 n2 s3 n3 s4 n4 s5 n5 s6 n6 s7 n7 h3 m1 m2 m3 m4 m5 m6 m7 m8 m9 m10 m11 m12 m13 m14 q51 b, G.2) zσ0 42 = eI G 2 := zcI0 rfl rfl (by decide)
  have e43 : zcel (zad h c1 b11 b12 b13 b14 c2 b21 b22 b23 b24 c3 b31 b32 b33 b34 q16 q17 q18 q19 s0 n0 s1 n1 s2 n2 s3 n3 s4 n4 s5 n5 s6 n6 s7 n7 h3 m1 m2 m3 m4 m5 m6 m7 m8 m9 m10 m11 m12 m13 m14 q51 b, G.2) zσ0 43 = eI G 8 := zcI0 rfl rfl (by decide)
  have e44 : zcel (zad h c1 b11 b12 b13 b14 c2 b21 b22 b23 b24 c3 b31 b32 b33 b34 q16 q17 q18 q19 s0 n0 s1 n1 s2 n2 s3 n3 s4 n4 s5 n5 s6 n6 s7 n7 h3 m1 m2 m3 m4 m5 m6 m7 m8 m9 m10 m11 m12 m13 m14 q51 b, G.2) zσ0 44 = eI G 8 := zcI0 rfl rfl (by decide)
  have e45 : zcel (zad h c1 b11 b12 b13 b14 c2 b21 b22 b23 b24 c3 b31 b32 b33 b34 q16 q17 q18 q19 s0 n0 s1 n1 s2 n2 s3 n3 s4 n4 s5 n5 s6 n6 s7 n7 h3 m1 m2 m3 m4 m5 m6 m7 m8 m9 m10 m11 m12 m13 m14 q51 b, G.2) zσ0 45 = eI G 8 := zcI0 rfl rfl (by decide)
  have e46 : zcel (zad h c1 b11 b12 b13 b14 c2 b21 b22 b23 b24 c3 b31 b32 b33 b34 q16 q17 q18 q19 s0 n0 s1 n1 s2 n2 s3 n3 s4 n4 s5 n5 s6 n6 s7 n7 h3 m1 m2 m3 m4 m5 m6 m7 m8 m9 m10 m11 m12 m13 m14 q51 b, G.2) zσ0 46 = eI G 8 := zcI0 rfl rfl (by decide)
  have e47 : zcel (zad h c1 b11 b12 b13 b14 c2 b21 b22 b23 b24 c3 b31 b32 b33 b34 q16 q17 q18 q19 s0 n0 s1 n1 s2 n2 s3 n3 s4 n4 s5 n5 s6 n6 s7 n7 h3 m1 m2 m3 m4 m5 m6 m7 m8 m9 m10 m11 m12 m13 m14 q51 b, G.2) zσ0 47 = eI G 8 := zcI0 rfl rfl (by decide)
  have e48 : zcel (zad h c1 b11 b12 b13 b14 c2 b21 b22 b23 b24 c3 b31 b32 b33 b34 q16 q17 q18 q19 s0 n0 s1 n1 s2 n2 s3 n3 s4 n4 s5 n5 s6 n6 s7 n7 h3 m1 m2 m3 m4 m5 m6 m7 m8 m9 m10 m11 m12 m13 m14 q51 b, G.2) zσ0 48 = eI G 8 := zcI0 rfl rfl (by decide)
  have e49 : zcel (zad h c1 b11 b12 b13 b14 c2 b21 b22 b23 b24 c3 b31 b32 b33 b34 q16 q17 q18 q19 s0 n0 s1 n1 s2 n2 s3 n3 s4 n4 s5 n5 s6 n6 s7 n7 h3 m1 m2 m3 m4 m5 m6 m7 m8 m9 m10 m11 m12 m13 m14 q51 b, G.2) zσ0 49 = eI G 8 := zcI0 rfl rfl (by decide)
  have e50 : zcel (zad h c1 b11 b12 b13 b14 c2 b21 b22 b23 b24 c3 b31 b32 b33 b34 q16 q17 q18 q19 s0 n0 s1 n1 s2 n2 s3 n3 s4 n4 s5 n5 s6 n6 s7 n7 h3 m1 m2 m3 m4 m5 m6 m7 m8 m9 m10 m11 m12 m13 m14 q51 b, G.2) zσ0 50 = eI G 800 := zcI0 rfl rfl (by decide)
  have e51 : zcel (zad h c1 b11 b12 b13 b14 c2 b21 b22 b23 b24 c3 b31 b32 b33 b34 q16 q17 q18 q19 s0 n0 s1 n1 s2 n2 s3 n3 s4 n4 s5 n5 s6 n6 s7 n7 h3 m1 m2 m3 m4 m5 m6 m7 m8 m9 m10 m11 m12 m13 m14 q51 b, G.2) zσ0 51 = eJ G 1 := zcJ0 rfl (by decide)
  rw [e, e2, e3, e4, e5, e7, e8, e9, e10, e12, e13, e14, e15, e16, e17, e18, e19, e21, e23, e25, e27, e29, e31, e33, e35, e37, e38, e39, e40, e41, e42, e43, e44, e45, e46, e47, e48, e49, e50, e51]
  rfl
theorem zXcl (s : State) (args : Array Value) (h : ∀ w ∈ lw_tbl, w.before args s = true) : ∃ (G : zG) (D : va_G), va_K D zcl (ztys G) s := by
  have hT : ∀ w ∈ zT, w.before args s = true := fun w hw => h w (List.mem_filter.mp hw).1
  obtain ⟨c0, i0, k0⟩ := u_known (C := RX0) (T := TX0) (N := 8) (n := 8) hT zly_0 (hT _ (zT_at 72 (by decide +kernel) (by decide +kernel)))
  obtain ⟨c1, i1, k1⟩ := u_known (C := RX1) (T := TX1) (N := 6) (n := 6) hT zly_1 (hT _ (zT_at 112 (by decide +kernel) (by decide +kernel)))
  obtain ⟨c2, i2, k2⟩ := u_known (C := RX2) (T := TX2) (N := 8) (n := 8) hT zly_2 (hT _ (zT_at 64 (by decide +kernel) (by decide +kernel)))
  obtain ⟨c3, i3, k3⟩ := u_known (C := RX3) (T := TX3) (N := 21) (n := 21) hT zly_3 (hT _ (zT_at 752 (by decide +kernel) (by decide +kernel)))
  obtain ⟨cI, kI, pI, f1, f2, f3⟩ := Cond.arrayClass_spec (hT (.arrayClass .int) (zT_at 109 (by decide +kernel) (by decide +kernel)))
  obtain ⟨cJ, kJ, pJ, g1, g2, g3⟩ := Cond.arrayClass_spec (hT (.arrayClass .long) (zT_at 142 (by decide +kernel) (by decide +kernel)))
  obtain ⟨pQ, cQ, kQ, q1, q2, q3, q4, q5⟩ := Cond.arrayOver_spec (h (.arrayOver (.object RX1)) (List.mem_of_getElem? (i := 111) (by decide +kernel)))
  refine ⟨(fun _ => 0, cI, cJ, cQ), (fun k => if k = 0 then c0 else if k = 1 then c1 else if k = 2 then c2 else c3, fun k => if k = 0 then i0 else if k = 1 then i1 else if k = 2 then i2 else i3), ?_, ?_⟩
  · intro k q hq
    match k, hq with
    | 0, hq => cases hq; exact k0
    | 1, hq => cases hq; exact k1
    | 2, hq => cases hq; exact k2
    | 3, hq => cases hq; exact k3
    | k + 4, hq => simp [zcl] at hq
  · intro k q hq
    match k, hq with
    | 0, hq => cases hq; exact ⟨fun n z => ⟨fun k h => (by cases h), kI, f2, pI, f3⟩, f1⟩
    | 1, hq => cases hq; exact ⟨fun n z => ⟨fun k h => (by cases h), kJ, g2, pJ, g3⟩, g1⟩
    | 2, hq => cases hq; exact ⟨fun n z => ⟨fun k h => (by cases h), kQ, q3, pQ, q4⟩, kQ, pQ, q3, q4, q1, q5⟩
    | k + 3, hq => simp [ztys] at hq
theorem zfs2 : ∀ j, j < 8 → (parseFieldDescriptor (TX2 j).2.2.1).map defaultValue = some (vp_V [.null, .null, .null, .int 0, .null, .null, .null, .null] j) := by
  intro j hj
  rcases (show j = 0 ∨ j = 1 ∨ j = 2 ∨ j = 3 ∨ j = 4 ∨ j = 5 ∨ j = 6 ∨ j = 7 by omega) with rfl | rfl | rfl | rfl | rfl | rfl | rfl | rfl <;> decide +kernel
theorem zfs3 : ∀ j, j < 21 → (parseFieldDescriptor (TX3 j).2.2.1).map defaultValue = some (vp_V [.null, .null, .null, .null, .null, .int 0, .int 0, .int 0, .int 0, .null, .null, .null, .int 0, .int 0, .null, .null, .null, .null, .null, .null, .int 0] j) := by
  intro j hj
  rcases (show j = 0 ∨ j = 1 ∨ j = 2 ∨ j = 3 ∨ j = 4 ∨ j = 5 ∨ j = 6 ∨ j = 7 ∨ j = 8 ∨ j = 9 ∨ j = 10 ∨ j = 11 ∨ j = 12 ∨ j = 13 ∨ j = 14 ∨ j = 15 ∨ j = 16 ∨ j = 17 ∨ j = 18 ∨ j = 19 ∨ j = 20 by omega) with rfl | rfl | rfl | rfl | rfl | rfl | rfl | rfl | rfl | rfl | rfl | rfl | rfl | rfl | rfl | rfl | rfl | rfl | rfl | rfl | rfl <;> decide +kernel
theorem zXstr {s : State} {args : Array Value} {own tx : String} {k : Nat} (h1 : (Cond.stringRef own k tx).before args s = true) (h2 : (Cond.exactly (.string own k) "java/lang/String").before args s = true) : ∃ a, vk_R own k tx a s := by
  obtain ⟨a, c, cell, kk, h3, -⟩ := Cond.exactly_spec h2
  exact ⟨a, vk_R.of h1 h3⟩
set_option maxRecDepth 100000 in
set_option maxHeartbeats 4000000 in
/-- YOUR PART: from the entry, for every script of at most 3072 ints, the law comes to its end with true ('hflags': the launch's flags, for a law that throws: no stack traces) -/
theorem whole_start {p : Program} {e : Env} {s : State} {m : MethodId} {below : List Frame} {meth : Method} {c : Code} (l : Launch) (hflags : l.flags = flags0) {b L : Nat} {xs : Nat → Int32} (hL : L ≤ 3072) (C0 : lw_At p s m meth c b L xs) : W p l e room_1 s m #[Value.ref b] below meth c s.heap [] 0 0 (lw_Z below #[Value.ref b] s) (entryFrame m ([Value.ref b] : List Value).toArray 8) := by
  obtain ⟨hx, hb, hr, hml, hown, hts, hX, hbl, hlocks, hgv⟩ := id C0
  have hs := flat_of_before _ hgv
  have hl : l.stackTraces = false := by unfold Launch.stackTraces; rw [hflags]; decide +kernel
  obtain ⟨G, D, hK⟩ := zXcl s _ hts
  have htsT : ∀ w ∈ zT, w.before #[Value.ref b] s = true := fun w hw => hts w (List.mem_filter.mp hw).1
  have hA : ∀ q : Nat, s.heap.size ≤ q → (fun q : Nat => s.heap.size ≤ q) q := fun _ h => h
  have hNC : ∀ w ∈ zNC, va_Nw w s := by
    intro w hw
    simp only [zNC, List.mem_cons, List.not_mem_nil, or_false] at hw
    rcases hw with rfl | rfl
    · exact va_Nw.of rfl (hts _ (List.mem_of_getElem? (i := 73) (by decide +kernel)))
    · exact va_Nw.of rfl (hts _ (List.mem_of_getElem? (i := 113) (by decide +kernel)))
  have C : zKc p s m #[Value.ref b] c mL_law G D := ⟨hx, hb, hml, hown, htsT, rfl, hK, hNC, va_AO.of (hts _ (List.mem_of_getElem? (i := 111) (by decide +kernel)))⟩
  have hst : zKs D (fun q : Nat => s.heap.size ≤ q) [] s.heap s.heap [] := ⟨fun k q h => by simp at h, ⟨fun i j p q h => by simp at h, fun k q h => by simp at h⟩, va_S.rf⟩
  have hlv := lv_entry ([.ref b]) (n := 8) (Nat.le_of_ble_eq_true rfl)
  rw [lg_entry_eq]
  generalize (lg_sl ([.ref b]) ++ List.replicate (8 - (lg_sl ([.ref b])).length) Slot.unset).toArray = ls at hlv ⊢
  have hlv : lv_has ls 8 [(0, .ref b)] := hlv
  refine zc_new (k := mL_law) (ci := 2) (r := (RX2, TX2, 8)) (mc := 35) (ms := 1069) (F := fun q => zFX2 G q) C hA hst rfl (zT_at 63 (by decide +kernel) (by decide +kernel)) (zT_at 64 (by decide +kernel) (by decide +kernel)) zw_49 _ zfs2 (Nat.le_of_ble_eq_true rfl) (Nat.le_of_ble_eq_true rfl) dL_law_0 dL_law_3 (fun q H hst => ?_) (fun h w1 H locs hF hst => ?_)
  · exact zc_runP (k' := mX2_init) C hst hlv.1 (c_X2 l G D q H.size) (zT_at 67 (by decide +kernel) (by decide +kernel)) rfl (zT_at 65 (by decide +kernel) (by decide +kernel)) (zT_at 66 (by decide +kernel) (by decide +kernel)) zw_49 rfl ⟨by decide +kernel, by decide +kernel, by decide +kernel⟩ ⟨rfl, rfl, Nat.le_of_ble_eq_true rfl, Nat.le_of_ble_eq_true rfl⟩ ⟨Nat.le_of_ble_eq_true rfl, Nat.le_of_ble_eq_true rfl⟩ (Nat.le_of_ble_eq_true rfl) dL_law_4
  obtain ⟨c1, b11, b12, b13, b14, c2, b21, b22, b23, b24, c3, b31, b32, b33, b34, q16, q17, q18, q19, s0, n0, s1, n1, s2, n2, s3, n3, s4, n4, s5, n5, s6, n6, s7, n7, rfl⟩ := hF
  have hst := (show zKs D (fun q : Nat => s.heap.size ≤ q) (wX2 G h c1 b11 b12 b13 b14 c2 b21 b22 b23 b24 c3 b31 b32 b33 b34 q16 q17 q18 q19 s0 n0 s1 n1 s2 n2 s3 n3 s4 n4 s5 n5 s6 n6 s7 n7) s.heap H locs from hst)
  refine lv_astore_n (lv' := [(1, .ref h), (0, .ref b)]) hx hb dL_law_7 rfl hlv (by decide) rfl (fun ls hlv => ?_)
  refine zc_new (k := mL_law) (ci := 3) (r := (RX3, TX3, 21)) (mc := 14) (ms := 1006) (F := fun q => zFX3 G q) C hA hst rfl (zT_at 751 (by decide +kernel) (by decide +kernel)) (zT_at 752 (by decide +kernel) (by decide +kernel)) (zT_at 52 (by decide +kernel) (by decide +kernel)) _ zfs3 (Nat.le_of_ble_eq_true rfl) (Nat.le_of_ble_eq_true rfl) dL_law_8 dL_law_11 (fun q H hst => ?_) (fun h3 w1 H locs hF hst => ?_)
  · exact zc_runP (k' := mX3_init) C hst hlv.1 (c_X3 l G D q H.size) (zT_at 755 (by decide +kernel) (by decide +kernel)) rfl (zT_at 753 (by decide +kernel) (by decide +kernel)) (zT_at 754 (by decide +kernel) (by decide +kernel)) (zT_at 52 (by decide +kernel) (by decide +kernel)) rfl ⟨by decide +kernel, by decide +kernel, by decide +kernel⟩ ⟨rfl, rfl, Nat.le_of_ble_eq_true rfl, Nat.le_of_ble_eq_true rfl⟩ ⟨Nat.le_of_ble_eq_true rfl, Nat.le_of_ble_eq_true rfl⟩ (Nat.le_of_ble_eq_true rfl) dL_law_12
  obtain ⟨m1, m2, m3, m4, m5, m6, m7, m8, m9, m10, m11, m12, m13, m14, rfl⟩ := hF
  refine lv_astore_n (lv' := [(2, .ref h3), (1, .ref h), (0, .ref b)]) hx hb dL_law_15 rfl hlv (by decide) rfl (fun ls hlv => ?_)
  refine lv_iconst (v := 1) hx hb dL_law_16 (by decide) ?_
  refine zr_newJ C hA hst (n := 1) 1 (by decide) (by decide) (by decide) (Nat.le_of_ble_eq_true rfl) (Nat.le_of_ble_eq_true rfl) dL_law_17 (fun q51 H hst => ?_)
  refine lv_astore_n (lv' := [(3, .ref q51), (2, .ref h3), (1, .ref h), (0, .ref b)]) hx hb dL_law_19 rfl hlv (by decide) rfl (fun ls hlv => ?_)
  refine lv_iconst (v := 0) hx hb dL_law_20 (by decide) ?_
  refine lv_istore (lv' := [(4, .int 0), (3, .ref q51), (2, .ref h3), (1, .ref h), (0, .ref b)]) hx hb dL_law_21 hlv (by decide) rfl (fun ls hlv => ?_)
  rw [zw0 G h c1 b11 b12 b13 b14 c2 b21 b22 b23 b24 c3 b31 b32 b33 b34 q16 q17 q18 q19 s0 n0 s1 n1 s2 n2 s3 n3 s4 n4 s5 n5 s6 n6 s7 n7 h3 m1 m2 m3 m4 m5 m6 m7 m8 m9 m10 m11 m12 m13 m14 q51 b] at hst
  have hlv : lv_has ls 8 (zloc (zad h c1 b11 b12 b13 b14 c2 b21 b22 b23 b24 c3 b31 b32 b33 b34 q16 q17 q18 q19 s0 n0 s1 n1 s2 n2 s3 n3 s4 n4 s5 n5 s6 n6 s7 n7 h3 m1 m2 m3 m4 m5 m6 m7 m8 m9 m10 m11 m12 m13 m14 q51 b) (zLL (0 : Nat))) := lv_sub hlv [4, 3, 2, 1, 0] rfl
  have h52 : zad h c1 b11 b12 b13 b14 c2 b21 b22 b23 b24 c3 b31 b32 b33 b34 q16 q17 q18 q19 s0 n0 s1 n1 s2 n2 s3 n3 s4 n4 s5 n5 s6 n6 s7 n7 h3 m1 m2 m3 m4 m5 m6 m7 m8 m9 m10 m11 m12 m13 m14 q51 b 52 = b := rfl
  generalize zad h c1 b11 b12 b13 b14 c2 b21 b22 b23 b24 c3 b31 b32 b33 b34 q16 q17 q18 q19 s0 n0 s1 n1 s2 n2 s3 n3 s4 n4 s5 n5 s6 n6 s7 n7 h3 m1 m2 m3 m4 m5 m6 m7 m8 m9 m10 m11 m12 m13 m14 q51 b = ad at *
  have h52 : (ad, G.2).1 52 = b := h52
  obtain ⟨hP, hD, hS⟩ := hst
  have hget : ∀ q, q < 52 → (zwd (ad, G.2) zσ0)[q]? = some (ad q, zcel (ad, G.2) zσ0 q) := fun q h => zwd_get (g := (ad, G.2)) h
  have hi : zInj (ad, G.2) := fun i j h1 h2 e => hD.1 i j _ _ (hget i h1) (hget j h2) e
  have hAz : ∀ a, zA (ad, G.2) a → s.heap.size ≤ a := by
    rintro a ⟨q, h1, rfl⟩
    exact hD.2 q _ (hget q h1)
  have hNz : ∀ a : Nat, a < s.heap.size → ¬ zA (ad, G.2) a := fun a h1 h2 => Nat.lt_irrefl _ (Nat.lt_of_lt_of_le h1 (hAz a h2))
  have hN : zNk s := by
    intro w hw
    simp only [zNW, List.mem_cons, List.not_mem_nil, or_false] at hw
    rcases hw with rfl | rfl | rfl | rfl
    · exact va_Nw.of rfl (hts _ (List.mem_of_getElem? (i := 228) (by decide +kernel)))
    · exact va_Nw.of rfl (hts _ (List.mem_of_getElem? (i := 266) (by decide +kernel)))
    · exact va_Nw.of rfl (hts _ (List.mem_of_getElem? (i := 296) (by decide +kernel)))
    · exact va_Nw.of rfl (hts _ (List.mem_of_getElem? (i := 539) (by decide +kernel)))
  have hE : zEx (ad, G.2) s := by
    refine ⟨fun q hq => ?_, fun w hw => ?_, fun q hq => ?_, ?_, ?_⟩
    · simp only [zXS, List.mem_cons, List.not_mem_nil, or_false] at hq
      rcases hq with rfl | rfl | rfl | rfl | rfl | rfl
      · exact zXstr (hts _ (List.mem_of_getElem? (i := 682) (by decide +kernel))) (hs _ (by decide +kernel))
      · exact zXstr (hts _ (List.mem_of_getElem? (i := 717) (by decide +kernel))) (hs _ (by decide +kernel))
      · exact zXstr (hts _ (List.mem_of_getElem? (i := 732) (by decide +kernel))) (hs _ (by decide +kernel))
      · exact zXstr (hts _ (List.mem_of_getElem? (i := 748) (by decide +kernel))) (hs _ (by decide +kernel))
      · exact zXstr (hts _ (List.mem_of_getElem? (i := 749) (by decide +kernel))) (hs _ (by decide +kernel))
      · exact zXstr (hts _ (List.mem_of_getElem? (i := 750) (by decide +kernel))) (hs _ (by decide +kernel))
    · have ho := zXC_tab w hw
      simp only [zXC, List.mem_cons, List.not_mem_nil, or_false] at hw
      rcases hw with rfl | rfl | rfl | rfl | rfl | rfl
      · exact va_Nw.of ho (hts _ (List.mem_of_getElem? (i := 645) (by decide +kernel)))
      · exact va_Nw.of ho (hts _ (List.mem_of_getElem? (i := 647) (by decide +kernel)))
      · exact va_Nw.of ho (hts _ (List.mem_of_getElem? (i := 649) (by decide +kernel)))
      · exact va_Nw.of ho (hts _ (List.mem_of_getElem? (i := 643) (by decide +kernel)))
      · exact va_Nw.of ho (hts _ (List.mem_of_getElem? (i := 710) (by decide +kernel)))
      · exact va_Nw.of ho (hts _ (List.mem_of_getElem? (i := 725) (by decide +kernel)))
    · simp only [zXN, List.mem_cons, List.not_mem_nil, or_false] at hq
      rcases hq with rfl | rfl | rfl | rfl <;> exact va_Nc.of (hs _ (by decide +kernel))
    · exact vx_Zqof (hts _ (List.mem_of_getElem? (i := 668) (by decide +kernel))) (hts _ (List.mem_of_getElem? (i := 57) (by decide +kernel))) (hs _ (by decide +kernel)) hNz
    · exact vx_Zqof (hts _ (List.mem_of_getElem? (i := 670) (by decide +kernel))) (hts _ (List.mem_of_getElem? (i := 57) (by decide +kernel))) (hs _ (by decide +kernel)) hNz
  have C2 : zCx p room_1 s m #[Value.ref b] c mL_law (ad, G.2) D (fun q => s.heap.size ≤ q) s.heap (some (L, fun n => (xs n).toInt)) :=
    ⟨hx, hb, hml, hown, htsT, fun _ => rfl, hK, fun σ => zD_of hi _ hAz σ, xs, by rw [h52]; exact hX, by rw [h52]; exact hbl, by rw [h52]; exact Nat.not_le.mpr hbl, fun i _ => zI_back _⟩
  exact law_loop C2 hN hE hi hAz hl hL hlocks hr 512 0 zσ0 ls H _ _ _ (by omega) (by decide) zSys0 ⟨hlv, hP, hS⟩ (Nat.le_of_ble_eq_true rfl) (Nat.le_of_ble_eq_true rfl)
