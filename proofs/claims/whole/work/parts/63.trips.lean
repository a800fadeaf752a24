theorem zand_nn (x : Int) : 0 ≤ zand x 2147483647 ∧ zand x 2147483647 < 2147483648 := by
  refine ⟨?_, Int32.toInt_lt _⟩
  have h : ((Int32.ofInt x &&& Int32.ofInt 2147483647).toBitVec).msb = false := by
    rw [Int32.toBitVec_and, BitVec.msb_and]
    have e : (Int32.ofInt 2147483647).toBitVec.msb = false := by decide
    rw [e, Bool.and_false]
  rw [BitVec.msb_eq_toInt] at h
  have h2 := of_decide_eq_false h
  show 0 ≤ ((Int32.ofInt x &&& Int32.ofInt 2147483647).toBitVec).toInt
  omega
def mseed (x : Int) : Int := x * 1103515245 + 12345
def mdr (x : Int) : Int := (nrm (zand x 2147483647)).tdiv 65536
theorem mdr_rng (x : Int) : 0 ≤ mdr x ∧ mdr x < 32768 := by
  have h := zand_nn x
  unfold mdr
  rw [nrm_id (by omega) (by omega), Int.tdiv_eq_ediv_of_nonneg h.1]
  omega
/-- the seed after so many draws -/
def msq (x : Int) : Nat → Int
  | 0 => x
  | n + 1 => mseed (msq x n)
def mtripK (K : zK) (x : Int) (i : Nat) : zK := (K.1, (mdr (mseed x)).tmod 24, K.2.2.1, K.2.2.2.1, fun _ => 0, fun r => if r < i ∧ (mdr (msq (mseed x) (r + 1))).tmod 5 = 0 then 1 else 0)
theorem tmod_rng {x m : Int} (h : 0 ≤ x) (hm : 0 < m) : 0 ≤ x.tmod m ∧ x.tmod m < m := by
  rw [Int.tmod_eq_emod_of_nonneg h]
  exact ⟨Int.emod_nonneg _ (by omega), Int.emod_lt_of_pos _ hm⟩
theorem mtripK_ok {K : zK} (hO : mOk K) (x : Int) {i : Nat} (hi : i ≤ K.1) : mOk (mtripK K x i) := by
  have h24 := tmod_rng (mdr_rng (mseed x)).1 (show (0 : Int) < 24 by decide)
  refine ⟨hO.1, ⟨h24.1, (by have := h24.2; show (mdr (mseed x)).tmod 24 ≤ 23; omega)⟩, hO.2.2.1, hO.2.2.2.1, fun r _ => ⟨Int.le_refl _, (by decide : (0 : Int) ≤ 10)⟩, fun r hr => ⟨?_, fun e => ?_, fun _ => rfl⟩⟩
  · show (if r < i ∧ (mdr (msq (mseed x) (r + 1))).tmod 5 = 0 then (1 : Int) else 0) = 0 ∨ (if r < i ∧ (mdr (msq (mseed x) (r + 1))).tmod 5 = 0 then (1 : Int) else 0) = 1
    split
    · exact Or.inr rfl
    · exact Or.inl rfl
  · show (if r < i ∧ (mdr (msq (mseed x) (r + 1))).tmod 5 = 0 then (1 : Int) else 0) = 0
    have e : K.1 ≤ r := e
    rw [if_neg (fun z => by have := z.1; omega)]
