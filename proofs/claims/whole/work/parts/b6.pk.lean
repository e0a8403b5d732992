/-! VALUES with marks, as bits -/
theorem t32_bit {x : Int64} {i : Nat} (h : i < 32) : x.toInt32.toBitVec.getLsbD i = x.toBitVec.getLsbD i := by
  rw [Int64.toBitVec_toInt32, BitVec.getLsbD_signExtend, decide_eq_true h, Bool.true_and, if_pos (by omega)]
theorem t64_bit {v : Int32} {i : Nat} (h : i < 32) : v.toInt64.toBitVec.getLsbD i = v.toBitVec.getLsbD i := by
  rw [Int32.toBitVec_toInt64, BitVec.getLsbD_signExtend, decide_eq_true (by omega), Bool.true_and, if_pos h]
theorem m32_bit {i : Nat} (h : i < 64) : (4294967295 : Int64).toBitVec.getLsbD i = decide (i < 32) := by
  have : ∀ q : Fin 64, (4294967295 : Int64).toBitVec.getLsbD q.1 = decide (q.1 < 32) := by decide +kernel
  exact this ⟨i, h⟩
theorem t32_ext {x y : Int64} (h : ∀ j, j < 8 → nbl x j = nbl y j) : x.toInt32 = y.toInt32 := by
  refine Int32.toBitVec_inj.mp (BitVec.eq_of_getLsbD_eq fun i hi => ?_)
  rw [t32_bit hi, t32_bit hi]
  have hj := congrArg (fun z => z.testBit (i % 4)) (h (i / 4) (by omega))
  rw [nbl_bit, nbl_bit, show 4 * (i / 4) + i % 4 = i by omega, decide_eq_true (show i % 4 < 4 by omega), Bool.true_and, Bool.true_and] at hj
  exact hj
theorem low0 {b : Int64} (h : b.toInt32 = 0) {i : Nat} (hi : i < 32) : b.toBitVec.getLsbD i = false := by
  rw [← t32_bit hi, h]
  have : ∀ q : Fin 32, (0 : Int32).toBitVec.getLsbD q.1 = false := by decide +kernel
  exact this ⟨i, hi⟩
/-- a value and marks put together -/
def pkV (v : Int32) (b : Int64) : Int64 := (v.toInt64 &&& 4294967295) ||| b
theorem pkV_bit {v : Int32} {b : Int64} {i : Nat} (hi : i < 64) : (pkV v b).toBitVec.getLsbD i = ((decide (i < 32) && v.toBitVec.getLsbD i) || b.toBitVec.getLsbD i) := by
  unfold pkV
  rw [Int64.toBitVec_or, Int64.toBitVec_and, BitVec.getLsbD_or, BitVec.getLsbD_and, m32_bit hi]
  by_cases e : i < 32
  · rw [t64_bit e, decide_eq_true e, Bool.and_true, Bool.true_and]
  · rw [decide_eq_false e, Bool.and_false, Bool.false_and]
theorem pkV_32 {v : Int32} {b : Int64} (h : b.toInt32 = 0) : (pkV v b).toInt32 = v := by
  refine Int32.toBitVec_inj.mp (BitVec.eq_of_getLsbD_eq fun i hi => ?_)
  rw [t32_bit hi, pkV_bit (by omega), decide_eq_true hi, Bool.true_and, low0 h hi, Bool.or_false]
theorem nbl_cg {x y : Int64} {j k : Nat} (h : ∀ r, r < 4 → x.toBitVec.getLsbD (4 * j + r) = y.toBitVec.getLsbD (4 * k + r)) : nbl x j = nbl y k := by
  apply Nat.eq_of_testBit_eq
  intro r
  rw [nbl_bit, nbl_bit]
  by_cases e : r < 4
  · rw [h r e]
  · rw [decide_eq_false e, Bool.false_and, Bool.false_and]
theorem pkV_nb {v : Int32} {b : Int64} {o : Nat} (ho : o < 8) : nbl (pkV v b) (8 + o) = nbl b (8 + o) := nbl_cg fun r hr => by
  rw [pkV_bit (by omega), decide_eq_false (by omega), Bool.false_and, Bool.false_or]
theorem shl_32 {x : Int64} {o : Nat} (ho : o < 8) : (x <<< ((32 : Int32).toInt64 &&& 63)).toInt32 = 0 ∧ nbl (x <<< ((32 : Int32).toInt64 &&& 63)) (8 + o) = nbl x o := by
  have hb : ∀ i, i < 64 → (x <<< ((32 : Int32).toInt64 &&& 63)).toBitVec.getLsbD i = (!decide (i < 32) && x.toBitVec.getLsbD (i - 32)) := by
    intro i hi
    rw [Int64.toBitVec_shiftLeft]
    have hs : ((32 : Int32).toInt64 &&& 63).toBitVec.smod 64 = 32#64 := by decide +kernel
    rw [hs, BitVec.shiftLeft_eq', BitVec.getLsbD_shiftLeft]
    rw [decide_eq_true hi, Bool.true_and]
    rfl
  constructor
  · refine Int32.toBitVec_inj.mp (BitVec.eq_of_getLsbD_eq fun i hi => ?_)
    rw [t32_bit hi, hb i (by omega), decide_eq_true hi]
    have : ∀ q : Fin 32, (0 : Int32).toBitVec.getLsbD q.1 = false := by decide +kernel
    rw [this ⟨i, hi⟩]
    rfl
  · refine nbl_cg fun r hr => ?_
    rw [hb _ (by omega), decide_eq_false (by omega), show 4 * (8 + o) + r - 32 = 4 * o + r by omega]
    rfl
theorem wn_32 {x : Int64} {k v : Nat} (hk : 8 ≤ k) (hk2 : k < 16) (hv : v < 16) : (wn x k v).toInt32 = x.toInt32 := t32_ext fun j hj => by
  rw [nbl_wn (by omega) hv (by omega), if_neg (by omega)]
theorem z_32 : (0 : Int64).toInt32 = 0 := by decide
