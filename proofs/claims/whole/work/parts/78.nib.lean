/-! SIXTEEN SMALL NUMBERS in a long -/
def nbl (s : Int64) (k : Nat) : Nat := s.toBitVec.toNat / 2 ^ (4 * k) % 2 ^ 4
def wn (s : Int64) (k e : Nat) : Int64 := (s &&& ((15 <<< Int64.ofNat (4 * k)) ^^^ (-1))) ||| (Int64.ofNat e <<< Int64.ofNat (4 * k))
theorem nbl_lt (s : Int64) (k : Nat) : nbl s k < 16 := Nat.mod_lt _ (by decide)
theorem nbl_bit {s : Int64} {k i : Nat} : (nbl s k).testBit i = (decide (i < 4) && s.toBitVec.getLsbD (4 * k + i)) := by
  unfold nbl
  rw [Nat.testBit_mod_two_pow, Nat.testBit_div_two_pow, Nat.add_comm i]
  rfl
theorem nb_ext {s t : Int64} (h : ∀ k, k < 16 → nbl s k = nbl t k) : s = t := by
  refine Int64.toBitVec_inj.mp (BitVec.eq_of_getLsbD_eq fun i hi => ?_)
  have h1 := congrArg (fun z => z.testBit (i % 4)) (h (i / 4) (by omega))
  simp only [nbl_bit] at h1
  rw [show 4 * (i / 4) + i % 4 = i by omega, decide_eq_true (show i % 4 < 4 by omega)] at h1
  exact h1
theorem wn_m : ∀ k : Fin 16, ∀ i : Fin 64, ((15 <<< Int64.ofNat (4 * k.1)) ^^^ (-1) : Int64).toBitVec.getLsbD i.1 = !(decide (4 * k.1 ≤ i.1) && decide (i.1 < 4 * k.1 + 4)) := by decide +kernel
theorem wn_e : ∀ e k : Fin 16, ∀ i : Fin 64, (Int64.ofNat e.1 <<< Int64.ofNat (4 * k.1) : Int64).toBitVec.getLsbD i.1 = (decide (4 * k.1 ≤ i.1) && decide (i.1 < 4 * k.1 + 4) && e.1.testBit (i.1 - 4 * k.1)) := by decide +kernel
theorem wn_bit {s : Int64} {k e i : Nat} (hk : k < 16) (he : e < 16) (hi : i < 64) : (wn s k e).toBitVec.getLsbD i = if 4 * k ≤ i ∧ i < 4 * k + 4 then e.testBit (i - 4 * k) else s.toBitVec.getLsbD i := by
  unfold wn
  rw [Int64.toBitVec_or, Int64.toBitVec_and, BitVec.getLsbD_or, BitVec.getLsbD_and, wn_m ⟨k, hk⟩ ⟨i, hi⟩, wn_e ⟨e, he⟩ ⟨k, hk⟩ ⟨i, hi⟩]
  by_cases h : 4 * k ≤ i ∧ i < 4 * k + 4
  · rw [if_pos h, decide_eq_true h.1, decide_eq_true h.2]
    simp
  · rw [if_neg h]
    have : (decide (4 * k ≤ i) && decide (i < 4 * k + 4)) = false := by
      rw [Bool.and_eq_false_iff]
      by_cases h1 : 4 * k ≤ i
      · exact Or.inr (decide_eq_false (fun z => h ⟨h1, z⟩))
      · exact Or.inl (decide_eq_false h1)
    simp only [this]
    simp
theorem nbl_wn {s : Int64} {k e j : Nat} (hk : k < 16) (he : e < 16) (hj : j < 16) : nbl (wn s k e) j = if j = k then e else nbl s j := by
  refine Nat.eq_of_testBit_eq fun i => ?_
  rw [nbl_bit]
  by_cases h4 : i < 4
  · rw [decide_eq_true h4, wn_bit hk he (by omega)]
    by_cases h : j = k
    · subst h
      rw [if_pos ⟨by omega, by omega⟩, if_pos rfl, Nat.add_sub_cancel_left]
      rfl
    · rw [if_neg (by omega), if_neg h, nbl_bit, decide_eq_true h4]
  · rw [decide_eq_false h4, Bool.false_and]
    by_cases h : j = k
    · rw [if_pos h]
      exact (Nat.testBit_lt_two_pow (Nat.lt_of_lt_of_le he (Nat.pow_le_pow_right (n := 2) (by decide) (show 4 ≤ i by omega)))).symm
    · rw [if_neg h, nbl_bit, decide_eq_false h4, Bool.false_and]
theorem e355 {n k : Nat} {s : Int64} (hk : k < 16) : d_355 n s (nI k) = some (nI (nbl s k)) := by
  have hs : ∀ q : Fin 16, (((4 * nI q.1) : Int32).toInt64.toUInt64 &&& Int64.toUInt64 63) = UInt64.ofNat (4 * q.1) := by decide +kernel
  have hs' := hs ⟨k, hk⟩
  unfold d_355
  rw [hs', pk_and _ 4 (by decide)]
  unfold nbl
  refine congrArg (fun z => some (nI z)) ?_
  have h1 : ((s.toUInt64 >>> UInt64.ofNat (4 * k)).toInt64.toInt32).toBitVec.toNat = s.toBitVec.toNat / 2 ^ (4 * k) % 2 ^ 32 := by
    rw [Int64.toBitVec_toInt32, BitVec.signExtend_eq_setWidth_of_le _ (by decide), BitVec.toNat_setWidth]
    congr 1
    show (s.toUInt64 >>> UInt64.ofNat (4 * k)).toBitVec.toNat = _
    rw [UInt64.toBitVec_shiftRight, BitVec.ushiftRight_eq', BitVec.toNat_ushiftRight, Nat.shiftRight_eq_div_pow]
    congr 2
    have h2 : ∀ q : Fin 16, ((UInt64.ofNat (4 * q.1)).toBitVec % 64).toNat = 4 * q.1 := by decide +kernel
    exact h2 ⟨k, hk⟩
  rw [h1]
  omega
theorem e356 {n k e : Nat} {s : Int64} (hk : k < 16) (he : e < 16) : d_356 n s (nI k) (nI e) = some (wn s k e) := by
  have h1 : ∀ q : Fin 16, (((4 * nI q.1) : Int32).toInt64 &&& 63) = Int64.ofNat (4 * q.1) := by decide +kernel
  have h2 : ∀ q : Fin 16, (nI q.1).toInt64 = Int64.ofNat q.1 := by decide +kernel
  unfold d_356 wn
  rw [h1 ⟨k, hk⟩, h2 ⟨e, he⟩]
