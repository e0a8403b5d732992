/-! WAY: equal states -/
theorem nbl_all {s s' : Int64} (h : ∀ j, j < 16 → nbl s j = nbl s' j) : s = s' := by
  refine Int64.toBitVec_inj.mp (BitVec.eq_of_getLsbD_eq fun i hi => ?_)
  have hj := congrArg (fun z => z.testBit (i % 4)) (h (i / 4) (by omega))
  rw [nbl_bit, nbl_bit, show 4 * (i / 4) + i % 4 = i by omega, decide_eq_true (show i % 4 < 4 by omega), Bool.true_and, Bool.true_and] at hj
  exact hj
theorem WF_same {E l d bt : Nat} {s s' : Int64} (hl : l ≤ 8) (hd : d ≤ 8) (h : WFs E l d s) (h' : WFs E l d s') (ha : ∀ j, j < 8 + d → av l bt s j = av l bt s' j) : s = s' := by
  refine nbl_all fun j hj => ?_
  have h1 := h j hj
  have h2 := h' j hj
  by_cases e : j < l ∨ (8 ≤ j ∧ j < 8 + d)
  · have h3 := ha j (by omega)
    unfold av at h3
    by_cases e2 : l ≤ j ∧ j < 8
    · omega
    · rw [if_neg e2, if_neg e2] at h3
      exact h3
  · rw [if_neg e] at h1 h2
    rw [h1, h2]
