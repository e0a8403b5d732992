/-! WAY: equal states -/
theorem nbl_all {s s' : Int64} (h : ∀ j, j < 16 → nbl s j = nbl s' j) : s = s' := by
  refine Int64.toBitVec_inj.mp (BitVec.eq_of_getLsbD_eq fun i hi => ?_)
  have hj := congrArg (fun z => z.testBit (i % 4)) (h (i / 4) (by omega))
  rw [nbl_bit, nbl_bit, show 4 * (i / 4) + i % 4 = i by omega, decide_eq_true (show i % 4 < 4 by omega), Bool.true_and, Bool.true_and] at hj
  exact hj
theorem WF_same {E l d bt : Nat} {s s' : Int64} (hl : l ≤ 8) (hd : d ≤ 8) (h : WFs E l d s) (h' : WFs E l d s') (ha : ∀ j, j < 8 + d → av l bt s j = av l bt s' j) : s = s' := by
  refine nbl_all fun j hj => ?_
  have h1 := h j hj
  have h2 := h' j hj
  by_cases e : j < l ∨ (8 ≤ j ∧ j < 8 + d)
  · have h3 := ha j (by omega)
    unfold av at h3
    by_cases e2 : l ≤ j ∧ j < 8
    · omega
    · rw [if_neg e2, if_neg e2] at h3
      exact h3
  · rw [if_neg e] at h1 h2
    rw [h1, h2]
/-- whether a situation shows the ERROR (M, i, k) -/
theorem e215 {n o M i k a : Nat} {s : Int64} {c m u : cS} (h : FC c m u o) (hM : isMt m M) (hi : i < acn m M) (hk : k < wnt m (40 * M + i)) (h13 : c.1 150 13 = nI (M * 160 + i * 4 + k)) (ha : a < 40) (hs : a = i → RCH m M i ∧ WFs (eln m o) (lcn m M) (dpn m (40 * M + i)) s) : d_215 n (nI a) s c = some (if a = i ∧ mBb m o (nbl s (wts m (40 * M + i) k)) (TM m c (wtp m M (40 * M + i) k) o) = false then nI 1 else nI 0) := by
  have hX := FC_X h hM
  have hM96 := isMt_lt hX.2.1 hM
  have hn40 := (FX_L hX).2.2.1
  have hw4 := wnt_le hX.2.1 (MTS_ac hX.2.2.1 hM hi).2.2.2.2.2.2.1
  have hmt := (hX.2.2.1.2.1 M hM).1
  have h119 := hmt.2.2.2.2.2.2.2.1
  generalize hz : M * 160 + i * 4 + k = z at h13
  have v3 : nI z / 160 = nI M := by
    rw [show nI z / 160 = nI (z / 160) from dvT (by omega) (by decide) (by decide)]
    exact congrArg nI (by omega)
  have v7 : (nI z - nI z / 160 * 160) / 4 = nI i := by
    rw [show nI z - nI z / 160 * 160 = nI (z % 160) from pk_rem (d := 160) (by omega) (by decide) (by decide), show nI (z % 160) / 4 = nI (z % 160 / 4) from dvT (by omega) (by decide) (by decide)]
    exact congrArg nI (by omega)
  have v11 : nI z - nI z / 4 * 4 = nI k := by
    rw [show nI z - nI z / 4 * 4 = nI (z % 4) from pk_rem (d := 4) (by omega) (by decide) (by decide)]
    exact congrArg nI (by omega)
  refine eq_wp ?_
  unfold d_215
  rw [h13, v7, v11, v3]
  refine wpl (wpj ?_)
  by_cases e : a = i
  · subst e
    obtain ⟨r1, r2⟩ := hs rfl
    refine wpt rfl (wpj (wpj (wpf (by decide) (wpt (by simp (disch := first | omega | decide) only [↓neg1, nlit, rI, rL, rI2, rL1, nI_add, pk_mul, sbT, dvT, nmd, ixT, ↓ibT, ltT, ltF, leT, leF, eqT, eqF, nM_ltT, nM_ltF, nM_leT, nM_leF, nM_eqF, nM_eqF', nbT0, nbT1, oI_s, oI_n, natF, natT, nltT, nltF, nleT, nleF, ↓reduceIte, lgc, not_true_eq_false, not_false_eq_true, or_false, false_or, or_true, true_or, and_true, true_and, and_false, false_and, ne_eq, eq_self, or_self, and_self]) ?_))))
    rw [ix_n (by omega), h119, nI_add]
    refine wpe (e206 h hM hi r1 r2 rfl hk) ?_
    by_cases eb : mBb m o (nbl s (wts m (40 * M + a) k)) (TM m c (wtp m M (40 * M + a) k) o) = true
    · rw [if_pos eb]
      refine wpt rfl (wpt (by decide) ?_)
      show (0 : Int32) = _
      rw [if_neg (fun z => by rw [eb] at z; cases z.2)]
      rfl
    · rw [if_neg eb]
      refine wpf (by decide) (wpt (by decide) ?_)
      show (1 : Int32) = _
      rw [if_pos ⟨rfl, Bool.not_eq_true _ ▸ eb⟩]
      rfl
  · refine wpf (by simp (disch := first | omega | decide) only [↓neg1, nlit, rI, rL, rI2, rL1, nI_add, pk_mul, sbT, dvT, nmd, ixT, ↓ibT, ltT, ltF, leT, leF, eqT, eqF, nM_ltT, nM_ltF, nM_leT, nM_leF, nM_eqF, nM_eqF', nbT0, nbT1, oI_s, oI_n, natF, natT, nltT, nltF, nleT, nleF, ↓reduceIte, lgc, not_true_eq_false, not_false_eq_true, or_false, false_or, or_true, true_or, and_true, true_and, and_false, false_and, ne_eq, eq_self, or_self, and_self, e]) (wpj (wpj (wpt rfl (wpt (by decide) ?_))))
    show (0 : Int32) = _
    rw [if_neg (fun z => e z.1)]
    rfl
