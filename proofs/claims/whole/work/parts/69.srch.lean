/-! SEARCHES for NAMES -/
theorem OOS_at {c m : cS} {o : Nat} (h : OOS c m) (ho : o < ocn m) : RO o (eln m o) c m := by
  obtain ⟨-, -, -, h4⟩ := h
  obtain ⟨N, hr⟩ := h4 o ho
  have e : eln m o = N := by
    unfold eln
    rw [hr.1.2.1, ix_n (by have := hr.1.1.2; omega)]
  rw [e]
  exact hr
theorem OOS_el {c m : cS} {o : Nat} (h : OOS c m) (ho : o < ocn m) : 1 ≤ eln m o ∧ eln m o ≤ 12 ∧ m.1 182 o = nI (eln m o) ∧ c.1 (oA o) 1 = nI (eln m o) := by
  have hr := OOS_at h ho
  exact ⟨hr.1.1.1, hr.1.1.2, hr.1.2.1, hr.2.1⟩
theorem elim_oI {o : Option Nat} : (o.elim (Sum.inl ()) (fun k => Sum.inr (nI k)) : Unit ⊕ Int32) = (match o with | some k => Sum.inr (nI k) | none => Sum.inl ()) := by
  cases o <;> rfl
theorem e372 {n : Nat} {v : Int64} {c m u : cS} (hn : 100 ≤ n) (hA : AG m u) (h : OOS c m) : d_372 n v u = some (oI (oOf m v)) := by
  obtain ⟨h1, -, h3, -⟩ := h
  unfold d_372
  refine bwf (fun k => nI k) (Sum.inl ()) (fun k => Sum.inr (nI k)) (fun k => decide (m.2 181 k = v)) (cnt := ocn m) (by omega) rfl ?_ (fun j hj => ?_) ?_
  · simp (disch := first | omega | exact (rfl : _ = true)) only [↓neg1, nlit, rI, rL, rI2, rL1, nI_add, pk_mul, sbT, dvT, nmd, ixT, ↓ibT, ltT, ltF, leT, leF, eqT, eqF, nM_ltT, nM_ltF, nM_leT, nM_leF, nM_eqF, nM_eqF', lgc, not_true_eq_false, not_false_eq_true, or_false, false_or, or_true, true_or, and_true, true_and, and_false, false_and, ne_eq, eq_self, or_self, and_self, not_not, hA.1, hA.2.1, hA.2.2.1, h3]
  · by_cases hv : m.2 181 j = v
    · simp (disch := first | omega | exact (rfl : _ = true)) only [↓neg1, nlit, rI, rL, rI2, rL1, nI_add, pk_mul, sbT, dvT, nmd, ixT, ↓ibT, ltT, ltF, leT, leF, eqT, eqF, nM_ltT, nM_ltF, nM_leT, nM_leF, nM_eqF, nM_eqF', lgc, not_true_eq_false, not_false_eq_true, or_false, false_or, or_true, true_or, and_true, true_and, and_false, false_and, ne_eq, eq_self, or_self, and_self, not_not, hA.1, hA.2.1, hA.2.2.1, h3, ↓lt, hv, decide_true, ↓reduceIte]
    · simp (disch := first | omega | exact (rfl : _ = true)) only [↓neg1, nlit, rI, rL, rI2, rL1, nI_add, pk_mul, sbT, dvT, nmd, ixT, ↓ibT, ltT, ltF, leT, leF, eqT, eqF, nM_ltT, nM_ltF, nM_leT, nM_leF, nM_eqF, nM_eqF', lgc, not_true_eq_false, not_false_eq_true, or_false, false_or, or_true, true_or, and_true, true_and, and_false, false_and, ne_eq, eq_self, or_self, and_self, not_not, hA.1, hA.2.1, hA.2.2.1, h3, ↓lt, hv, decide_false, ↓reduceIte, Bool.false_eq_true]
  · unfold oOf
    cases ff _ _ <;> rfl
theorem e247 {n : Nat} {v : Int64} {c m : cS} (hn : 100 ≤ n) (h : OOS c m) : d_247 n v c = some (oI (oOf m v)) := by
  have h5 : ∀ o, o < ocn m → c.2 (oA o) 0 = m.2 181 o := fun o ho => (OOS_at h ho).2.2.1
  obtain ⟨h1, h2, -, -⟩ := h
  unfold d_247
  refine bwf (fun k => nI k) (Sum.inl ()) (fun k => Sum.inr (nI k)) (fun k => decide (m.2 181 k = v)) (cnt := ocn m) (by omega) rfl ?_ (fun j hj => ?_) ?_
  · simp (disch := first | omega | exact (rfl : _ = true)) only [↓neg1, nlit, rI, rL, rI2, rL1, nI_add, pk_mul, sbT, dvT, nmd, ixT, ↓ibT, ltT, ltF, leT, leF, eqT, eqF, nM_ltT, nM_ltF, nM_leT, nM_leF, nM_eqF, nM_eqF', lgc, not_true_eq_false, not_false_eq_true, or_false, false_or, or_true, true_or, and_true, true_and, and_false, false_and, ne_eq, eq_self, or_self, and_self, not_not, h2, h5]
  · by_cases hv : m.2 181 j = v
    · simp (disch := first | omega | exact (rfl : _ = true)) only [↓neg1, nlit, rI, rL, rI2, rL1, nI_add, pk_mul, sbT, dvT, nmd, ixT, ↓ibT, ltT, ltF, leT, leF, eqT, eqF, nM_ltT, nM_ltF, nM_leT, nM_leF, nM_eqF, nM_eqF', lgc, not_true_eq_false, not_false_eq_true, or_false, false_or, or_true, true_or, and_true, true_and, and_false, false_and, ne_eq, eq_self, or_self, and_self, not_not, h2, h5, ↓lt, hv, decide_true, ↓reduceIte]
    · simp (disch := first | omega | exact (rfl : _ = true)) only [↓neg1, nlit, rI, rL, rI2, rL1, nI_add, pk_mul, sbT, dvT, nmd, ixT, ↓ibT, ltT, ltF, leT, leF, eqT, eqF, nM_ltT, nM_ltF, nM_leT, nM_leF, nM_eqF, nM_eqF', lgc, not_true_eq_false, not_false_eq_true, or_false, false_or, or_true, true_or, and_true, true_and, and_false, false_and, ne_eq, eq_self, or_self, and_self, not_not, h2, h5, ↓lt, hv, decide_false, ↓reduceIte, Bool.false_eq_true]
  · unfold oOf
    cases ff _ _ <;> rfl
theorem e373 {n : Nat} {v : Int64} {m u : cS} (hn : 100 ≤ n) (hA : AG m u) (h1 : kcn m ≤ 12) (h3 : m.1 174 24 = nI (kcn m)) : d_373 n v u = some (oI (kOf m v)) := by
  unfold d_373
  refine bwf (fun k => nI k) (Sum.inl ()) (fun k => Sum.inr (nI k)) (fun k => decide (m.2 189 k = v)) (cnt := kcn m) (by omega) rfl ?_ (fun j hj => ?_) ?_
  · simp (disch := first | omega | exact (rfl : _ = true)) only [↓neg1, nlit, rI, rL, rI2, rL1, nI_add, pk_mul, sbT, dvT, nmd, ixT, ↓ibT, ltT, ltF, leT, leF, eqT, eqF, nM_ltT, nM_ltF, nM_leT, nM_leF, nM_eqF, nM_eqF', lgc, not_true_eq_false, not_false_eq_true, or_false, false_or, or_true, true_or, and_true, true_and, and_false, false_and, ne_eq, eq_self, or_self, and_self, not_not, hA.1, hA.2.1, hA.2.2.1, h3]
  · by_cases hv : m.2 189 j = v
    · simp (disch := first | omega | exact (rfl : _ = true)) only [↓neg1, nlit, rI, rL, rI2, rL1, nI_add, pk_mul, sbT, dvT, nmd, ixT, ↓ibT, ltT, ltF, leT, leF, eqT, eqF, nM_ltT, nM_ltF, nM_leT, nM_leF, nM_eqF, nM_eqF', lgc, not_true_eq_false, not_false_eq_true, or_false, false_or, or_true, true_or, and_true, true_and, and_false, false_and, ne_eq, eq_self, or_self, and_self, not_not, hA.1, hA.2.1, hA.2.2.1, h3, ↓lt, hv, decide_true, ↓reduceIte]
    · simp (disch := first | omega | exact (rfl : _ = true)) only [↓neg1, nlit, rI, rL, rI2, rL1, nI_add, pk_mul, sbT, dvT, nmd, ixT, ↓ibT, ltT, ltF, leT, leF, eqT, eqF, nM_ltT, nM_ltF, nM_leT, nM_leF, nM_eqF, nM_eqF', lgc, not_true_eq_false, not_false_eq_true, or_false, false_or, or_true, true_or, and_true, true_and, and_false, false_and, ne_eq, eq_self, or_self, and_self, not_not, hA.1, hA.2.1, hA.2.2.1, h3, ↓lt, hv, decide_false, ↓reduceIte, Bool.false_eq_true]
  · unfold kOf
    cases ff _ _ <;> rfl
theorem e248 {n : Nat} {v : Int64} {c m : cS} (hn : 100 ≤ n) (h1 : kcn m ≤ 12) (h3 : c.1 7 4 = nI (kcn m)) (h5 : ∀ k, k < kcn m → c.2 (kA k) 0 = m.2 189 k) : d_248 n v c = some (oI (kOf m v)) := by
  unfold d_248
  refine bwf (fun k => nI k) (Sum.inl ()) (fun k => Sum.inr (nI k)) (fun k => decide (m.2 189 k = v)) (cnt := kcn m) (by omega) rfl ?_ (fun j hj => ?_) ?_
  · simp (disch := first | omega | exact (rfl : _ = true)) only [↓neg1, nlit, rI, rL, rI2, rL1, nI_add, pk_mul, sbT, dvT, nmd, ixT, ↓ibT, ltT, ltF, leT, leF, eqT, eqF, nM_ltT, nM_ltF, nM_leT, nM_leF, nM_eqF, nM_eqF', lgc, not_true_eq_false, not_false_eq_true, or_false, false_or, or_true, true_or, and_true, true_and, and_false, false_and, ne_eq, eq_self, or_self, and_self, not_not, h3, h5]
  · by_cases hv : m.2 189 j = v
    · simp (disch := first | omega | exact (rfl : _ = true)) only [↓neg1, nlit, rI, rL, rI2, rL1, nI_add, pk_mul, sbT, dvT, nmd, ixT, ↓ibT, ltT, ltF, leT, leF, eqT, eqF, nM_ltT, nM_ltF, nM_leT, nM_leF, nM_eqF, nM_eqF', lgc, not_true_eq_false, not_false_eq_true, or_false, false_or, or_true, true_or, and_true, true_and, and_false, false_and, ne_eq, eq_self, or_self, and_self, not_not, h3, h5, ↓lt, hv, decide_true, ↓reduceIte]
    · simp (disch := first | omega | exact (rfl : _ = true)) only [↓neg1, nlit, rI, rL, rI2, rL1, nI_add, pk_mul, sbT, dvT, nmd, ixT, ↓ibT, ltT, ltF, leT, leF, eqT, eqF, nM_ltT, nM_ltF, nM_leT, nM_leF, nM_eqF, nM_eqF', lgc, not_true_eq_false, not_false_eq_true, or_false, false_or, or_true, true_or, and_true, true_and, and_false, false_and, ne_eq, eq_self, or_self, and_self, not_not, h3, h5, ↓lt, hv, decide_false, ↓reduceIte, Bool.false_eq_true]
  · unfold kOf
    cases ff _ _ <;> rfl
theorem e375 {n : Nat} {v : Int64} {m u : cS} (hn : 100 ≤ n) (hA : AG m u) (h1 : ccn m ≤ 12) (h3 : m.1 174 37 = nI (ccn m)) : d_375 n v u = some (oI (cOf m v)) := by
  unfold d_375
  refine bwf (fun k => nI k) (Sum.inl ()) (fun k => Sum.inr (nI k)) (fun k => decide (m.2 200 k = v)) (cnt := ccn m) (by omega) rfl ?_ (fun j hj => ?_) ?_
  · simp (disch := first | omega | exact (rfl : _ = true)) only [↓neg1, nlit, rI, rL, rI2, rL1, nI_add, pk_mul, sbT, dvT, nmd, ixT, ↓ibT, ltT, ltF, leT, leF, eqT, eqF, nM_ltT, nM_ltF, nM_leT, nM_leF, nM_eqF, nM_eqF', lgc, not_true_eq_false, not_false_eq_true, or_false, false_or, or_true, true_or, and_true, true_and, and_false, false_and, ne_eq, eq_self, or_self, and_self, not_not, hA.1, hA.2.1, hA.2.2.1, h3]
  · by_cases hv : m.2 200 j = v
    · simp (disch := first | omega | exact (rfl : _ = true)) only [↓neg1, nlit, rI, rL, rI2, rL1, nI_add, pk_mul, sbT, dvT, nmd, ixT, ↓ibT, ltT, ltF, leT, leF, eqT, eqF, nM_ltT, nM_ltF, nM_leT, nM_leF, nM_eqF, nM_eqF', lgc, not_true_eq_false, not_false_eq_true, or_false, false_or, or_true, true_or, and_true, true_and, and_false, false_and, ne_eq, eq_self, or_self, and_self, not_not, hA.1, hA.2.1, hA.2.2.1, h3, ↓lt, hv, decide_true, ↓reduceIte]
    · simp (disch := first | omega | exact (rfl : _ = true)) only [↓neg1, nlit, rI, rL, rI2, rL1, nI_add, pk_mul, sbT, dvT, nmd, ixT, ↓ibT, ltT, ltF, leT, leF, eqT, eqF, nM_ltT, nM_ltF, nM_leT, nM_leF, nM_eqF, nM_eqF', lgc, not_true_eq_false, not_false_eq_true, or_false, false_or, or_true, true_or, and_true, true_and, and_false, false_and, ne_eq, eq_self, or_self, and_self, not_not, hA.1, hA.2.1, hA.2.2.1, h3, ↓lt, hv, decide_false, ↓reduceIte, Bool.false_eq_true]
  · unfold cOf
    cases ff _ _ <;> rfl
theorem e249 {n : Nat} {v : Int64} {c m : cS} (hn : 100 ≤ n) (h1 : ccn m ≤ 12) (h3 : c.1 7 10 = nI (ccn m)) (h5 : ∀ k, k < ccn m → c.2 12 k = m.2 200 k) : d_249 n v c = some (oI (cOf m v)) := by
  unfold d_249
  refine bwf (fun k => nI k) (Sum.inl ()) (fun k => Sum.inr (nI k)) (fun k => decide (m.2 200 k = v)) (cnt := ccn m) (by omega) rfl ?_ (fun j hj => ?_) ?_
  · simp (disch := first | omega | exact (rfl : _ = true)) only [↓neg1, nlit, rI, rL, rI2, rL1, nI_add, pk_mul, sbT, dvT, nmd, ixT, ↓ibT, ltT, ltF, leT, leF, eqT, eqF, nM_ltT, nM_ltF, nM_leT, nM_leF, nM_eqF, nM_eqF', lgc, not_true_eq_false, not_false_eq_true, or_false, false_or, or_true, true_or, and_true, true_and, and_false, false_and, ne_eq, eq_self, or_self, and_self, not_not, h3, h5]
  · by_cases hv : m.2 200 j = v
    · simp (disch := first | omega | exact (rfl : _ = true)) only [↓neg1, nlit, rI, rL, rI2, rL1, nI_add, pk_mul, sbT, dvT, nmd, ixT, ↓ibT, ltT, ltF, leT, leF, eqT, eqF, nM_ltT, nM_ltF, nM_leT, nM_leF, nM_eqF, nM_eqF', lgc, not_true_eq_false, not_false_eq_true, or_false, false_or, or_true, true_or, and_true, true_and, and_false, false_and, ne_eq, eq_self, or_self, and_self, not_not, h3, h5, ↓lt, hv, decide_true, ↓reduceIte]
    · simp (disch := first | omega | exact (rfl : _ = true)) only [↓neg1, nlit, rI, rL, rI2, rL1, nI_add, pk_mul, sbT, dvT, nmd, ixT, ↓ibT, ltT, ltF, leT, leF, eqT, eqF, nM_ltT, nM_ltF, nM_leT, nM_leF, nM_eqF, nM_eqF', lgc, not_true_eq_false, not_false_eq_true, or_false, false_or, or_true, true_or, and_true, true_and, and_false, false_and, ne_eq, eq_self, or_self, and_self, not_not, h3, h5, ↓lt, hv, decide_false, ↓reduceIte, Bool.false_eq_true]
  · unfold cOf
    cases ff _ _ <;> rfl
theorem e377 {n : Nat} {o : Nat} {v : Int64} {m u : cS} (hn : 100 ≤ n) (hA : AG m u) (h0 : o < 4) (h1 : eln m o ≤ 12) (h3 : m.1 182 o = nI (eln m o)) : d_377 n (nI o) v u = some (oI (eOf m o v)) := by
  unfold d_377
  refine bwf (fun k => nI k) (Sum.inl ()) (fun k => Sum.inr (nI k)) (fun k => decide (m.2 183 (12 * o + k) = v)) (cnt := eln m o) (by omega) rfl ?_ (fun j hj => ?_) ?_
  · simp (disch := first | omega | exact (rfl : _ = true)) only [↓neg1, nlit, rI, rL, rI2, rL1, nI_add, pk_mul, sbT, dvT, nmd, ixT, ↓ibT, ltT, ltF, leT, leF, eqT, eqF, nM_ltT, nM_ltF, nM_leT, nM_leF, nM_eqF, nM_eqF', lgc, not_true_eq_false, not_false_eq_true, or_false, false_or, or_true, true_or, and_true, true_and, and_false, false_and, ne_eq, eq_self, or_self, and_self, not_not, hA.1, hA.2.1, hA.2.2.1, h3]
  · by_cases hv : m.2 183 (12 * o + j) = v
    · simp (disch := first | omega | exact (rfl : _ = true)) only [↓neg1, nlit, rI, rL, rI2, rL1, nI_add, pk_mul, sbT, dvT, nmd, ixT, ↓ibT, ltT, ltF, leT, leF, eqT, eqF, nM_ltT, nM_ltF, nM_leT, nM_leF, nM_eqF, nM_eqF', lgc, not_true_eq_false, not_false_eq_true, or_false, false_or, or_true, true_or, and_true, true_and, and_false, false_and, ne_eq, eq_self, or_self, and_self, not_not, hA.1, hA.2.1, hA.2.2.1, h3, ↓lt, hv, decide_true, ↓reduceIte]
    · simp (disch := first | omega | exact (rfl : _ = true)) only [↓neg1, nlit, rI, rL, rI2, rL1, nI_add, pk_mul, sbT, dvT, nmd, ixT, ↓ibT, ltT, ltF, leT, leF, eqT, eqF, nM_ltT, nM_ltF, nM_leT, nM_leF, nM_eqF, nM_eqF', lgc, not_true_eq_false, not_false_eq_true, or_false, false_or, or_true, true_or, and_true, true_and, and_false, false_and, ne_eq, eq_self, or_self, and_self, not_not, hA.1, hA.2.1, hA.2.2.1, h3, ↓lt, hv, decide_false, ↓reduceIte, Bool.false_eq_true]
  · unfold eOf
    cases ff _ _ <;> rfl
theorem e235 {n : Nat} {o : Nat} {v : Int64} {c m : cS} (hn : 100 ≤ n) (h1 : eln m o ≤ 12) (h3 : c.1 (oA o) 1 = nI (eln m o)) (h5 : ∀ e, e < eln m o → c.2 (oA o + 1) e = m.2 183 (12 * o + e)) : d_235 n o v c = some (oI (eOf m o v)) := by
  unfold d_235
  refine bwf (fun k => nI k) (Sum.inl ()) (fun k => Sum.inr (nI k)) (fun k => decide (m.2 183 (12 * o + k) = v)) (cnt := eln m o) (by omega) rfl ?_ (fun j hj => ?_) ?_
  · simp (disch := first | omega | exact (rfl : _ = true)) only [↓neg1, nlit, rI, rL, rI2, rL1, nI_add, pk_mul, sbT, dvT, nmd, ixT, ↓ibT, ltT, ltF, leT, leF, eqT, eqF, nM_ltT, nM_ltF, nM_leT, nM_leF, nM_eqF, nM_eqF', lgc, not_true_eq_false, not_false_eq_true, or_false, false_or, or_true, true_or, and_true, true_and, and_false, false_and, ne_eq, eq_self, or_self, and_self, not_not, h3, h5]
  · by_cases hv : m.2 183 (12 * o + j) = v
    · simp (disch := first | omega | exact (rfl : _ = true)) only [↓neg1, nlit, rI, rL, rI2, rL1, nI_add, pk_mul, sbT, dvT, nmd, ixT, ↓ibT, ltT, ltF, leT, leF, eqT, eqF, nM_ltT, nM_ltF, nM_leT, nM_leF, nM_eqF, nM_eqF', lgc, not_true_eq_false, not_false_eq_true, or_false, false_or, or_true, true_or, and_true, true_and, and_false, false_and, ne_eq, eq_self, or_self, and_self, not_not, h3, h5, ↓lt, hv, decide_true, ↓reduceIte]
    · simp (disch := first | omega | exact (rfl : _ = true)) only [↓neg1, nlit, rI, rL, rI2, rL1, nI_add, pk_mul, sbT, dvT, nmd, ixT, ↓ibT, ltT, ltF, leT, leF, eqT, eqF, nM_ltT, nM_ltF, nM_leT, nM_leF, nM_eqF, nM_eqF', lgc, not_true_eq_false, not_false_eq_true, or_false, false_or, or_true, true_or, and_true, true_and, and_false, false_and, ne_eq, eq_self, or_self, and_self, not_not, h3, h5, ↓lt, hv, decide_false, ↓reduceIte, Bool.false_eq_true]
  · unfold eOf
    cases ff _ _ <;> rfl
theorem e378 {n : Nat} {d : Nat} {v : Int64} {m u : cS} (hn : 100 ≤ n) (hA : AG m u) (h0 : d < 12) (h1 : kn m d ≤ 4) (h3 : m.1 190 d = nI (kn m d)) : d_378 n (nI d) v u = some (oI (jOf m d v)) := by
  unfold d_378
  refine bwf (fun k => nI k) (Sum.inl ()) (fun k => Sum.inr (nI k)) (fun k => decide (m.2 191 (4 * d + k) = v)) (cnt := kn m d) (by omega) rfl ?_ (fun j hj => ?_) ?_
  · simp (disch := first | omega | exact (rfl : _ = true)) only [↓neg1, nlit, rI, rL, rI2, rL1, nI_add, pk_mul, sbT, dvT, nmd, ixT, ↓ibT, ltT, ltF, leT, leF, eqT, eqF, nM_ltT, nM_ltF, nM_leT, nM_leF, nM_eqF, nM_eqF', lgc, not_true_eq_false, not_false_eq_true, or_false, false_or, or_true, true_or, and_true, true_and, and_false, false_and, ne_eq, eq_self, or_self, and_self, not_not, hA.1, hA.2.1, hA.2.2.1, h3]
  · by_cases hv : m.2 191 (4 * d + j) = v
    · simp (disch := first | omega | exact (rfl : _ = true)) only [↓neg1, nlit, rI, rL, rI2, rL1, nI_add, pk_mul, sbT, dvT, nmd, ixT, ↓ibT, ltT, ltF, leT, leF, eqT, eqF, nM_ltT, nM_ltF, nM_leT, nM_leF, nM_eqF, nM_eqF', lgc, not_true_eq_false, not_false_eq_true, or_false, false_or, or_true, true_or, and_true, true_and, and_false, false_and, ne_eq, eq_self, or_self, and_self, not_not, hA.1, hA.2.1, hA.2.2.1, h3, ↓lt, hv, decide_true, ↓reduceIte]
    · simp (disch := first | omega | exact (rfl : _ = true)) only [↓neg1, nlit, rI, rL, rI2, rL1, nI_add, pk_mul, sbT, dvT, nmd, ixT, ↓ibT, ltT, ltF, leT, leF, eqT, eqF, nM_ltT, nM_ltF, nM_leT, nM_leF, nM_eqF, nM_eqF', lgc, not_true_eq_false, not_false_eq_true, or_false, false_or, or_true, true_or, and_true, true_and, and_false, false_and, ne_eq, eq_self, or_self, and_self, not_not, hA.1, hA.2.1, hA.2.2.1, h3, ↓lt, hv, decide_false, ↓reduceIte, Bool.false_eq_true]
  · unfold jOf
    cases ff _ _ <;> rfl
theorem e218 {n : Nat} {d : Nat} {v : Int64} {c m : cS} (hn : 100 ≤ n) (h1 : kn m d ≤ 4) (h3 : c.1 (kA d) 1 = nI (kn m d)) (h5 : ∀ j, j < kn m d → c.2 (kA d + 1) j = m.2 191 (4 * d + j)) : d_218 n d v c = some (oI (jOf m d v)) := by
  unfold d_218
  refine bwf (fun k => nI k) (Sum.inl ()) (fun k => Sum.inr (nI k)) (fun k => decide (m.2 191 (4 * d + k) = v)) (cnt := kn m d) (by omega) rfl ?_ (fun j hj => ?_) ?_
  · simp (disch := first | omega | exact (rfl : _ = true)) only [↓neg1, nlit, rI, rL, rI2, rL1, nI_add, pk_mul, sbT, dvT, nmd, ixT, ↓ibT, ltT, ltF, leT, leF, eqT, eqF, nM_ltT, nM_ltF, nM_leT, nM_leF, nM_eqF, nM_eqF', lgc, not_true_eq_false, not_false_eq_true, or_false, false_or, or_true, true_or, and_true, true_and, and_false, false_and, ne_eq, eq_self, or_self, and_self, not_not, h3, h5]
  · by_cases hv : m.2 191 (4 * d + j) = v
    · simp (disch := first | omega | exact (rfl : _ = true)) only [↓neg1, nlit, rI, rL, rI2, rL1, nI_add, pk_mul, sbT, dvT, nmd, ixT, ↓ibT, ltT, ltF, leT, leF, eqT, eqF, nM_ltT, nM_ltF, nM_leT, nM_leF, nM_eqF, nM_eqF', lgc, not_true_eq_false, not_false_eq_true, or_false, false_or, or_true, true_or, and_true, true_and, and_false, false_and, ne_eq, eq_self, or_self, and_self, not_not, h3, h5, ↓lt, hv, decide_true, ↓reduceIte]
    · simp (disch := first | omega | exact (rfl : _ = true)) only [↓neg1, nlit, rI, rL, rI2, rL1, nI_add, pk_mul, sbT, dvT, nmd, ixT, ↓ibT, ltT, ltF, leT, leF, eqT, eqF, nM_ltT, nM_ltF, nM_leT, nM_leF, nM_eqF, nM_eqF', lgc, not_true_eq_false, not_false_eq_true, or_false, false_or, or_true, true_or, and_true, true_and, and_false, false_and, ne_eq, eq_self, or_self, and_self, not_not, h3, h5, ↓lt, hv, decide_false, ↓reduceIte, Bool.false_eq_true]
  · unfold jOf
    cases ff _ _ <;> rfl
theorem e230 {n : Nat} {x y : Nat} {v : Int64} {c m : cS} (hn : 100 ≤ n) (h0 : x < 4096) (h1 : prn m y ≤ 4) (h3 : c.1 136 x = nI (prn m y)) (h5 : ∀ q, q < prn m y → c.2 139 (x * 4 + q) = m.2 226 (y * 4 + q)) : d_230 n (nI x) v c = some (match pOf m y v with | some q => nI (x * 4 + q) | none => nM) := by
  unfold d_230
  refine bwf (fun k => nI k) (Sum.inl ()) (fun k => Sum.inr (nI k)) (fun k => decide (m.2 226 (y * 4 + k) = v)) (cnt := prn m y) (by omega) rfl ?_ (fun j hj => ?_) ?_
  · simp (disch := first | omega | exact (rfl : _ = true)) only [↓neg1, nlit, rI, rL, rI2, rL1, nI_add, pk_mul, sbT, dvT, nmd, ixT, ↓ibT, ltT, ltF, leT, leF, eqT, eqF, nM_ltT, nM_ltF, nM_leT, nM_leF, nM_eqF, nM_eqF', lgc, not_true_eq_false, not_false_eq_true, or_false, false_or, or_true, true_or, and_true, true_and, and_false, false_and, ne_eq, eq_self, or_self, and_self, not_not, h3, h5]
  · by_cases hv : m.2 226 (y * 4 + j) = v
    · simp (disch := first | omega | exact (rfl : _ = true)) only [↓neg1, nlit, rI, rL, rI2, rL1, nI_add, pk_mul, sbT, dvT, nmd, ixT, ↓ibT, ltT, ltF, leT, leF, eqT, eqF, nM_ltT, nM_ltF, nM_leT, nM_leF, nM_eqF, nM_eqF', lgc, not_true_eq_false, not_false_eq_true, or_false, false_or, or_true, true_or, and_true, true_and, and_false, false_and, ne_eq, eq_self, or_self, and_self, not_not, h3, h5, ↓lt, hv, decide_true, ↓reduceIte]
    · simp (disch := first | omega | exact (rfl : _ = true)) only [↓neg1, nlit, rI, rL, rI2, rL1, nI_add, pk_mul, sbT, dvT, nmd, ixT, ↓ibT, ltT, ltF, leT, leF, eqT, eqF, nM_ltT, nM_ltF, nM_leT, nM_leF, nM_eqF, nM_eqF', lgc, not_true_eq_false, not_false_eq_true, or_false, false_or, or_true, true_or, and_true, true_and, and_false, false_and, ne_eq, eq_self, or_self, and_self, not_not, h3, h5, ↓lt, hv, decide_false, ↓reduceIte, Bool.false_eq_true]
  · unfold pOf
    cases ff _ _ with
    | none => rfl
    | some q => exact congrArg some (by simp (disch := first | omega | exact (rfl : _ = true)) only [↓neg1, nlit, rI, rL, rI2, rL1, nI_add, pk_mul, sbT, dvT, nmd, ixT, ↓ibT, ltT, ltF, leT, leF, eqT, eqF, nM_ltT, nM_ltF, nM_leT, nM_leF, nM_eqF, nM_eqF', lgc, not_true_eq_false, not_false_eq_true, or_false, false_or, or_true, true_or, and_true, true_and, and_false, false_and, ne_eq, eq_self, or_self, and_self, not_not])

