/-! READING: NAMES that are taken; new NAMES -/
section NAM
variable {n i N oc kc mc cc : Nat} {c d u w : cS} {K P : Nat → Nat} {V : Nat → Int64}
/-- the NAMES of both -/
def NMR (c u : cS) (oc kc mc cc : Nat) : Prop := (oc ≤ 4 ∧ c.1 7 2 = nI oc ∧ u.1 174 15 = nI oc ∧ ∀ o, o < oc → c.2 (oA o) 0 = u.2 181 o) ∧ (kc ≤ 12 ∧ c.1 7 4 = nI kc ∧ u.1 174 24 = nI kc ∧ ∀ k, k < kc → c.2 (kA k) 0 = u.2 189 k) ∧ (mc ≤ 6 ∧ c.1 7 7 = nI mc ∧ u.1 174 34 = nI mc ∧ ∀ k, k < mc → c.2 10 k = u.2 198 k) ∧ (cc ≤ 12 ∧ c.1 7 10 = nI cc ∧ u.1 174 37 = nI cc ∧ ∀ k, k < cc → c.2 12 k = u.2 200 k)
def fO (u : cS) (oc : Nat) (v : Int64) : Option Nat := ff (fun o => decide (u.2 181 o = v)) oc
def fK (u : cS) (kc : Nat) (v : Int64) : Option Nat := ff (fun k => decide (u.2 189 k = v)) kc
def fMk (u : cS) (mc : Nat) (v : Int64) : Option Nat := ff (fun k => decide (u.2 198 k = v)) mc
def fCl (u : cS) (cc : Nat) (v : Int64) : Option Nat := ff (fun k => decide (u.2 200 k = v)) cc
def tkn4 (u : cS) (oc kc mc cc : Nat) (v : Int64) : Bool := (fO u oc v).isSome || (fK u kc v).isSome || (fMk u mc v).isSome || (fCl u cc v).isSome
variable {v : Int64}
theorem f372 (hn : 100 ≤ n) (h : NMR c u oc kc mc cc) : d_372 n v u = some (oI (fO u oc v)) := by
  obtain ⟨⟨h1, h2, h3, h4⟩, -⟩ := h
  unfold d_372
  refine bwf (fun k => nI k) (Sum.inl ()) (fun k => Sum.inr (nI k)) (fun k => decide (u.2 181 k = v)) (cnt := oc) (by omega) rfl ?_ (fun j hj => ?_) ?_
  · simp (disch := first | omega | decide) only [↓neg1, nlit, rI, rL, rI2, rL1, nI_add, pk_mul, sbT, dvT, nmd, ixT, ↓ibT, ltT, ltF, leT, leF, eqT, eqF, nM_ltT, nM_ltF, nM_leT, nM_leF, nM_eqF, nM_eqF', nbT0, nbT1, oI_s, oI_n, natF, natT, nltT, nltF, nleT, nleF, ↓reduceIte, lgc, not_true_eq_false, not_false_eq_true, or_false, false_or, or_true, true_or, and_true, true_and, and_false, false_and, ne_eq, eq_self, or_self, and_self, obs, ↓jn, ↓lt, ↓reduceIte, decide_true, decide_false, Bool.false_eq_true, Bool.and_true, Bool.and_false, Bool.true_and, Bool.false_and, Bool.or_false, Bool.false_or, Bool.or_true, Bool.true_or, h3]
  · by_cases hv : u.2 181 j = v
    · simp (disch := first | omega | decide) only [↓neg1, nlit, rI, rL, rI2, rL1, nI_add, pk_mul, sbT, dvT, nmd, ixT, ↓ibT, ltT, ltF, leT, leF, eqT, eqF, nM_ltT, nM_ltF, nM_leT, nM_leF, nM_eqF, nM_eqF', nbT0, nbT1, oI_s, oI_n, natF, natT, nltT, nltF, nleT, nleF, ↓reduceIte, lgc, not_true_eq_false, not_false_eq_true, or_false, false_or, or_true, true_or, and_true, true_and, and_false, false_and, ne_eq, eq_self, or_self, and_self, obs, ↓jn, ↓lt, ↓reduceIte, decide_true, decide_false, Bool.false_eq_true, Bool.and_true, Bool.and_false, Bool.true_and, Bool.false_and, Bool.or_false, Bool.false_or, Bool.or_true, Bool.true_or, h3, hv]
    · simp (disch := first | omega | decide) only [↓neg1, nlit, rI, rL, rI2, rL1, nI_add, pk_mul, sbT, dvT, nmd, ixT, ↓ibT, ltT, ltF, leT, leF, eqT, eqF, nM_ltT, nM_ltF, nM_leT, nM_leF, nM_eqF, nM_eqF', nbT0, nbT1, oI_s, oI_n, natF, natT, nltT, nltF, nleT, nleF, ↓reduceIte, lgc, not_true_eq_false, not_false_eq_true, or_false, false_or, or_true, true_or, and_true, true_and, and_false, false_and, ne_eq, eq_self, or_self, and_self, obs, ↓jn, ↓lt, ↓reduceIte, decide_true, decide_false, Bool.false_eq_true, Bool.and_true, Bool.and_false, Bool.true_and, Bool.false_and, Bool.or_false, Bool.false_or, Bool.or_true, Bool.true_or, h3, hv]
  · unfold fO
    cases ff _ _ <;> rfl
theorem f247 (hn : 100 ≤ n) (h : NMR c u oc kc mc cc) : d_247 n v c = some (oI (fO u oc v)) := by
  obtain ⟨⟨h1, h2, h3, h4⟩, -⟩ := h
  unfold d_247
  refine bwf (fun k => nI k) (Sum.inl ()) (fun k => Sum.inr (nI k)) (fun k => decide (u.2 181 k = v)) (cnt := oc) (by omega) rfl ?_ (fun j hj => ?_) ?_
  · simp (disch := first | omega | decide) only [↓neg1, nlit, rI, rL, rI2, rL1, nI_add, pk_mul, sbT, dvT, nmd, ixT, ↓ibT, ltT, ltF, leT, leF, eqT, eqF, nM_ltT, nM_ltF, nM_leT, nM_leF, nM_eqF, nM_eqF', nbT0, nbT1, oI_s, oI_n, natF, natT, nltT, nltF, nleT, nleF, ↓reduceIte, lgc, not_true_eq_false, not_false_eq_true, or_false, false_or, or_true, true_or, and_true, true_and, and_false, false_and, ne_eq, eq_self, or_self, and_self, obs, ↓jn, ↓lt, ↓reduceIte, decide_true, decide_false, Bool.false_eq_true, Bool.and_true, Bool.and_false, Bool.true_and, Bool.false_and, Bool.or_false, Bool.false_or, Bool.or_true, Bool.true_or, h2, h4]
  · by_cases hv : u.2 181 j = v
    · simp (disch := first | omega | decide) only [↓neg1, nlit, rI, rL, rI2, rL1, nI_add, pk_mul, sbT, dvT, nmd, ixT, ↓ibT, ltT, ltF, leT, leF, eqT, eqF, nM_ltT, nM_ltF, nM_leT, nM_leF, nM_eqF, nM_eqF', nbT0, nbT1, oI_s, oI_n, natF, natT, nltT, nltF, nleT, nleF, ↓reduceIte, lgc, not_true_eq_false, not_false_eq_true, or_false, false_or, or_true, true_or, and_true, true_and, and_false, false_and, ne_eq, eq_self, or_self, and_self, obs, ↓jn, ↓lt, ↓reduceIte, decide_true, decide_false, Bool.false_eq_true, Bool.and_true, Bool.and_false, Bool.true_and, Bool.false_and, Bool.or_false, Bool.false_or, Bool.or_true, Bool.true_or, h2, h4, hv]
    · simp (disch := first | omega | decide) only [↓neg1, nlit, rI, rL, rI2, rL1, nI_add, pk_mul, sbT, dvT, nmd, ixT, ↓ibT, ltT, ltF, leT, leF, eqT, eqF, nM_ltT, nM_ltF, nM_leT, nM_leF, nM_eqF, nM_eqF', nbT0, nbT1, oI_s, oI_n, natF, natT, nltT, nltF, nleT, nleF, ↓reduceIte, lgc, not_true_eq_false, not_false_eq_true, or_false, false_or, or_true, true_or, and_true, true_and, and_false, false_and, ne_eq, eq_self, or_self, and_self, obs, ↓jn, ↓lt, ↓reduceIte, decide_true, decide_false, Bool.false_eq_true, Bool.and_true, Bool.and_false, Bool.true_and, Bool.false_and, Bool.or_false, Bool.false_or, Bool.or_true, Bool.true_or, h2, h4, hv]
  · unfold fO
    cases ff _ _ <;> rfl
theorem f373 (hn : 100 ≤ n) (h : NMR c u oc kc mc cc) : d_373 n v u = some (oI (fK u kc v)) := by
  obtain ⟨-, ⟨h1, h2, h3, h4⟩, -⟩ := h
  unfold d_373
  refine bwf (fun k => nI k) (Sum.inl ()) (fun k => Sum.inr (nI k)) (fun k => decide (u.2 189 k = v)) (cnt := kc) (by omega) rfl ?_ (fun j hj => ?_) ?_
  · simp (disch := first | omega | decide) only [↓neg1, nlit, rI, rL, rI2, rL1, nI_add, pk_mul, sbT, dvT, nmd, ixT, ↓ibT, ltT, ltF, leT, leF, eqT, eqF, nM_ltT, nM_ltF, nM_leT, nM_leF, nM_eqF, nM_eqF', nbT0, nbT1, oI_s, oI_n, natF, natT, nltT, nltF, nleT, nleF, ↓reduceIte, lgc, not_true_eq_false, not_false_eq_true, or_false, false_or, or_true, true_or, and_true, true_and, and_false, false_and, ne_eq, eq_self, or_self, and_self, obs, ↓jn, ↓lt, ↓reduceIte, decide_true, decide_false, Bool.false_eq_true, Bool.and_true, Bool.and_false, Bool.true_and, Bool.false_and, Bool.or_false, Bool.false_or, Bool.or_true, Bool.true_or, h3]
  · by_cases hv : u.2 189 j = v
    · simp (disch := first | omega | decide) only [↓neg1, nlit, rI, rL, rI2, rL1, nI_add, pk_mul, sbT, dvT, nmd, ixT, ↓ibT, ltT, ltF, leT, leF, eqT, eqF, nM_ltT, nM_ltF, nM_leT, nM_leF, nM_eqF, nM_eqF', nbT0, nbT1, oI_s, oI_n, natF, natT, nltT, nltF, nleT, nleF, ↓reduceIte, lgc, not_true_eq_false, not_false_eq_true, or_false, false_or, or_true, true_or, and_true, true_and, and_false, false_and, ne_eq, eq_self, or_self, and_self, obs, ↓jn, ↓lt, ↓reduceIte, decide_true, decide_false, Bool.false_eq_true, Bool.and_true, Bool.and_false, Bool.true_and, Bool.false_and, Bool.or_false, Bool.false_or, Bool.or_true, Bool.true_or, h3, hv]
    · simp (disch := first | omega | decide) only [↓neg1, nlit, rI, rL, rI2, rL1, nI_add, pk_mul, sbT, dvT, nmd, ixT, ↓ibT, ltT, ltF, leT, leF, eqT, eqF, nM_ltT, nM_ltF, nM_leT, nM_leF, nM_eqF, nM_eqF', nbT0, nbT1, oI_s, oI_n, natF, natT, nltT, nltF, nleT, nleF, ↓reduceIte, lgc, not_true_eq_false, not_false_eq_true, or_false, false_or, or_true, true_or, and_true, true_and, and_false, false_and, ne_eq, eq_self, or_self, and_self, obs, ↓jn, ↓lt, ↓reduceIte, decide_true, decide_false, Bool.false_eq_true, Bool.and_true, Bool.and_false, Bool.true_and, Bool.false_and, Bool.or_false, Bool.false_or, Bool.or_true, Bool.true_or, h3, hv]
  · unfold fK
    cases ff _ _ <;> rfl
theorem f248 (hn : 100 ≤ n) (h : NMR c u oc kc mc cc) : d_248 n v c = some (oI (fK u kc v)) := by
  obtain ⟨-, ⟨h1, h2, h3, h4⟩, -⟩ := h
  unfold d_248
  refine bwf (fun k => nI k) (Sum.inl ()) (fun k => Sum.inr (nI k)) (fun k => decide (u.2 189 k = v)) (cnt := kc) (by omega) rfl ?_ (fun j hj => ?_) ?_
  · simp (disch := first | omega | decide) only [↓neg1, nlit, rI, rL, rI2, rL1, nI_add, pk_mul, sbT, dvT, nmd, ixT, ↓ibT, ltT, ltF, leT, leF, eqT, eqF, nM_ltT, nM_ltF, nM_leT, nM_leF, nM_eqF, nM_eqF', nbT0, nbT1, oI_s, oI_n, natF, natT, nltT, nltF, nleT, nleF, ↓reduceIte, lgc, not_true_eq_false, not_false_eq_true, or_false, false_or, or_true, true_or, and_true, true_and, and_false, false_and, ne_eq, eq_self, or_self, and_self, obs, ↓jn, ↓lt, ↓reduceIte, decide_true, decide_false, Bool.false_eq_true, Bool.and_true, Bool.and_false, Bool.true_and, Bool.false_and, Bool.or_false, Bool.false_or, Bool.or_true, Bool.true_or, h2, h4]
  · by_cases hv : u.2 189 j = v
    · simp (disch := first | omega | decide) only [↓neg1, nlit, rI, rL, rI2, rL1, nI_add, pk_mul, sbT, dvT, nmd, ixT, ↓ibT, ltT, ltF, leT, leF, eqT, eqF, nM_ltT, nM_ltF, nM_leT, nM_leF, nM_eqF, nM_eqF', nbT0, nbT1, oI_s, oI_n, natF, natT, nltT, nltF, nleT, nleF, ↓reduceIte, lgc, not_true_eq_false, not_false_eq_true, or_false, false_or, or_true, true_or, and_true, true_and, and_false, false_and, ne_eq, eq_self, or_self, and_self, obs, ↓jn, ↓lt, ↓reduceIte, decide_true, decide_false, Bool.false_eq_true, Bool.and_true, Bool.and_false, Bool.true_and, Bool.false_and, Bool.or_false, Bool.false_or, Bool.or_true, Bool.true_or, h2, h4, hv]
    · simp (disch := first | omega | decide) only [↓neg1, nlit, rI, rL, rI2, rL1, nI_add, pk_mul, sbT, dvT, nmd, ixT, ↓ibT, ltT, ltF, leT, leF, eqT, eqF, nM_ltT, nM_ltF, nM_leT, nM_leF, nM_eqF, nM_eqF', nbT0, nbT1, oI_s, oI_n, natF, natT, nltT, nltF, nleT, nleF, ↓reduceIte, lgc, not_true_eq_false, not_false_eq_true, or_false, false_or, or_true, true_or, and_true, true_and, and_false, false_and, ne_eq, eq_self, or_self, and_self, obs, ↓jn, ↓lt, ↓reduceIte, decide_true, decide_false, Bool.false_eq_true, Bool.and_true, Bool.and_false, Bool.true_and, Bool.false_and, Bool.or_false, Bool.false_or, Bool.or_true, Bool.true_or, h2, h4, hv]
  · unfold fK
    cases ff _ _ <;> rfl
theorem f374 (hn : 100 ≤ n) (h : NMR c u oc kc mc cc) : d_374 n v u = some (oI (fMk u mc v)) := by
  obtain ⟨-, -, ⟨h1, h2, h3, h4⟩, -⟩ := h
  unfold d_374
  refine bwf (fun k => nI k) (Sum.inl ()) (fun k => Sum.inr (nI k)) (fun k => decide (u.2 198 k = v)) (cnt := mc) (by omega) rfl ?_ (fun j hj => ?_) ?_
  · simp (disch := first | omega | decide) only [↓neg1, nlit, rI, rL, rI2, rL1, nI_add, pk_mul, sbT, dvT, nmd, ixT, ↓ibT, ltT, ltF, leT, leF, eqT, eqF, nM_ltT, nM_ltF, nM_leT, nM_leF, nM_eqF, nM_eqF', nbT0, nbT1, oI_s, oI_n, natF, natT, nltT, nltF, nleT, nleF, ↓reduceIte, lgc, not_true_eq_false, not_false_eq_true, or_false, false_or, or_true, true_or, and_true, true_and, and_false, false_and, ne_eq, eq_self, or_self, and_self, obs, ↓jn, ↓lt, ↓reduceIte, decide_true, decide_false, Bool.false_eq_true, Bool.and_true, Bool.and_false, Bool.true_and, Bool.false_and, Bool.or_false, Bool.false_or, Bool.or_true, Bool.true_or, h3]
  · by_cases hv : u.2 198 j = v
    · simp (disch := first | omega | decide) only [↓neg1, nlit, rI, rL, rI2, rL1, nI_add, pk_mul, sbT, dvT, nmd, ixT, ↓ibT, ltT, ltF, leT, leF, eqT, eqF, nM_ltT, nM_ltF, nM_leT, nM_leF, nM_eqF, nM_eqF', nbT0, nbT1, oI_s, oI_n, natF, natT, nltT, nltF, nleT, nleF, ↓reduceIte, lgc, not_true_eq_false, not_false_eq_true, or_false, false_or, or_true, true_or, and_true, true_and, and_false, false_and, ne_eq, eq_self, or_self, and_self, obs, ↓jn, ↓lt, ↓reduceIte, decide_true, decide_false, Bool.false_eq_true, Bool.and_true, Bool.and_false, Bool.true_and, Bool.false_and, Bool.or_false, Bool.false_or, Bool.or_true, Bool.true_or, h3, hv]
    · simp (disch := first | omega | decide) only [↓neg1, nlit, rI, rL, rI2, rL1, nI_add, pk_mul, sbT, dvT, nmd, ixT, ↓ibT, ltT, ltF, leT, leF, eqT, eqF, nM_ltT, nM_ltF, nM_leT, nM_leF, nM_eqF, nM_eqF', nbT0, nbT1, oI_s, oI_n, natF, natT, nltT, nltF, nleT, nleF, ↓reduceIte, lgc, not_true_eq_false, not_false_eq_true, or_false, false_or, or_true, true_or, and_true, true_and, and_false, false_and, ne_eq, eq_self, or_self, and_self, obs, ↓jn, ↓lt, ↓reduceIte, decide_true, decide_false, Bool.false_eq_true, Bool.and_true, Bool.and_false, Bool.true_and, Bool.false_and, Bool.or_false, Bool.false_or, Bool.or_true, Bool.true_or, h3, hv]
  · unfold fMk
    cases ff _ _ <;> rfl
theorem f245 (hn : 100 ≤ n) (h : NMR c u oc kc mc cc) : d_245 n v c = some (bI (fMk u mc v).isSome) := by
  obtain ⟨-, -, ⟨h1, h2, h3, h4⟩, -⟩ := h
  unfold d_245
  refine bwf (fun k => nI k) (Sum.inl ()) (fun _ => Sum.inr ()) (fun k => decide (u.2 198 k = v)) (cnt := mc) (by omega) rfl ?_ (fun j hj => ?_) ?_
  · simp (disch := first | omega | decide) only [↓neg1, nlit, rI, rL, rI2, rL1, nI_add, pk_mul, sbT, dvT, nmd, ixT, ↓ibT, ltT, ltF, leT, leF, eqT, eqF, nM_ltT, nM_ltF, nM_leT, nM_leF, nM_eqF, nM_eqF', nbT0, nbT1, oI_s, oI_n, natF, natT, nltT, nltF, nleT, nleF, ↓reduceIte, lgc, not_true_eq_false, not_false_eq_true, or_false, false_or, or_true, true_or, and_true, true_and, and_false, false_and, ne_eq, eq_self, or_self, and_self, obs, ↓jn, ↓lt, ↓reduceIte, decide_true, decide_false, Bool.false_eq_true, Bool.and_true, Bool.and_false, Bool.true_and, Bool.false_and, Bool.or_false, Bool.false_or, Bool.or_true, Bool.true_or, h2, h4]
  · have h5 := h4 j hj
    by_cases hv : u.2 198 j = v
    · simp (disch := first | omega | decide) only [↓neg1, nlit, rI, rL, rI2, rL1, nI_add, pk_mul, sbT, dvT, nmd, ixT, ↓ibT, ltT, ltF, leT, leF, eqT, eqF, nM_ltT, nM_ltF, nM_leT, nM_leF, nM_eqF, nM_eqF', nbT0, nbT1, oI_s, oI_n, natF, natT, nltT, nltF, nleT, nleF, ↓reduceIte, lgc, not_true_eq_false, not_false_eq_true, or_false, false_or, or_true, true_or, and_true, true_and, and_false, false_and, ne_eq, eq_self, or_self, and_self, obs, ↓jn, ↓lt, ↓reduceIte, decide_true, decide_false, Bool.false_eq_true, Bool.and_true, Bool.and_false, Bool.true_and, Bool.false_and, Bool.or_false, Bool.false_or, Bool.or_true, Bool.true_or, h2, h5, hv]
    · simp (disch := first | omega | decide) only [↓neg1, nlit, rI, rL, rI2, rL1, nI_add, pk_mul, sbT, dvT, nmd, ixT, ↓ibT, ltT, ltF, leT, leF, eqT, eqF, nM_ltT, nM_ltF, nM_leT, nM_leF, nM_eqF, nM_eqF', nbT0, nbT1, oI_s, oI_n, natF, natT, nltT, nltF, nleT, nleF, ↓reduceIte, lgc, not_true_eq_false, not_false_eq_true, or_false, false_or, or_true, true_or, and_true, true_and, and_false, false_and, ne_eq, eq_self, or_self, and_self, obs, ↓jn, ↓lt, ↓reduceIte, decide_true, decide_false, Bool.false_eq_true, Bool.and_true, Bool.and_false, Bool.true_and, Bool.false_and, Bool.or_false, Bool.false_or, Bool.or_true, Bool.true_or, h2, h5, hv]
  · unfold fMk
    cases ff _ _ <;> rfl
theorem f375 (hn : 100 ≤ n) (h : NMR c u oc kc mc cc) : d_375 n v u = some (oI (fCl u cc v)) := by
  obtain ⟨-, -, -, ⟨h1, h2, h3, h4⟩⟩ := h
  unfold d_375
  refine bwf (fun k => nI k) (Sum.inl ()) (fun k => Sum.inr (nI k)) (fun k => decide (u.2 200 k = v)) (cnt := cc) (by omega) rfl ?_ (fun j hj => ?_) ?_
  · simp (disch := first | omega | decide) only [↓neg1, nlit, rI, rL, rI2, rL1, nI_add, pk_mul, sbT, dvT, nmd, ixT, ↓ibT, ltT, ltF, leT, leF, eqT, eqF, nM_ltT, nM_ltF, nM_leT, nM_leF, nM_eqF, nM_eqF', nbT0, nbT1, oI_s, oI_n, natF, natT, nltT, nltF, nleT, nleF, ↓reduceIte, lgc, not_true_eq_false, not_false_eq_true, or_false, false_or, or_true, true_or, and_true, true_and, and_false, false_and, ne_eq, eq_self, or_self, and_self, obs, ↓jn, ↓lt, ↓reduceIte, decide_true, decide_false, Bool.false_eq_true, Bool.and_true, Bool.and_false, Bool.true_and, Bool.false_and, Bool.or_false, Bool.false_or, Bool.or_true, Bool.true_or, h3]
  · by_cases hv : u.2 200 j = v
    · simp (disch := first | omega | decide) only [↓neg1, nlit, rI, rL, rI2, rL1, nI_add, pk_mul, sbT, dvT, nmd, ixT, ↓ibT, ltT, ltF, leT, leF, eqT, eqF, nM_ltT, nM_ltF, nM_leT, nM_leF, nM_eqF, nM_eqF', nbT0, nbT1, oI_s, oI_n, natF, natT, nltT, nltF, nleT, nleF, ↓reduceIte, lgc, not_true_eq_false, not_false_eq_true, or_false, false_or, or_true, true_or, and_true, true_and, and_false, false_and, ne_eq, eq_self, or_self, and_self, obs, ↓jn, ↓lt, ↓reduceIte, decide_true, decide_false, Bool.false_eq_true, Bool.and_true, Bool.and_false, Bool.true_and, Bool.false_and, Bool.or_false, Bool.false_or, Bool.or_true, Bool.true_or, h3, hv]
    · simp (disch := first | omega | decide) only [↓neg1, nlit, rI, rL, rI2, rL1, nI_add, pk_mul, sbT, dvT, nmd, ixT, ↓ibT, ltT, ltF, leT, leF, eqT, eqF, nM_ltT, nM_ltF, nM_leT, nM_leF, nM_eqF, nM_eqF', nbT0, nbT1, oI_s, oI_n, natF, natT, nltT, nltF, nleT, nleF, ↓reduceIte, lgc, not_true_eq_false, not_false_eq_true, or_false, false_or, or_true, true_or, and_true, true_and, and_false, false_and, ne_eq, eq_self, or_self, and_self, obs, ↓jn, ↓lt, ↓reduceIte, decide_true, decide_false, Bool.false_eq_true, Bool.and_true, Bool.and_false, Bool.true_and, Bool.false_and, Bool.or_false, Bool.false_or, Bool.or_true, Bool.true_or, h3, hv]
  · unfold fCl
    cases ff _ _ <;> rfl
theorem f249 (hn : 100 ≤ n) (h : NMR c u oc kc mc cc) : d_249 n v c = some (oI (fCl u cc v)) := by
  obtain ⟨-, -, -, ⟨h1, h2, h3, h4⟩⟩ := h
  unfold d_249
  refine bwf (fun k => nI k) (Sum.inl ()) (fun k => Sum.inr (nI k)) (fun k => decide (u.2 200 k = v)) (cnt := cc) (by omega) rfl ?_ (fun j hj => ?_) ?_
  · simp (disch := first | omega | decide) only [↓neg1, nlit, rI, rL, rI2, rL1, nI_add, pk_mul, sbT, dvT, nmd, ixT, ↓ibT, ltT, ltF, leT, leF, eqT, eqF, nM_ltT, nM_ltF, nM_leT, nM_leF, nM_eqF, nM_eqF', nbT0, nbT1, oI_s, oI_n, natF, natT, nltT, nltF, nleT, nleF, ↓reduceIte, lgc, not_true_eq_false, not_false_eq_true, or_false, false_or, or_true, true_or, and_true, true_and, and_false, false_and, ne_eq, eq_self, or_self, and_self, obs, ↓jn, ↓lt, ↓reduceIte, decide_true, decide_false, Bool.false_eq_true, Bool.and_true, Bool.and_false, Bool.true_and, Bool.false_and, Bool.or_false, Bool.false_or, Bool.or_true, Bool.true_or, h2, h4]
  · have h5 := h4 j hj
    by_cases hv : u.2 200 j = v
    · simp (disch := first | omega | decide) only [↓neg1, nlit, rI, rL, rI2, rL1, nI_add, pk_mul, sbT, dvT, nmd, ixT, ↓ibT, ltT, ltF, leT, leF, eqT, eqF, nM_ltT, nM_ltF, nM_leT, nM_leF, nM_eqF, nM_eqF', nbT0, nbT1, oI_s, oI_n, natF, natT, nltT, nltF, nleT, nleF, ↓reduceIte, lgc, not_true_eq_false, not_false_eq_true, or_false, false_or, or_true, true_or, and_true, true_and, and_false, false_and, ne_eq, eq_self, or_self, and_self, obs, ↓jn, ↓lt, ↓reduceIte, decide_true, decide_false, Bool.false_eq_true, Bool.and_true, Bool.and_false, Bool.true_and, Bool.false_and, Bool.or_false, Bool.false_or, Bool.or_true, Bool.true_or, h2, h5, hv]
    · simp (disch := first | omega | decide) only [↓neg1, nlit, rI, rL, rI2, rL1, nI_add, pk_mul, sbT, dvT, nmd, ixT, ↓ibT, ltT, ltF, leT, leF, eqT, eqF, nM_ltT, nM_ltF, nM_leT, nM_leF, nM_eqF, nM_eqF', nbT0, nbT1, oI_s, oI_n, natF, natT, nltT, nltF, nleT, nleF, ↓reduceIte, lgc, not_true_eq_false, not_false_eq_true, or_false, false_or, or_true, true_or, and_true, true_and, and_false, false_and, ne_eq, eq_self, or_self, and_self, obs, ↓jn, ↓lt, ↓reduceIte, decide_true, decide_false, Bool.false_eq_true, Bool.and_true, Bool.and_false, Bool.true_and, Bool.false_and, Bool.or_false, Bool.false_or, Bool.or_true, Bool.true_or, h2, h5, hv]
  · unfold fCl
    cases ff _ _ <;> rfl
theorem fO_lt {o : Nat} (h : fO u oc v = some o) : o < oc := (ff_some h).1
theorem f376 (hn : 100 ≤ n) (h : NMR c u oc kc mc cc) : d_376 n v u = some (bI (tkn4 u oc kc mc cc v)) := by
  have b1 := h.1.1
  have b2 := h.2.1.1
  have b3 := h.2.2.1.1
  have b4 := h.2.2.2.1
  unfold d_376 tkn4
  refine eq_wp (wpe (f372 hn h) (wpj (wpj ?_)))
  cases e1 : fO u oc v with
  | some o =>
    have := fO_lt e1
    exact wpt (nI_pos' (by omega)) (wpt (show nb (1 : Int32) by decide) rfl)
  | none =>
    refine wpf (by decide) (wpe (f373 hn h) ?_)
    cases e2 : fK u kc v with
    | some o =>
      have := (ff_some e2).1
      exact wpt (nI_pos' (by omega)) (wpt (show nb (1 : Int32) by decide) rfl)
    | none =>
      refine wpf (by decide) (wpe (f374 hn h) ?_)
      cases e3 : fMk u mc v with
      | some o =>
        have := (ff_some e3).1
        exact wpt (nI_pos' (by omega)) (wpt (show nb (1 : Int32) by decide) rfl)
      | none =>
        refine wpf (by decide) (wpe (f375 hn h) ?_)
        cases e4 : fCl u cc v with
        | some o =>
          have := (ff_some e4).1
          exact wpf (nI_pos (by omega)) (wpt (show nb (1 : Int32) by decide) rfl)
        | none => exact wpt (by decide) (wpt (show nb (0 : Int32) by decide) rfl)
theorem f246 (hn : 100 ≤ n) (h : NMR c u oc kc mc cc) : d_246 n v c = some (match fO u oc v with | some o => nI (100 + o) | none => oI (fK u kc v)) := by
  have b1 := h.1.1
  unfold d_246
  refine eq_wp (wpe (f247 hn h) (wpj ?_))
  cases e1 : fO u oc v with
  | some o =>
    have := fO_lt e1
    refine wpf (nI_pos (by omega)) ?_
    show (100 : Int32) + nI o = _
    rw [show (100 : Int32) = nI 100 from rfl, nI_add]
  | none => exact wpt (by decide) (wpe (f248 hn h) rfl)
theorem f244 (hn : 100 ≤ n) (h : NMR c u oc kc mc cc) : d_244 n v c = some (bI (tkn4 u oc kc mc cc v)) := by
  have b1 := h.1.1
  have b2 := h.2.1.1
  have b3 := h.2.2.1.1
  have b4 := h.2.2.2.1
  unfold d_244 tkn4
  refine eq_wp (wpe (f246 hn h) (wpj (wpj ?_)))
  cases e1 : fO u oc v with
  | some o =>
    have := fO_lt e1
    exact wpt (nI_pos' (by omega)) (wpt (show nb (1 : Int32) by decide) rfl)
  | none =>
    dsimp only
    cases e2 : fK u kc v with
    | some o =>
      have := (ff_some e2).1
      exact wpt (nI_pos' (by omega)) (wpt (show nb (1 : Int32) by decide) rfl)
    | none =>
      refine wpf (by decide) (wpe (f245 hn h) ?_)
      cases e3 : fMk u mc v with
      | some o => exact wpf (show ¬ bI true = 0 by decide) (wpt (show nb (1 : Int32) by decide) rfl)
      | none =>
        refine wpt rfl (wpe (f249 hn h) ?_)
        cases e4 : fCl u cc v with
        | some o =>
          have := (ff_some e4).1
          exact wpf (nI_pos (by omega)) (wpt (show nb (1 : Int32) by decide) rfl)
        | none => exact wpt (by decide) (wpt (show nb (0 : Int32) by decide) rfl)
theorem f261 (hn : 100 ≤ n) (hP : PSI K P V N c u i) (h : NMR c u oc kc mc cc) : d_261 n c = some (bI (tkn4 u oc kc mc cc (c.2 5 i))) := by
  have hk := PSI_K hP
  unfold d_261
  rw [hP.2.2.1]
  refine eq_wp (wpt (by simp (disch := first | omega | decide) only [↓neg1, nlit, rI, rL, rI2, rL1, nI_add, pk_mul, sbT, dvT, nmd, ixT, ↓ibT, ltT, ltF, leT, leF, eqT, eqF, nM_ltT, nM_ltF, nM_leT, nM_leF, nM_eqF, nM_eqF', nbT0, nbT1, oI_s, oI_n, natF, natT, nltT, nltF, nleT, nleF, ↓reduceIte, lgc, not_true_eq_false, not_false_eq_true, or_false, false_or, or_true, true_or, and_true, true_and, and_false, false_and, ne_eq, eq_self, or_self, and_self]) ?_)
  rw [ix_n (by omega)]
  exact wpe (f244 hn h) (wpt bI_nb rfl)
theorem val_at (hP : PSI K P V N c u i) (h1 : K i = 1) : c.2 5 i = V i ∧ V i ≠ 0 := by
  have ht := (hP.1.2.2.1 i hP.2.1).2.2.2.2
  unfold TKO at ht
  rcases ht with b | b | b | b | b | b
  · omega
  · exact ⟨b.2.2.1, b.2.2.2.2⟩
  · omega
  · omega
  · omega
  · omega
/-- a new NAME, the reference -/
def nnR (K P : Nat → Nat) (V : Nat → Int64) (u : cS) (i : Nat) (t : Bool) (a b : Int32) : Int64 × cS := if K i = 1 then (V i, if t = true then flt (atR u (i + 1)) 3 (nI (P i)) else if a = b then flt (atR u (i + 1)) 6 (nI (P i)) else atR u (i + 1)) else (0, flt u 2 (nI (P i)))
theorem f383 {a b : Int32} (hn : 100 ≤ n) (hP : PSI K P V N c u i) (h : NMR c u oc kc mc cc) : d_383 n a b u = some (nnR K P V u i (tkn4 u oc kc mc cc (V i)) a b) := by
  have hk := PSI_K hP
  have h381 := e381 (n := n) hP
  have hib : ib (nI i) 4001 := ib_n (by omega) (by decide)
  by_cases e1 : K i = 1
  · rw [if_pos e1] at h381
    have hi := PSI_lt hP (by omega)
    have hp := PSI_s hP (by omega)
    have hN : NMR c (atR u (i + 1)) oc kc mc cc := by
      have U : ∀ j, j ≠ 67 → (atR u (i + 1)).1 174 j = u.1 174 j := fun j z => by
        unfold atR
        rw [rI, if_neg (by omega)]
      unfold NMR
      rw [U 15 (by omega), U 24 (by omega), U 34 (by omega), U 37 (by omega)]
      exact h
    have a9 : (atR u (i + 1)).1 179 (ix (nI i)) = nI (P i) := by
      rw [ix_n (by omega)]
      unfold atR
      rw [rI, if_neg (by omega)]
      exact (hP.1.2.2.1 i hP.2.1).2.2.1
    have h376 := f376 (n := n) (v := V i) hn hN
    rw [show tkn4 (atR u (i + 1)) oc kc mc cc (V i) = tkn4 u oc kc mc cc (V i) from rfl] at h376
    cases e2 : tkn4 u oc kc mc cc (V i) with
    | true =>
      rw [e2] at h376
      rw [show nnR K P V u i true a b = (V i, flt (atR u (i + 1)) 3 (nI (P i))) by unfold nnR; rw [if_pos e1, if_pos rfl]]
      unfold d_383
      rw [hP.2.2.2.1]
      refine eq_wp (wpl (wpe h381 (wpt hp.2.2.2.2 (wpe h376 (wpj (wpf (by decide) (wpt hib ?_)))))))
      dsimp only
      rw [a9]
      refine wpe (e97 hp.2.2.2.2) (wpj ?_)
      by_cases e3 : a = b
      · exact wpt e3 (wpt hib (wpe (e97w (flt_at (u := atR u (i + 1))).1) rfl))
      · exact wpf e3 rfl
    | false =>
      rw [e2] at h376
      by_cases e3 : a = b
      · rw [show nnR K P V u i false a b = (V i, flt (atR u (i + 1)) 6 (nI (P i))) by unfold nnR; rw [if_pos e1, if_neg (by decide), if_pos e3]]
        unfold d_383
        rw [hP.2.2.2.1]
        refine eq_wp (wpl (wpe h381 (wpt hp.2.2.2.2 (wpe h376 (wpj (wpt rfl (wpj (wpt e3 (wpt hib ?_)))))))))
        dsimp only
        rw [a9]
        exact wpe (e97 hp.2.2.2.2) rfl
      · rw [show nnR K P V u i false a b = (V i, atR u (i + 1)) by unfold nnR; rw [if_pos e1, if_neg (by decide), if_neg e3]]
        unfold d_383
        rw [hP.2.2.2.1]
        exact eq_wp (wpl (wpe h381 (wpt hp.2.2.2.2 (wpe h376 (wpj (wpt rfl (wpj (wpf e3 rfl))))))))
  · rw [if_neg e1] at h381
    rw [show nnR K P V u i (tkn4 u oc kc mc cc (V i)) a b = (0, flt u 2 (nI (P i))) by unfold nnR; rw [if_neg e1]]
    unfold d_383
    rw [hP.2.2.2.1]
    exact eq_wp (wpl (wpe h381 (wpf (by rw [(flt_at (u := u)).1]; decide) rfl)))
end NAM
