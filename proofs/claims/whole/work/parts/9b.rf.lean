/-! FLOW: the reference follows a METHOD -/
theorem trN_hi {c m : cS} {o M i a s : Nat} {K f : Nat → Nat} (hop : 14 ≤ opn m (40 * M + i) ∧ opn m (40 * M + i) ≤ 30) (hR : OPR c m M a (40 * M + i)) (hl : lcn m M ≤ 8) (hr : RCH m M i) (hs : 8 + dpb m (40 * M + i) ≤ s) : trN m o K (40 * M + i) f s = f s := by
  generalize hb : 40 * M + i = b at *
  obtain ⟨r1, r2, r3, r4⟩ := hr
  rw [hb] at r1 r2 r3 r4
  unfold dpb at hs r4
  rcases op17 hop with e | e | e | e | e | e | e | e | e | e | e | e | e | e | e | e | e
  · have hgv := gv_of e
    rw [show GT 14 = 1 from rfl] at hgv
    have htk := tk_of e (by omega)
    rw [show TK 14 = 0 from rfl] at htk
    unfold trN
    simp (disch := first | omega | decide) only [↓neg1, nlit, rI, rL, rI2, rL1, nI_add, pk_mul, sbT, dvT, nmd, ixT, ↓ibT, ltT, ltF, leT, leF, eqT, eqF, nM_ltT, nM_ltF, nM_leT, nM_leF, nM_eqF, nM_eqF', nbT0, nbT1, oI_s, oI_n, natF, natT, nltT, nltF, nleT, nleF, ↓reduceIte, lgc, not_true_eq_false, not_false_eq_true, or_false, false_or, or_true, true_or, and_true, true_and, and_false, false_and, ne_eq, eq_self, or_self, and_self, obs, ↓jn, ↓lt, ↓reduceIte, decide_true, decide_false, Bool.false_eq_true, Bool.and_true, Bool.and_false, Bool.true_and, Bool.false_and, Bool.or_false, Bool.false_or, Bool.or_true, Bool.true_or, e]
  · have hgv := gv_of e
    rw [show GT 15 = 1 from rfl] at hgv
    have htk := tk_of e (by omega)
    rw [show TK 15 = 0 from rfl] at htk
    unfold trN
    simp (disch := first | omega | decide) only [↓neg1, nlit, rI, rL, rI2, rL1, nI_add, pk_mul, sbT, dvT, nmd, ixT, ↓ibT, ltT, ltF, leT, leF, eqT, eqF, nM_ltT, nM_ltF, nM_leT, nM_leF, nM_eqF, nM_eqF', nbT0, nbT1, oI_s, oI_n, natF, natT, nltT, nltF, nleT, nleF, ↓reduceIte, lgc, not_true_eq_false, not_false_eq_true, or_false, false_or, or_true, true_or, and_true, true_and, and_false, false_and, ne_eq, eq_self, or_self, and_self, obs, ↓jn, ↓lt, ↓reduceIte, decide_true, decide_false, Bool.false_eq_true, Bool.and_true, Bool.and_false, Bool.true_and, Bool.false_and, Bool.or_false, Bool.false_or, Bool.or_true, Bool.true_or, e]
  · have hgv := gv_of e
    rw [show GT 16 = 1 from rfl] at hgv
    have htk := tk_of e (by omega)
    rw [show TK 16 = 0 from rfl] at htk
    have hx := (hR.2.2.1 (by omega)).1
    unfold trN
    simp (disch := first | omega | decide) only [↓neg1, nlit, rI, rL, rI2, rL1, nI_add, pk_mul, sbT, dvT, nmd, ixT, ↓ibT, ltT, ltF, leT, leF, eqT, eqF, nM_ltT, nM_ltF, nM_leT, nM_leF, nM_eqF, nM_eqF', nbT0, nbT1, oI_s, oI_n, natF, natT, nltT, nltF, nleT, nleF, ↓reduceIte, lgc, not_true_eq_false, not_false_eq_true, or_false, false_or, or_true, true_or, and_true, true_and, and_false, false_and, ne_eq, eq_self, or_self, and_self, obs, ↓jn, ↓lt, ↓reduceIte, decide_true, decide_false, Bool.false_eq_true, Bool.and_true, Bool.and_false, Bool.true_and, Bool.false_and, Bool.or_false, Bool.false_or, Bool.or_true, Bool.true_or, e]
  · have hgv := gv_of e
    rw [show GT 17 = 0 from rfl] at hgv
    have htk := tk_of e (by omega)
    rw [show TK 17 = 1 from rfl] at htk
    have hx := (hR.2.2.1 (by omega)).1
    unfold trN
    simp (disch := first | omega | decide) only [↓neg1, nlit, rI, rL, rI2, rL1, nI_add, pk_mul, sbT, dvT, nmd, ixT, ↓ibT, ltT, ltF, leT, leF, eqT, eqF, nM_ltT, nM_ltF, nM_leT, nM_leF, nM_eqF, nM_eqF', nbT0, nbT1, oI_s, oI_n, natF, natT, nltT, nltF, nleT, nleF, ↓reduceIte, lgc, not_true_eq_false, not_false_eq_true, or_false, false_or, or_true, true_or, and_true, true_and, and_false, false_and, ne_eq, eq_self, or_self, and_self, obs, ↓jn, ↓lt, ↓reduceIte, decide_true, decide_false, Bool.false_eq_true, Bool.and_true, Bool.and_false, Bool.true_and, Bool.false_and, Bool.or_false, Bool.false_or, Bool.or_true, Bool.true_or, e]
  · have hgv := gv_of e
    rw [show GT 18 = 1 from rfl] at hgv
    have htk := tk_of e (by omega)
    rw [show TK 18 = 0 from rfl] at htk
    unfold trN
    simp (disch := first | omega | decide) only [↓neg1, nlit, rI, rL, rI2, rL1, nI_add, pk_mul, sbT, dvT, nmd, ixT, ↓ibT, ltT, ltF, leT, leF, eqT, eqF, nM_ltT, nM_ltF, nM_leT, nM_leF, nM_eqF, nM_eqF', nbT0, nbT1, oI_s, oI_n, natF, natT, nltT, nltF, nleT, nleF, ↓reduceIte, lgc, not_true_eq_false, not_false_eq_true, or_false, false_or, or_true, true_or, and_true, true_and, and_false, false_and, ne_eq, eq_self, or_self, and_self, obs, ↓jn, ↓lt, ↓reduceIte, decide_true, decide_false, Bool.false_eq_true, Bool.and_true, Bool.and_false, Bool.true_and, Bool.false_and, Bool.or_false, Bool.false_or, Bool.or_true, Bool.true_or, e]
  · have hgv := gv_of e
    rw [show GT 19 = 0 from rfl] at hgv
    have htk := tk_of e (by omega)
    rw [show TK 19 = 1 from rfl] at htk
    unfold trN
    simp (disch := first | omega | decide) only [↓neg1, nlit, rI, rL, rI2, rL1, nI_add, pk_mul, sbT, dvT, nmd, ixT, ↓ibT, ltT, ltF, leT, leF, eqT, eqF, nM_ltT, nM_ltF, nM_leT, nM_leF, nM_eqF, nM_eqF', nbT0, nbT1, oI_s, oI_n, natF, natT, nltT, nltF, nleT, nleF, ↓reduceIte, lgc, not_true_eq_false, not_false_eq_true, or_false, false_or, or_true, true_or, and_true, true_and, and_false, false_and, ne_eq, eq_self, or_self, and_self, obs, ↓jn, ↓lt, ↓reduceIte, decide_true, decide_false, Bool.false_eq_true, Bool.and_true, Bool.and_false, Bool.true_and, Bool.false_and, Bool.or_false, Bool.false_or, Bool.or_true, Bool.true_or, e]
  · have hgv := gv_of e
    rw [show GT 20 = 1 from rfl] at hgv
    have htk := tk_20 e
    unfold trN
    simp (disch := first | omega | decide) only [↓neg1, nlit, rI, rL, rI2, rL1, nI_add, pk_mul, sbT, dvT, nmd, ixT, ↓ibT, ltT, ltF, leT, leF, eqT, eqF, nM_ltT, nM_ltF, nM_leT, nM_leF, nM_eqF, nM_eqF', nbT0, nbT1, oI_s, oI_n, natF, natT, nltT, nltF, nleT, nleF, ↓reduceIte, lgc, not_true_eq_false, not_false_eq_true, or_false, false_or, or_true, true_or, and_true, true_and, and_false, false_and, ne_eq, eq_self, or_self, and_self, obs, ↓jn, ↓lt, ↓reduceIte, decide_true, decide_false, Bool.false_eq_true, Bool.and_true, Bool.and_false, Bool.true_and, Bool.false_and, Bool.or_false, Bool.false_or, Bool.or_true, Bool.true_or, e]
  · have hgv := gv_of e
    rw [show GT 21 = 0 from rfl] at hgv
    have htk := tk_of e (by omega)
    rw [show TK 21 = 1 from rfl] at htk
    unfold trN
    simp (disch := first | omega | decide) only [↓neg1, nlit, rI, rL, rI2, rL1, nI_add, pk_mul, sbT, dvT, nmd, ixT, ↓ibT, ltT, ltF, leT, leF, eqT, eqF, nM_ltT, nM_ltF, nM_leT, nM_leF, nM_eqF, nM_eqF', nbT0, nbT1, oI_s, oI_n, natF, natT, nltT, nltF, nleT, nleF, ↓reduceIte, lgc, not_true_eq_false, not_false_eq_true, or_false, false_or, or_true, true_or, and_true, true_and, and_false, false_and, ne_eq, eq_self, or_self, and_self, obs, ↓jn, ↓lt, ↓reduceIte, decide_true, decide_false, Bool.false_eq_true, Bool.and_true, Bool.and_false, Bool.true_and, Bool.false_and, Bool.or_false, Bool.false_or, Bool.or_true, Bool.true_or, e]
  · have hgv := gv_of e
    rw [show GT 22 = 1 from rfl] at hgv
    have htk := tk_of e (by omega)
    rw [show TK 22 = 2 from rfl] at htk
    unfold trN
    simp (disch := first | omega | decide) only [↓neg1, nlit, rI, rL, rI2, rL1, nI_add, pk_mul, sbT, dvT, nmd, ixT, ↓ibT, ltT, ltF, leT, leF, eqT, eqF, nM_ltT, nM_ltF, nM_leT, nM_leF, nM_eqF, nM_eqF', nbT0, nbT1, oI_s, oI_n, natF, natT, nltT, nltF, nleT, nleF, ↓reduceIte, lgc, not_true_eq_false, not_false_eq_true, or_false, false_or, or_true, true_or, and_true, true_and, and_false, false_and, ne_eq, eq_self, or_self, and_self, obs, ↓jn, ↓lt, ↓reduceIte, decide_true, decide_false, Bool.false_eq_true, Bool.and_true, Bool.and_false, Bool.true_and, Bool.false_and, Bool.or_false, Bool.false_or, Bool.or_true, Bool.true_or, e]
  · have hgv := gv_of e
    rw [show GT 23 = 1 from rfl] at hgv
    have htk := tk_of e (by omega)
    rw [show TK 23 = 2 from rfl] at htk
    unfold trN
    simp (disch := first | omega | decide) only [↓neg1, nlit, rI, rL, rI2, rL1, nI_add, pk_mul, sbT, dvT, nmd, ixT, ↓ibT, ltT, ltF, leT, leF, eqT, eqF, nM_ltT, nM_ltF, nM_leT, nM_leF, nM_eqF, nM_eqF', nbT0, nbT1, oI_s, oI_n, natF, natT, nltT, nltF, nleT, nleF, ↓reduceIte, lgc, not_true_eq_false, not_false_eq_true, or_false, false_or, or_true, true_or, and_true, true_and, and_false, false_and, ne_eq, eq_self, or_self, and_self, obs, ↓jn, ↓lt, ↓reduceIte, decide_true, decide_false, Bool.false_eq_true, Bool.and_true, Bool.and_false, Bool.true_and, Bool.false_and, Bool.or_false, Bool.false_or, Bool.or_true, Bool.true_or, e]
  · have hgv := gv_of e
    rw [show GT 24 = 1 from rfl] at hgv
    have htk := tk_of e (by omega)
    rw [show TK 24 = 2 from rfl] at htk
    unfold trN
    simp (disch := first | omega | decide) only [↓neg1, nlit, rI, rL, rI2, rL1, nI_add, pk_mul, sbT, dvT, nmd, ixT, ↓ibT, ltT, ltF, leT, leF, eqT, eqF, nM_ltT, nM_ltF, nM_leT, nM_leF, nM_eqF, nM_eqF', nbT0, nbT1, oI_s, oI_n, natF, natT, nltT, nltF, nleT, nleF, ↓reduceIte, lgc, not_true_eq_false, not_false_eq_true, or_false, false_or, or_true, true_or, and_true, true_and, and_false, false_and, ne_eq, eq_self, or_self, and_self, obs, ↓jn, ↓lt, ↓reduceIte, decide_true, decide_false, Bool.false_eq_true, Bool.and_true, Bool.and_false, Bool.true_and, Bool.false_and, Bool.or_false, Bool.false_or, Bool.or_true, Bool.true_or, e]
  · have hgv := gv_of e
    rw [show GT 25 = 2 from rfl] at hgv
    have htk := tk_of e (by omega)
    rw [show TK 25 = 1 from rfl] at htk
    unfold trN
    simp (disch := first | omega | decide) only [↓neg1, nlit, rI, rL, rI2, rL1, nI_add, pk_mul, sbT, dvT, nmd, ixT, ↓ibT, ltT, ltF, leT, leF, eqT, eqF, nM_ltT, nM_ltF, nM_leT, nM_leF, nM_eqF, nM_eqF', nbT0, nbT1, oI_s, oI_n, natF, natT, nltT, nltF, nleT, nleF, ↓reduceIte, lgc, not_true_eq_false, not_false_eq_true, or_false, false_or, or_true, true_or, and_true, true_and, and_false, false_and, ne_eq, eq_self, or_self, and_self, obs, ↓jn, ↓lt, ↓reduceIte, decide_true, decide_false, Bool.false_eq_true, Bool.and_true, Bool.and_false, Bool.true_and, Bool.false_and, Bool.or_false, Bool.false_or, Bool.or_true, Bool.true_or, e]
  · have hgv := gv_of e
    rw [show GT 26 = 0 from rfl] at hgv
    have htk := tk_of e (by omega)
    rw [show TK 26 = 1 from rfl] at htk
    unfold trN
    simp (disch := first | omega | decide) only [↓neg1, nlit, rI, rL, rI2, rL1, nI_add, pk_mul, sbT, dvT, nmd, ixT, ↓ibT, ltT, ltF, leT, leF, eqT, eqF, nM_ltT, nM_ltF, nM_leT, nM_leF, nM_eqF, nM_eqF', nbT0, nbT1, oI_s, oI_n, natF, natT, nltT, nltF, nleT, nleF, ↓reduceIte, lgc, not_true_eq_false, not_false_eq_true, or_false, false_or, or_true, true_or, and_true, true_and, and_false, false_and, ne_eq, eq_self, or_self, and_self, obs, ↓jn, ↓lt, ↓reduceIte, decide_true, decide_false, Bool.false_eq_true, Bool.and_true, Bool.and_false, Bool.true_and, Bool.false_and, Bool.or_false, Bool.false_or, Bool.or_true, Bool.true_or, e]
  · have hgv := gv_of e
    rw [show GT 27 = 0 from rfl] at hgv
    have htk := tk_of e (by omega)
    rw [show TK 27 = 0 from rfl] at htk
    unfold trN
    simp (disch := first | omega | decide) only [↓neg1, nlit, rI, rL, rI2, rL1, nI_add, pk_mul, sbT, dvT, nmd, ixT, ↓ibT, ltT, ltF, leT, leF, eqT, eqF, nM_ltT, nM_ltF, nM_leT, nM_leF, nM_eqF, nM_eqF', nbT0, nbT1, oI_s, oI_n, natF, natT, nltT, nltF, nleT, nleF, ↓reduceIte, lgc, not_true_eq_false, not_false_eq_true, or_false, false_or, or_true, true_or, and_true, true_and, and_false, false_and, ne_eq, eq_self, or_self, and_self, obs, ↓jn, ↓lt, ↓reduceIte, decide_true, decide_false, Bool.false_eq_true, Bool.and_true, Bool.and_false, Bool.true_and, Bool.false_and, Bool.or_false, Bool.false_or, Bool.or_true, Bool.true_or, e]
  · have hgv := gv_of e
    rw [show GT 28 = 0 from rfl] at hgv
    have htk := tk_of e (by omega)
    rw [show TK 28 = 1 from rfl] at htk
    unfold trN
    simp (disch := first | omega | decide) only [↓neg1, nlit, rI, rL, rI2, rL1, nI_add, pk_mul, sbT, dvT, nmd, ixT, ↓ibT, ltT, ltF, leT, leF, eqT, eqF, nM_ltT, nM_ltF, nM_leT, nM_leF, nM_eqF, nM_eqF', nbT0, nbT1, oI_s, oI_n, natF, natT, nltT, nltF, nleT, nleF, ↓reduceIte, lgc, not_true_eq_false, not_false_eq_true, or_false, false_or, or_true, true_or, and_true, true_and, and_false, false_and, ne_eq, eq_self, or_self, and_self, obs, ↓jn, ↓lt, ↓reduceIte, decide_true, decide_false, Bool.false_eq_true, Bool.and_true, Bool.and_false, Bool.true_and, Bool.false_and, Bool.or_false, Bool.false_or, Bool.or_true, Bool.true_or, e]
  · have hgv := gv_of e
    rw [show GT 29 = 1 from rfl] at hgv
    have htk := tk_of e (by omega)
    rw [show TK 29 = 1 from rfl] at htk
    unfold trN
    simp (disch := first | omega | decide) only [↓neg1, nlit, rI, rL, rI2, rL1, nI_add, pk_mul, sbT, dvT, nmd, ixT, ↓ibT, ltT, ltF, leT, leF, eqT, eqF, nM_ltT, nM_ltF, nM_leT, nM_leF, nM_eqF, nM_eqF', nbT0, nbT1, oI_s, oI_n, natF, natT, nltT, nltF, nleT, nleF, ↓reduceIte, lgc, not_true_eq_false, not_false_eq_true, or_false, false_or, or_true, true_or, and_true, true_and, and_false, false_and, ne_eq, eq_self, or_self, and_self, obs, ↓jn, ↓lt, ↓reduceIte, decide_true, decide_false, Bool.false_eq_true, Bool.and_true, Bool.and_false, Bool.true_and, Bool.false_and, Bool.or_false, Bool.false_or, Bool.or_true, Bool.true_or, e]
  · have hgv := gv_of e
    rw [show GT 30 = 1 from rfl] at hgv
    have htk := tk_of e (by omega)
    rw [show TK 30 = 1 from rfl] at htk
    unfold trN
    by_cases hx : xN m b = o
    · simp (disch := first | omega | decide) only [↓neg1, nlit, rI, rL, rI2, rL1, nI_add, pk_mul, sbT, dvT, nmd, ixT, ↓ibT, ltT, ltF, leT, leF, eqT, eqF, nM_ltT, nM_ltF, nM_leT, nM_leF, nM_eqF, nM_eqF', nbT0, nbT1, oI_s, oI_n, natF, natT, nltT, nltF, nleT, nleF, ↓reduceIte, lgc, not_true_eq_false, not_false_eq_true, or_false, false_or, or_true, true_or, and_true, true_and, and_false, false_and, ne_eq, eq_self, or_self, and_self, obs, ↓jn, ↓lt, ↓reduceIte, decide_true, decide_false, Bool.false_eq_true, Bool.and_true, Bool.and_false, Bool.true_and, Bool.false_and, Bool.or_false, Bool.false_or, Bool.or_true, Bool.true_or, e, hx]
    · simp (disch := first | omega | decide) only [↓neg1, nlit, rI, rL, rI2, rL1, nI_add, pk_mul, sbT, dvT, nmd, ixT, ↓ibT, ltT, ltF, leT, leF, eqT, eqF, nM_ltT, nM_ltF, nM_leT, nM_leF, nM_eqF, nM_eqF', nbT0, nbT1, oI_s, oI_n, natF, natT, nltT, nltF, nleT, nleF, ↓reduceIte, lgc, not_true_eq_false, not_false_eq_true, or_false, false_or, or_true, true_or, and_true, true_and, and_false, false_and, ne_eq, eq_self, or_self, and_self, obs, ↓jn, ↓lt, ↓reduceIte, decide_true, decide_false, Bool.false_eq_true, Bool.and_true, Bool.and_false, Bool.true_and, Bool.false_and, Bool.or_false, Bool.false_or, Bool.or_true, Bool.true_or, e, hx]
theorem e452 {n M o : Nat} {K : Nat → Nat} {c m u : cS} (hn : 1000 ≤ n) (hA : AG m u) (hX : FX c m o M K) (hMK : MKS m K u) : wp (d_452 n (nI M) (nI o) u) (fun w => NOW w (entV m o M K) ∧ sx q240 u w) := by
  obtain ⟨q1, q2, q3, q4, q5, q6⟩ := isMt_8 hX.2.1 hX.2.2.2.1
  have ho4 := hX.1.1
  have ho := hX.2.2.2.2.1
  have hbot := (bot_lt hX.1 ho).2.1
  have hcc := (CCS_p hX.2.1).1
  have hM1 := hX.2.2.2.1.1
  have hA1 : ∀ w, sx q240 u w → (∀ a i, PA a = true → w.1 a i = m.1 a i) ∧ w.1 236 = u.1 236 := by
    intro w hw
    refine ⟨fun a i h => ?_, funext fun i => hw.1 236 i rfl⟩
    have := PA_of h
    exact (hw.1 a i (decide_eq_false (by omega))).trans (hA.1 a i h)
  unfold d_452
  refine wpc (K' := fun w : cS => NOW w (entV m o M K) ∧ sx q240 u w) (whl_cnt (fun k (st : Int32 × cS) => st.1 = nI k ∧ (∀ s, s < k → st.2.1 240 s = nI (entV m o M K s)) ∧ sx q240 u st.2) 16 ?_ ?_ (by omega) ⟨rfl, fun s hs => by omega, sx_rfl⟩) (fun w hw => hw)
  · rintro k ⟨a, w⟩ hk ⟨g1, g2, g3⟩
    dsimp only at g1 g2 g3
    subst g1
    obtain ⟨A1, A2⟩ := hA1 w g3
    have p207 : w.1 207 M = nI (pM m M) := (A1 207 M rfl).trans q5
    have p188 : w.1 188 o = nI (ix (m.1 188 o)) := (A1 188 o rfl).trans hbot
    have fin : ∀ v, v = entV m o M K k → nI k + 1 = nI (k + 1) ∧ (∀ s, s < k + 1 → (pI w 240 k (nI v)).1 240 s = nI (entV m o M K s)) ∧ sx q240 u (pI w 240 k (nI v)) := by
      intro v hv
      refine ⟨nI_1 _, fun s hs => ?_, sx_pI g3 rfl⟩
      rw [rI]
      by_cases e : s = k
      · rw [if_pos ⟨rfl, e⟩, hv, e]
      · rw [if_neg (fun z => e z.2)]
        exact g2 s (by omega)
    by_cases hp : k < pM m M
    · have hpl := place_p hX.2.1 hX.2.2.2.1.1 hX.2.2.2.1.2 (r := k) (by rw [← q1]; exact hp)
      have hmk := hMK _ _ hpl (by omega)
      have h422 : d_422 n (nI M) = some (nI (100 * (M / 8) + 20 + 10 * (M % 8))) := by
        have := e422 (n := n) (k := M / 8) (j := M % 8) (by omega) (by omega)
        rwa [← q1] at this
      (try dsimp only); repeat (first | with_reducible refine wpl ?_ | with_reducible refine wpj ?_ | with_reducible refine wpSl ?_ | with_reducible refine wpSr ?_ | with_reducible refine wpS ?_ | ((with_reducible refine wpt ?_ ?_); · simp (disch := first | omega | decide) only [↓neg1, nlit, rI, rL, rI2, rL1, nI_add, pk_mul, sbT, dvT, nmd, ixT, ↓ibT, ltT, ltF, leT, leF, eqT, eqF, nM_ltT, nM_ltF, nM_leT, nM_leF, nM_eqF, nM_eqF', nbT0, nbT1, oI_s, oI_n, natF, natT, nltT, nltF, nleT, nleF, ↓reduceIte, lgc, not_true_eq_false, not_false_eq_true, or_false, false_or, or_true, true_or, and_true, true_and, and_false, false_and, ne_eq, eq_self, or_self, and_self, p207]; done) | ((with_reducible refine wpf ?_ ?_); · simp (disch := first | omega | decide) only [↓neg1, nlit, rI, rL, rI2, rL1, nI_add, pk_mul, sbT, dvT, nmd, ixT, ↓ibT, ltT, ltF, leT, leF, eqT, eqF, nM_ltT, nM_ltF, nM_leT, nM_leF, nM_eqF, nM_eqF', nbT0, nbT1, oI_s, oI_n, natF, natT, nltT, nltF, nleT, nleF, ↓reduceIte, lgc, not_true_eq_false, not_false_eq_true, or_false, false_or, or_true, true_or, and_true, true_and, and_false, false_and, ne_eq, eq_self, or_self, and_self, p207]; done))
      refine wpe h422 ?_
      rw [show nI (100 * (M / 8) + 20 + 10 * (M % 8)) + 1 + nI k = nI (100 * (M / 8) + 20 + 10 * (M % 8) + 1 + k) by rw [nI_1, nI_add]]
      (try dsimp only); repeat (first | with_reducible refine wpl ?_ | with_reducible refine wpj ?_ | with_reducible refine wpSl ?_ | with_reducible refine wpSr ?_ | with_reducible refine wpS ?_ | ((with_reducible refine wpt ?_ ?_); · simp (disch := first | omega | decide) only [↓neg1, nlit, rI, rL, rI2, rL1, nI_add, pk_mul, sbT, dvT, nmd, ixT, ↓ibT, ltT, ltF, leT, leF, eqT, eqF, nM_ltT, nM_ltF, nM_leT, nM_leF, nM_eqF, nM_eqF', nbT0, nbT1, oI_s, oI_n, natF, natT, nltT, nltF, nleT, nleF, ↓reduceIte, lgc, not_true_eq_false, not_false_eq_true, or_false, false_or, or_true, true_or, and_true, true_and, and_false, false_and, ne_eq, eq_self, or_self, and_self]; done) | ((with_reducible refine wpf ?_ ?_); · simp (disch := first | omega | decide) only [↓neg1, nlit, rI, rL, rI2, rL1, nI_add, pk_mul, sbT, dvT, nmd, ixT, ↓ibT, ltT, ltF, leT, leF, eqT, eqF, nM_ltT, nM_ltF, nM_leT, nM_leF, nM_eqF, nM_eqF', nbT0, nbT1, oI_s, oI_n, natF, natT, nltT, nltF, nleT, nleF, ↓reduceIte, lgc, not_true_eq_false, not_false_eq_true, or_false, false_or, or_true, true_or, and_true, true_and, and_false, false_and, ne_eq, eq_self, or_self, and_self]; done))
      rw [ix_n (by omega), ix_n (by omega), A2, hmk]
      exact fin _ (by unfold entV; rw [if_pos hp])
    · (try dsimp only); repeat (first | with_reducible refine wpl ?_ | with_reducible refine wpj ?_ | with_reducible refine wpSl ?_ | with_reducible refine wpSr ?_ | with_reducible refine wpS ?_ | ((with_reducible refine wpt ?_ ?_); · simp (disch := first | omega | decide) only [↓neg1, nlit, rI, rL, rI2, rL1, nI_add, pk_mul, sbT, dvT, nmd, ixT, ↓ibT, ltT, ltF, leT, leF, eqT, eqF, nM_ltT, nM_ltF, nM_leT, nM_leF, nM_eqF, nM_eqF', nbT0, nbT1, oI_s, oI_n, natF, natT, nltT, nltF, nleT, nleF, ↓reduceIte, lgc, not_true_eq_false, not_false_eq_true, or_false, false_or, or_true, true_or, and_true, true_and, and_false, false_and, ne_eq, eq_self, or_self, and_self, p207]; done) | ((with_reducible refine wpf ?_ ?_); · simp (disch := first | omega | decide) only [↓neg1, nlit, rI, rL, rI2, rL1, nI_add, pk_mul, sbT, dvT, nmd, ixT, ↓ibT, ltT, ltF, leT, leF, eqT, eqF, nM_ltT, nM_ltF, nM_leT, nM_leF, nM_eqF, nM_eqF', nbT0, nbT1, oI_s, oI_n, natF, natT, nltT, nltF, nleT, nleF, ↓reduceIte, lgc, not_true_eq_false, not_false_eq_true, or_false, false_or, or_true, true_or, and_true, true_and, and_false, false_and, ne_eq, eq_self, or_self, and_self, p207]; done))
      rw [ix_n (by omega), ix_n (by omega), p188]
      exact fin _ (by unfold entV; rw [if_neg hp])
  · rintro ⟨a, w⟩ ⟨g1, g2, g3⟩
    dsimp only at g1 g2 g3
    subst g1
    (try dsimp only); repeat (first | with_reducible refine wpl ?_ | with_reducible refine wpj ?_ | with_reducible refine wpSl ?_ | with_reducible refine wpSr ?_ | with_reducible refine wpS ?_ | ((with_reducible refine wpt ?_ ?_); · simp (disch := first | omega | decide) only [↓neg1, nlit, rI, rL, rI2, rL1, nI_add, pk_mul, sbT, dvT, nmd, ixT, ↓ibT, ltT, ltF, leT, leF, eqT, eqF, nM_ltT, nM_ltF, nM_leT, nM_leF, nM_eqF, nM_eqF', nbT0, nbT1, oI_s, oI_n, natF, natT, nltT, nltF, nleT, nleF, ↓reduceIte, lgc, not_true_eq_false, not_false_eq_true, or_false, false_or, or_true, true_or, and_true, true_and, and_false, false_and, ne_eq, eq_self, or_self, and_self]; done) | ((with_reducible refine wpf ?_ ?_); · simp (disch := first | omega | decide) only [↓neg1, nlit, rI, rL, rI2, rL1, nI_add, pk_mul, sbT, dvT, nmd, ixT, ↓ibT, ltT, ltF, leT, leF, eqT, eqF, nM_ltT, nM_ltF, nM_leT, nM_leF, nM_eqF, nM_eqF', nbT0, nbT1, oI_s, oI_n, natF, natT, nltT, nltF, nleT, nleF, ↓reduceIte, lgc, not_true_eq_false, not_false_eq_true, or_false, false_or, or_true, true_or, and_true, true_and, and_false, false_and, ne_eq, eq_self, or_self, and_self]; done))
    exact ⟨g2, g3⟩
def potT (m : cS) (o M : Nat) (X : Nat → Option (Nat → Nat)) : Nat := sumP (fun i => potR m o (8 + dpn m (40 * M + i)) (X i)) (acn m M)
/-- what stands while the reference follows a METHOD -/
def RI (m : cS) (o M : Nat) (K ent : Nat → Nat) (w : cS) : Prop := RV m M w ∧ GOO m o M (RX w M) ∧ LEA m o M K ent (RX w M) ∧ (∃ g, RX w M 0 = some g ∧ lfF m o 8 ent g) ∧ nb (w.1 174 90)
theorem CM_inv {c m u w : cS} {o M i j : Nat} {K ent f : Nat → Nat} {T : (Nat → Nat) → Nat → Nat} (hX : FX c m o M K) (hent : okF (eln m o) 8 ent) (hI : RI m o M K ent u) (hi : i < acn m M) (hf : okF (eln m o) (8 + dpn m (40 * M + i)) f) (hfY : ∀ Y, GOO m o M Y → CLO m o M K ent Y → ∃ g, Y i = some g ∧ lfF m o (8 + dpn m (40 * M + i)) f g) (hj : j < acn m M) (hr : RCH m M j)
    (hmono : ∀ g, okF (eln m o) (8 + dpn m (40 * M + i)) g → lfF m o (8 + dpn m (40 * M + i)) f g → lfF m o (8 + dpn m (40 * M + j)) (T f) (T g)) (hTok : ∀ g, okF (eln m o) (8 + dpn m (40 * M + i)) g → okF (eln m o) (8 + dpn m (40 * M + j)) (T g))
    (hcl : ∀ Y, GOO m o M Y → CLO m o M K ent Y → ∀ g, Y i = some g → ∃ h, Y j = some h ∧ lfF m o (8 + dpn m (40 * M + j)) (T g) h) (hC : CMS m o M j (T f) u w) :
    RI m o M K ent w ∧ (∃ g, RX w M j = some g ∧ lfF m o (8 + dpn m (40 * M + j)) (T f) g) ∧ (∀ k h, k < acn m M → RX u M k = some h → ∃ g, RX w M k = some g ∧ lfF m o (8 + dpn m (40 * M + k)) h g) ∧ ((w.1 174 90 = u.1 174 90 ∧ ∀ k, RX w M k = RX u M k) ∨ (w.1 174 90 = nI 1 ∧ potT m o M (RX w M) < potT m o M (RX u M))) := by
  obtain ⟨i1, i2, i3, ⟨g0, i4, i5⟩, i6⟩ := hI
  obtain ⟨c1, c2, g, c3, c4, c5, c6, c7, c8⟩ := hC
  have hL := (FX_L hX).1
  have hsame : ∀ k, k ≠ j → RX w M k = RX u M k := fun k hk => RX_same c1 (by omega)
  have hup : ∀ k h, k < acn m M → RX u M k = some h → ∃ g, RX w M k = some g ∧ lfF m o (8 + dpn m (40 * M + k)) h g := by
    intro k h hk hh
    by_cases e : k = j
    · subst e
      exact ⟨g, c3, c6 h hh⟩
    · refine ⟨h, by rw [hsame k e]; exact hh, fun s hs => LA_refl hL ((i2 k h hk hh).2 s hs)⟩
  refine ⟨⟨c2, fun k h hk hh => ?_, fun Y hY hCl k h hk hh => ?_, ?_, ?_⟩, ⟨g, c3, c5⟩, hup, ?_⟩
  · by_cases e : k = j
    · subst e
      rw [c3] at hh
      cases hh
      exact ⟨hr, c4⟩
    · rw [hsame k e] at hh
      exact i2 k h hk hh
  · by_cases e : k = j
    · subst e
      rw [c3] at hh
      cases hh
      obtain ⟨gi, y1, y2⟩ := hfY Y hY hCl
      have yok := (hY i gi hi y1).2
      obtain ⟨hj', y3, y4⟩ := hcl Y hY hCl gi y1
      have hok := (hY k hj' hk y3).2
      refine ⟨hj', y3, c7 hj' hok (fun s hs => ?_) (fun h' hh' => ?_)⟩
      · exact LA_tr hL (hTok f hf s hs) (hTok gi yok s hs) (hok s hs) (hmono gi yok y2 s hs) (y4 s hs)
      · obtain ⟨z, z1, z2⟩ := i3 Y hY hCl k h' hk hh'
        rw [y3] at z1
        cases z1
        exact z2
    · rw [hsame k e] at hh
      exact i3 Y hY hCl k h hk hh
  · have hn1 := (FX_L hX).2.2.2.1
    obtain ⟨g1, g2, g3⟩ := hup 0 g0 (by omega) i4
    refine ⟨g1, g2, fun s hs => ?_⟩
    have hd0 := (RCH_0 hX.2.2.1 hX.2.2.2.1).2
    have o1 := (i2 0 g0 (by omega) i4).2 s (by omega)
    have o2 : g1 s < eln m o := by
      by_cases e : (0 : Nat) = j
      · subst e
        rw [c3] at g2
        cases g2
        exact c4 s (by omega)
      · rw [hsame 0 e] at g2
        exact (i2 0 g1 (by omega) g2).2 s (by omega)
    exact LA_tr hL (hent s hs) o1 o2 (i5 s hs) (g3 s (by omega))
  · rcases c8 with ⟨c8, -⟩ | ⟨c8, -⟩
    · rw [c8]
      exact i6
    · rw [c8]
      exact Or.inr rfl
  · rcases c8 with ⟨c8, c9⟩ | ⟨c8, c9⟩
    · refine Or.inl ⟨c8, fun k => ?_⟩
      by_cases e : k = j
      · rw [e]
        exact c9
      · exact hsame k e
    · refine Or.inr ⟨c8, ?_⟩
      have := sumP_up (f := fun i => potR m o (8 + dpn m (40 * M + i)) (RX u M i)) (g := fun i => potR m o (8 + dpn m (40 * M + i)) (RX w M i)) (j := j) (fun k hk => by show potR _ _ _ (RX w M k) = _; rw [hsame k hk]) (acn m M)
      rw [if_pos hj, if_pos hj] at this
      unfold potT
      omega
