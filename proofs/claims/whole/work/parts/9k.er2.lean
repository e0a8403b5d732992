/-! the calls error and step -/
theorem FLW_no {c u : cS} (h : PR3 c u) : (c.1 150 3 = nM ∧ u.1 174 97 = nM ∧ c.1 150 16 = nI 0) ∨ ∃ m o, AG m u ∧ PG c m ∧ WB m ∧ TLS c m ∧ FD m c u ∧ m.1 174 14 = nI 1 ∧ c.1 7 0 = nI 1 ∧ o < ocn m ∧ c.1 150 3 = nI o ∧ u.1 174 97 = nI o ∧ c.1 146 8 = nI 0 ∧ FOL c m o c ∧ FOR m o (fun p => TM m c p o) u ∧ SPS c u := by
  rcases h with ⟨h1, h2, h3⟩ | ⟨h1, m, h2, hA, hG, hB, hT, hF, hW⟩
  · exact Or.inl h3
  · rcases hW with h3 | ⟨o, w1, w2, w3, w4, w5, w6, w7⟩
    · exact Or.inl h3
    · exact Or.inr ⟨m, o, hA, hG, hB, hT, hF, h2, h1, w1, w2, w3, w4, w5, w6, w7⟩
theorem c_step {n : Nat} {a1 : Int32} {c u : cS} (h : PR3 c (pI u 174 0 0)) : br (d_76 n a1 c) (d_130 n a1 u) (fun w => w = pI u 174 0 0) := by
  unfold br d_76 d_130
  simp only [lt]
  generalize pI u 174 0 0 = k at h ⊢
  rcases FLW_no h with ⟨h1, h2, h3⟩ | ⟨m, o, hA, hG, hB, hT, hF, h2, h1, ho, w2, w3, w4, w5, w6, t, t1, t2, t3, t4⟩
  · by_cases e : a1 < nI 0
    · (try dsimp only); repeat (first | with_reducible refine wpl ?_ | with_reducible refine wpj ?_ | with_reducible refine wpSl ?_ | with_reducible refine wpSr ?_ | with_reducible refine wpS ?_ | ((with_reducible refine wpt ?_ ?_); · simp (disch := first | omega | decide) only [↓neg1, nlit, rI, rL, rI2, rL1, nI_add, pk_mul, sbT, dvT, nmd, ixT, ↓ibT, ltT, ltF, leT, leF, eqT, eqF, nM_ltT, nM_ltF, nM_leT, nM_leF, nM_eqF, nM_eqF', nbT0, nbT1, oI_s, oI_n, natF, natT, nltT, nltF, nleT, nleF, ↓reduceIte, lgc, not_true_eq_false, not_false_eq_true, or_false, false_or, or_true, true_or, and_true, true_and, and_false, false_and, ne_eq, eq_self, or_self, and_self, e, h1, h2, h3]; done) | ((with_reducible refine wpf ?_ ?_); · simp (disch := first | omega | decide) only [↓neg1, nlit, rI, rL, rI2, rL1, nI_add, pk_mul, sbT, dvT, nmd, ixT, ↓ibT, ltT, ltF, leT, leF, eqT, eqF, nM_ltT, nM_ltF, nM_leT, nM_leF, nM_eqF, nM_eqF', nbT0, nbT1, oI_s, oI_n, natF, natT, nltT, nltF, nleT, nleF, ↓reduceIte, lgc, not_true_eq_false, not_false_eq_true, or_false, false_or, or_true, true_or, and_true, true_and, and_false, false_and, ne_eq, eq_self, or_self, and_self, e, h1, h2, h3]; done))
      exact ⟨rfl, rfl⟩
    · (try dsimp only); repeat (first | with_reducible refine wpl ?_ | with_reducible refine wpj ?_ | with_reducible refine wpSl ?_ | with_reducible refine wpSr ?_ | with_reducible refine wpS ?_ | ((with_reducible refine wpt ?_ ?_); · simp (disch := first | omega | decide) only [↓neg1, nlit, rI, rL, rI2, rL1, nI_add, pk_mul, sbT, dvT, nmd, ixT, ↓ibT, ltT, ltF, leT, leF, eqT, eqF, nM_ltT, nM_ltF, nM_leT, nM_leF, nM_eqF, nM_eqF', nbT0, nbT1, oI_s, oI_n, natF, natT, nltT, nltF, nleT, nleF, ↓reduceIte, lgc, not_true_eq_false, not_false_eq_true, or_false, false_or, or_true, true_or, and_true, true_and, and_false, false_and, ne_eq, eq_self, or_self, and_self, e, h1, h2, h3]; done) | ((with_reducible refine wpf ?_ ?_); · simp (disch := first | omega | decide) only [↓neg1, nlit, rI, rL, rI2, rL1, nI_add, pk_mul, sbT, dvT, nmd, ixT, ↓ibT, ltT, ltF, leT, leF, eqT, eqF, nM_ltT, nM_ltF, nM_leT, nM_leF, nM_eqF, nM_eqF', nbT0, nbT1, oI_s, oI_n, natF, natT, nltT, nltF, nleT, nleF, ↓reduceIte, lgc, not_true_eq_false, not_false_eq_true, or_false, false_or, or_true, true_or, and_true, true_and, and_false, false_and, ne_eq, eq_self, or_self, and_self, e, h1, h2, h3]; done))
      exact ⟨rfl, rfl⟩
  · have ho4 := hG.1.1.1
    rcases rng a1 (N := t) (by omega) with ⟨g1, g2, g3, g⟩ | ⟨g1, g2, g3, g4, g⟩ | ⟨j, hj, rfl⟩
    · (try dsimp only); repeat (first | with_reducible refine wpl ?_ | with_reducible refine wpj ?_ | with_reducible refine wpSl ?_ | with_reducible refine wpSr ?_ | with_reducible refine wpS ?_ | ((with_reducible refine wpt ?_ ?_); · simp (disch := first | omega | decide) only [↓neg1, nlit, rI, rL, rI2, rL1, nI_add, pk_mul, sbT, dvT, nmd, ixT, ↓ibT, ltT, ltF, leT, leF, eqT, eqF, nM_ltT, nM_ltF, nM_leT, nM_leF, nM_eqF, nM_eqF', nbT0, nbT1, oI_s, oI_n, natF, natT, nltT, nltF, nleT, nleF, ↓reduceIte, lgc, not_true_eq_false, not_false_eq_true, or_false, false_or, or_true, true_or, and_true, true_and, and_false, false_and, ne_eq, eq_self, or_self, and_self, g1, w3]; done) | ((with_reducible refine wpf ?_ ?_); · simp (disch := first | omega | decide) only [↓neg1, nlit, rI, rL, rI2, rL1, nI_add, pk_mul, sbT, dvT, nmd, ixT, ↓ibT, ltT, ltF, leT, leF, eqT, eqF, nM_ltT, nM_ltF, nM_leT, nM_leF, nM_eqF, nM_eqF', nbT0, nbT1, oI_s, oI_n, natF, natT, nltT, nltF, nleT, nleF, ↓reduceIte, lgc, not_true_eq_false, not_false_eq_true, or_false, false_or, or_true, true_or, and_true, true_and, and_false, false_and, ne_eq, eq_self, or_self, and_self, g1, w3]; done))
      exact ⟨rfl, rfl⟩
    · (try dsimp only); repeat (first | with_reducible refine wpl ?_ | with_reducible refine wpj ?_ | with_reducible refine wpSl ?_ | with_reducible refine wpSr ?_ | with_reducible refine wpS ?_ | ((with_reducible refine wpt ?_ ?_); · simp (disch := first | omega | decide) only [↓neg1, nlit, rI, rL, rI2, rL1, nI_add, pk_mul, sbT, dvT, nmd, ixT, ↓ibT, ltT, ltF, leT, leF, eqT, eqF, nM_ltT, nM_ltF, nM_leT, nM_leF, nM_eqF, nM_eqF', nbT0, nbT1, oI_s, oI_n, natF, natT, nltT, nltF, nleT, nleF, ↓reduceIte, lgc, not_true_eq_false, not_false_eq_true, or_false, false_or, or_true, true_or, and_true, true_and, and_false, false_and, ne_eq, eq_self, or_self, and_self, g1, g3, g4, w3, t2, t3]; done) | ((with_reducible refine wpf ?_ ?_); · simp (disch := first | omega | decide) only [↓neg1, nlit, rI, rL, rI2, rL1, nI_add, pk_mul, sbT, dvT, nmd, ixT, ↓ibT, ltT, ltF, leT, leF, eqT, eqF, nM_ltT, nM_ltF, nM_leT, nM_leF, nM_eqF, nM_eqF', nbT0, nbT1, oI_s, oI_n, natF, natT, nltT, nltF, nleT, nleF, ↓reduceIte, lgc, not_true_eq_false, not_false_eq_true, or_false, false_or, or_true, true_or, and_true, true_and, and_false, false_and, ne_eq, eq_self, or_self, and_self, g1, g3, g4, w3, t2, t3]; done))
      exact ⟨rfl, rfl⟩
    · (try dsimp only); repeat (first | with_reducible refine wpl ?_ | with_reducible refine wpj ?_ | with_reducible refine wpSl ?_ | with_reducible refine wpSr ?_ | with_reducible refine wpS ?_ | ((with_reducible refine wpt ?_ ?_); · simp (disch := first | omega | decide) only [↓neg1, nlit, rI, rL, rI2, rL1, nI_add, pk_mul, sbT, dvT, nmd, ixT, ↓ibT, ltT, ltF, leT, leF, eqT, eqF, nM_ltT, nM_ltF, nM_leT, nM_leF, nM_eqF, nM_eqF', nbT0, nbT1, oI_s, oI_n, natF, natT, nltT, nltF, nleT, nleF, ↓reduceIte, lgc, not_true_eq_false, not_false_eq_true, or_false, false_or, or_true, true_or, and_true, true_and, and_false, false_and, ne_eq, eq_self, or_self, and_self, w3, t2, t3]; done) | ((with_reducible refine wpf ?_ ?_); · simp (disch := first | omega | decide) only [↓neg1, nlit, rI, rL, rI2, rL1, nI_add, pk_mul, sbT, dvT, nmd, ixT, ↓ibT, ltT, ltF, leT, leF, eqT, eqF, nM_ltT, nM_ltF, nM_leT, nM_leF, nM_eqF, nM_eqF', nbT0, nbT1, oI_s, oI_n, natF, natT, nltT, nltF, nleT, nleF, ↓reduceIte, lgc, not_true_eq_false, not_false_eq_true, or_false, false_or, or_true, true_or, and_true, true_and, and_false, false_and, ne_eq, eq_self, or_self, and_self, w3, t2, t3]; done))
      rw [ix_n (by omega)]
      exact ⟨t4 j hj, rfl⟩
theorem c_error {n : Nat} {a1 a2 : Int32} {c u : cS} (h : PR3 c (pI u 174 0 0)) : br (d_74 n a1 a2 c) (d_127 n a1 a2 u) (fun w => w = pI u 174 0 0) := by
  unfold br d_74 d_127
  simp only [lt]
  generalize pI u 174 0 0 = k at h ⊢
  rcases FLW_no h with ⟨h1, h2, h3⟩ | ⟨m, o, hA, hG, hB, hT, hF, h2, h1, ho, w2, w3, w4, w5, w6, w7⟩
  · refine wpe (show d_30 n a1 c = some (nI 0) by unfold d_30; simp (disch := first | omega | decide) only [↓neg1, nlit, rI, rL, rI2, rL1, nI_add, pk_mul, sbT, dvT, nmd, ixT, ↓ibT, ltT, ltF, leT, leF, eqT, eqF, nM_ltT, nM_ltF, nM_leT, nM_leF, nM_eqF, nM_eqF', nbT0, nbT1, oI_s, oI_n, natF, natT, nltT, nltF, nleT, nleF, ↓reduceIte, lgc, not_true_eq_false, not_false_eq_true, or_false, false_or, or_true, true_or, and_true, true_and, and_false, false_and, ne_eq, eq_self, or_self, and_self, obs, ↓jn, ↓lt, ↓reduceIte, decide_true, decide_false, Bool.false_eq_true, Bool.and_true, Bool.and_false, Bool.true_and, Bool.false_and, Bool.or_false, Bool.false_or, Bool.or_true, Bool.true_or, h1]) ?_
    (try dsimp only); repeat (first | with_reducible refine wpl ?_ | with_reducible refine wpj ?_ | with_reducible refine wpSl ?_ | with_reducible refine wpSr ?_ | with_reducible refine wpS ?_ | ((with_reducible refine wpt ?_ ?_); · simp (disch := first | omega | decide) only [↓neg1, nlit, rI, rL, rI2, rL1, nI_add, pk_mul, sbT, dvT, nmd, ixT, ↓ibT, ltT, ltF, leT, leF, eqT, eqF, nM_ltT, nM_ltF, nM_leT, nM_leF, nM_eqF, nM_eqF', nbT0, nbT1, oI_s, oI_n, natF, natT, nltT, nltF, nleT, nleF, ↓reduceIte, lgc, not_true_eq_false, not_false_eq_true, or_false, false_or, or_true, true_or, and_true, true_and, and_false, false_and, ne_eq, eq_self, or_self, and_self, h2]; done) | ((with_reducible refine wpf ?_ ?_); · simp (disch := first | omega | decide) only [↓neg1, nlit, rI, rL, rI2, rL1, nI_add, pk_mul, sbT, dvT, nmd, ixT, ↓ibT, ltT, ltF, leT, leF, eqT, eqF, nM_ltT, nM_ltF, nM_leT, nM_leF, nM_eqF, nM_eqF', nbT0, nbT1, oI_s, oI_n, natF, natT, nltT, nltF, nleT, nleF, ↓reduceIte, lgc, not_true_eq_false, not_false_eq_true, or_false, false_or, or_true, true_or, and_true, true_and, and_false, false_and, ne_eq, eq_self, or_self, and_self, h2]; done))
    exact ⟨rfl, rfl⟩
  have hE := hG.1
  have hC := hE.2.2.1
  have ho4 := hE.1.1
  have hMT := hG.2.2
  have hFC : FC c m k o := ⟨hG, hT, w4, hF, w2, ho⟩
  have hlist : erM m o (fun p => TM m c p o) (XC m o c) 96 = erM m o (fun p => TM m c p o) (RX k) 96 := erM_eq (c := c) (fun M hM => FC_X hFC hM) (fun M hM => (w5.2.1 M hM).1) (fun M hM => (w6.2.2.1 M hM).1) 96
  have hEC := w5.2.2
  have hER := w6.2.2.2
  rw [← hlist] at hER
  have hlen := erM_len (m := m) (o := o) (K := fun p => TM m c p o) (XX := XC m o c) 96
  have hB' := hB
  unfold WB at hB'
  have hin := fun x => erM_in (m := m) (o := o) (K := fun p => TM m c p o) (X := XC m o c) (x := x) 96
  generalize hL : erM m o (fun p => TM m c p o) (XC m o c) 96 = L at hEC hER hlen hin
  obtain ⟨c1, c2⟩ := hEC
  obtain ⟨r1, r2⟩ := hER
  rcases rng a1 (N := L.length) (by omega) with ⟨g1, g2, g3, g⟩ | ⟨g1, g2, g3, g4, g⟩ | ⟨j, hj, rfl⟩
  · refine wpe (show d_30 n a1 c = some (nI 0) by unfold d_30; simp (disch := first | omega | decide) only [↓neg1, nlit, rI, rL, rI2, rL1, nI_add, pk_mul, sbT, dvT, nmd, ixT, ↓ibT, ltT, ltF, leT, leF, eqT, eqF, nM_ltT, nM_ltF, nM_leT, nM_leF, nM_eqF, nM_eqF', nbT0, nbT1, oI_s, oI_n, natF, natT, nltT, nltF, nleT, nleF, ↓reduceIte, lgc, not_true_eq_false, not_false_eq_true, or_false, false_or, or_true, true_or, and_true, true_and, and_false, false_and, ne_eq, eq_self, or_self, and_self, obs, ↓jn, ↓lt, ↓reduceIte, decide_true, decide_false, Bool.false_eq_true, Bool.and_true, Bool.and_false, Bool.true_and, Bool.false_and, Bool.or_false, Bool.false_or, Bool.or_true, Bool.true_or, w2, g1]) ?_
    (try dsimp only); repeat (first | with_reducible refine wpl ?_ | with_reducible refine wpj ?_ | with_reducible refine wpSl ?_ | with_reducible refine wpSr ?_ | with_reducible refine wpS ?_ | ((with_reducible refine wpt ?_ ?_); · simp (disch := first | omega | decide) only [↓neg1, nlit, rI, rL, rI2, rL1, nI_add, pk_mul, sbT, dvT, nmd, ixT, ↓ibT, ltT, ltF, leT, leF, eqT, eqF, nM_ltT, nM_ltF, nM_leT, nM_leF, nM_eqF, nM_eqF', nbT0, nbT1, oI_s, oI_n, natF, natT, nltT, nltF, nleT, nleF, ↓reduceIte, lgc, not_true_eq_false, not_false_eq_true, or_false, false_or, or_true, true_or, and_true, true_and, and_false, false_and, ne_eq, eq_self, or_self, and_self, w3, g1]; done) | ((with_reducible refine wpf ?_ ?_); · simp (disch := first | omega | decide) only [↓neg1, nlit, rI, rL, rI2, rL1, nI_add, pk_mul, sbT, dvT, nmd, ixT, ↓ibT, ltT, ltF, leT, leF, eqT, eqF, nM_ltT, nM_ltF, nM_leT, nM_leF, nM_eqF, nM_eqF', nbT0, nbT1, oI_s, oI_n, natF, natT, nltT, nltF, nleT, nleF, ↓reduceIte, lgc, not_true_eq_false, not_false_eq_true, or_false, false_or, or_true, true_or, and_true, true_and, and_false, false_and, ne_eq, eq_self, or_self, and_self, w3, g1]; done))
    exact ⟨rfl, rfl⟩
  · refine wpe (show d_30 n a1 c = some (nI 0) by unfold d_30; simp (disch := first | omega | decide) only [↓neg1, nlit, rI, rL, rI2, rL1, nI_add, pk_mul, sbT, dvT, nmd, ixT, ↓ibT, ltT, ltF, leT, leF, eqT, eqF, nM_ltT, nM_ltF, nM_leT, nM_leF, nM_eqF, nM_eqF', nbT0, nbT1, oI_s, oI_n, natF, natT, nltT, nltF, nleT, nleF, ↓reduceIte, lgc, not_true_eq_false, not_false_eq_true, or_false, false_or, or_true, true_or, and_true, true_and, and_false, false_and, ne_eq, eq_self, or_self, and_self, obs, ↓jn, ↓lt, ↓reduceIte, decide_true, decide_false, Bool.false_eq_true, Bool.and_true, Bool.and_false, Bool.true_and, Bool.false_and, Bool.or_false, Bool.false_or, Bool.or_true, Bool.true_or, w2, g1, c1, g3]) ?_
    (try dsimp only); repeat (first | with_reducible refine wpl ?_ | with_reducible refine wpj ?_ | with_reducible refine wpSl ?_ | with_reducible refine wpSr ?_ | with_reducible refine wpS ?_ | ((with_reducible refine wpt ?_ ?_); · simp (disch := first | omega | decide) only [↓neg1, nlit, rI, rL, rI2, rL1, nI_add, pk_mul, sbT, dvT, nmd, ixT, ↓ibT, ltT, ltF, leT, leF, eqT, eqF, nM_ltT, nM_ltF, nM_leT, nM_leF, nM_eqF, nM_eqF', nbT0, nbT1, oI_s, oI_n, natF, natT, nltT, nltF, nleT, nleF, ↓reduceIte, lgc, not_true_eq_false, not_false_eq_true, or_false, false_or, or_true, true_or, and_true, true_and, and_false, false_and, ne_eq, eq_self, or_self, and_self, w3, g1, r1, g4]; done) | ((with_reducible refine wpf ?_ ?_); · simp (disch := first | omega | decide) only [↓neg1, nlit, rI, rL, rI2, rL1, nI_add, pk_mul, sbT, dvT, nmd, ixT, ↓ibT, ltT, ltF, leT, leF, eqT, eqF, nM_ltT, nM_ltF, nM_leT, nM_leF, nM_eqF, nM_eqF', nbT0, nbT1, oI_s, oI_n, natF, natT, nltT, nltF, nleT, nleF, ↓reduceIte, lgc, not_true_eq_false, not_false_eq_true, or_false, false_or, or_true, true_or, and_true, true_and, and_false, false_and, ne_eq, eq_self, or_self, and_self, w3, g1, r1, g4]; done))
    exact ⟨rfl, rfl⟩
  obtain ⟨x, hx⟩ : ∃ x, L[j]? = some x := ⟨L[j], List.getElem?_eq_getElem hj⟩
  have hmem : x ∈ L := List.mem_of_getElem? hx
  obtain ⟨xM, xi, xk, f, xf, xh, xw⟩ := hin x hmem
  have q1 := c2 j x hx
  obtain ⟨q2, q3, q4, q5, q6⟩ := r2 j x hx
  have hac := MTS_ac hMT xM xi
  have hR := hac.2.2.2.2.2.2.1
  have hw4 := wnt_le hC hR
  have hM96 := isMt_lt hC xM
  have hn40 := (FX_L (FC_X hFC xM)).2.2.1
  have hmt := (hMT.2.1 x.1 xM).1
  have h119 := hmt.2.2.2.2.2.2.2.1
  have hF1 := hmt.2.2.2.2.2.2.2.2
  obtain ⟨y1, y2⟩ := CX_some xf
  obtain ⟨z1, z2, z3⟩ := GD_ok (w5.2.1 x.1 xM).2 (FX_L (FC_X hFC xM)).2.2.2.2 xi y1
  have hb := wts_b z1 xk
  have hav : x.2.2.2.1 = nbl (c.2 151 (fa c x.1 + x.2.1)) (wts m (40 * x.1 + x.2.1) x.2.2.1) := by
    rw [xh, y2]
    exact if_neg (by omega)
  have h3 := z1.2.2.1
  obtain ⟨s', hP, hs'⟩ := wtp_P hC xM hR xk
  have hK := (FC_K (n := n) hFC hP hs').1
  have h156 : d_156 n (nI x.1) = some (nI (100 * (x.1 / 8) + 20 + 10 * (x.1 % 8))) := by
    have h := e156 (n := n) (k := x.1 / 8) (j := x.1 % 8) (by omega) (by omega)
    rwa [show x.1 / 8 * 8 + x.1 % 8 = x.1 by omega] at h
  have h422 : d_422 n (nI x.1) = some (nI (100 * (x.1 / 8) + 20 + 10 * (x.1 % 8))) := by
    have h := e422 (n := n) (k := x.1 / 8) (j := x.1 % 8) (by omega) (by omega)
    rwa [show 8 * (x.1 / 8) + x.1 % 8 = x.1 by omega] at h
  refine wpe (show d_30 n (nI j) c = some (nI 1) by unfold d_30; simp (disch := first | omega | decide) only [↓neg1, nlit, rI, rL, rI2, rL1, nI_add, pk_mul, sbT, dvT, nmd, ixT, ↓ibT, ltT, ltF, leT, leF, eqT, eqF, nM_ltT, nM_ltF, nM_leT, nM_leF, nM_eqF, nM_eqF', nbT0, nbT1, oI_s, oI_n, natF, natT, nltT, nltF, nleT, nleF, ↓reduceIte, lgc, not_true_eq_false, not_false_eq_true, or_false, false_or, or_true, true_or, and_true, true_and, and_false, false_and, ne_eq, eq_self, or_self, and_self, obs, ↓jn, ↓lt, ↓reduceIte, decide_true, decide_false, Bool.false_eq_true, Bool.and_true, Bool.and_false, Bool.true_and, Bool.false_and, Bool.or_false, Bool.false_or, Bool.or_true, Bool.true_or, w2, c1]) (wpj (wpf (by decide) ?_))
  refine wpc (K' := fun r => (a2 = nI 0 ∧ r = nI (100 * (x.1 / 8) + 20 + 10 * (x.1 % 8))) ∨ (a2 = nI 1 ∧ r = nI x.2.1) ∨ (a2 = nI 2 ∧ r = nI x.2.2.1) ∨ (a2 = nI 3 ∧ r = nI x.2.2.2.1) ∨ (a2 = nI 4 ∧ r = nI x.2.2.2.2) ∨ (a2 ≠ nI 0 ∧ a2 ≠ nI 1 ∧ a2 ≠ nI 2 ∧ a2 ≠ nI 3 ∧ a2 ≠ nI 4 ∧ r = nM)) ?_ (fun r hr => ?_)
  · unfold d_207
    generalize hz : x.1 * 160 + x.2.1 * 4 + x.2.2.1 = z at q1
    have i0 : ix (nI j) = j := ix_n (by omega)
    have v3 : nI z / 160 = nI x.1 := by
      rw [show nI z / 160 = nI (z / 160) from dvT (by omega) (by decide) (by decide)]
      exact congrArg nI (by omega)
    have v7 : (nI z - nI z / 160 * 160) / 4 = nI x.2.1 := by
      rw [show nI z - nI z / 160 * 160 = nI (z % 160) from pk_rem (d := 160) (by omega) (by decide) (by decide), show nI (z % 160) / 4 = nI (z % 160 / 4) from dvT (by omega) (by decide) (by decide)]
      exact congrArg nI (by omega)
    have v11 : nI z - nI z / 4 * 4 = nI x.2.2.1 := by
      rw [show nI z - nI z / 4 * 4 = nI (z % 4) from pk_rem (d := 4) (by omega) (by decide) (by decide)]
      exact congrArg nI (by omega)
    refine wpt (by simp (disch := first | omega | decide) only [↓neg1, nlit, rI, rL, rI2, rL1, nI_add, pk_mul, sbT, dvT, nmd, ixT, ↓ibT, ltT, ltF, leT, leF, eqT, eqF, nM_ltT, nM_ltF, nM_leT, nM_leF, nM_eqF, nM_eqF', nbT0, nbT1, oI_s, oI_n, natF, natT, nltT, nltF, nleT, nleF, ↓reduceIte, lgc, not_true_eq_false, not_false_eq_true, or_false, false_or, or_true, true_or, and_true, true_and, and_false, false_and, ne_eq, eq_self, or_self, and_self]) ?_
    rw [i0, q1, v7, v11, v3]
    refine wpl (wpt (by simp (disch := first | omega | decide) only [↓neg1, nlit, rI, rL, rI2, rL1, nI_add, pk_mul, sbT, dvT, nmd, ixT, ↓ibT, ltT, ltF, leT, leF, eqT, eqF, nM_ltT, nM_ltF, nM_leT, nM_leF, nM_eqF, nM_eqF', nbT0, nbT1, oI_s, oI_n, natF, natT, nltT, nltF, nleT, nleF, ↓reduceIte, lgc, not_true_eq_false, not_false_eq_true, or_false, false_or, or_true, true_or, and_true, true_and, and_false, false_and, ne_eq, eq_self, or_self, and_self]) (wpl (wpt (by simp (disch := first | omega | decide) only [↓neg1, nlit, rI, rL, rI2, rL1, nI_add, pk_mul, sbT, dvT, nmd, ixT, ↓ibT, ltT, ltF, leT, leF, eqT, eqF, nM_ltT, nM_ltF, nM_leT, nM_leF, nM_eqF, nM_eqF', nbT0, nbT1, oI_s, oI_n, natF, natT, nltT, nltF, nleT, nleF, ↓reduceIte, lgc, not_true_eq_false, not_false_eq_true, or_false, false_or, or_true, true_or, and_true, true_and, and_false, false_and, ne_eq, eq_self, or_self, and_self]) (wpl (wpt (by simp (disch := first | omega | decide) only [↓neg1, nlit, rI, rL, rI2, rL1, nI_add, pk_mul, sbT, dvT, nmd, ixT, ↓ibT, ltT, ltF, leT, leF, eqT, eqF, nM_ltT, nM_ltF, nM_leT, nM_leF, nM_eqF, nM_eqF', nbT0, nbT1, oI_s, oI_n, natF, natT, nltT, nltF, nleT, nleF, ↓reduceIte, lgc, not_true_eq_false, not_false_eq_true, or_false, false_or, or_true, true_or, and_true, true_and, and_false, false_and, ne_eq, eq_self, or_self, and_self]) ?_)))))
    rw [ix_n (by omega), h119, nI_add]
    refine wpl ?_
    by_cases e0 : a2 = nI 0
    · refine wpt e0 (wpe h156 (Or.inl ⟨e0, rfl⟩))
    refine wpf e0 ?_
    by_cases e1 : a2 = nI 1
    · exact wpt e1 (Or.inr (Or.inl ⟨e1, rfl⟩))
    refine wpf e1 ?_
    by_cases e2 : a2 = nI 2
    · exact wpt e2 (Or.inr (Or.inr (Or.inl ⟨e2, rfl⟩)))
    refine wpf e2 ?_
    by_cases e3 : a2 = nI 3
    · refine wpt e3 (wpt (by simp (disch := first | omega | decide) only [↓neg1, nlit, rI, rL, rI2, rL1, nI_add, pk_mul, sbT, dvT, nmd, ixT, ↓ibT, ltT, ltF, leT, leF, eqT, eqF, nM_ltT, nM_ltF, nM_leT, nM_leF, nM_eqF, nM_eqF', nbT0, nbT1, oI_s, oI_n, natF, natT, nltT, nltF, nleT, nleF, ↓reduceIte, lgc, not_true_eq_false, not_false_eq_true, or_false, false_or, or_true, true_or, and_true, true_and, and_false, false_and, ne_eq, eq_self, or_self, and_self]) (wpe (e170 hMT xM xi z1 rfl xk) ?_))
      rw [ix_n (by omega)]
      refine wpe (e355 (by omega)) ?_
      exact Or.inr (Or.inr (Or.inr (Or.inl ⟨e3, by rw [hav]⟩)))
    refine wpf e3 ?_
    by_cases e4 : a2 = nI 4
    · refine wpt e4 (wpe (e169 hMT hC xM xi rfl xk) ?_)
      rw [w2]
      refine wpe hK ?_
      exact Or.inr (Or.inr (Or.inr (Or.inr (Or.inl ⟨e4, by rw [xw]⟩))))
    refine wpf e4 ?_
    exact Or.inr (Or.inr (Or.inr (Or.inr (Or.inr ⟨e0, e1, e2, e3, e4, rfl⟩))))
  · have i0 : ix (nI j) = j := ix_n (by omega)
    show wp _ _
    refine wpj (wpf (by rw [w3]; simp (disch := first | omega | decide) only [↓neg1, nlit, rI, rL, rI2, rL1, nI_add, pk_mul, sbT, dvT, nmd, ixT, ↓ibT, ltT, ltF, leT, leF, eqT, eqF, nM_ltT, nM_ltF, nM_leT, nM_leF, nM_eqF, nM_eqF', nbT0, nbT1, oI_s, oI_n, natF, natT, nltT, nltF, nleT, nleF, ↓reduceIte, lgc, not_true_eq_false, not_false_eq_true, or_false, false_or, or_true, true_or, and_true, true_and, and_false, false_and, ne_eq, eq_self, or_self, and_self]) (wpf (by simp (disch := first | omega | decide) only [↓neg1, nlit, rI, rL, rI2, rL1, nI_add, pk_mul, sbT, dvT, nmd, ixT, ↓ibT, ltT, ltF, leT, leF, eqT, eqF, nM_ltT, nM_ltF, nM_leT, nM_leF, nM_eqF, nM_eqF', nbT0, nbT1, oI_s, oI_n, natF, natT, nltT, nltF, nleT, nleF, ↓reduceIte, lgc, not_true_eq_false, not_false_eq_true, or_false, false_or, or_true, true_or, and_true, true_and, and_false, false_and, ne_eq, eq_self, or_self, and_self]) (wpt (by rw [r1]; simp (disch := first | omega | decide) only [↓neg1, nlit, rI, rL, rI2, rL1, nI_add, pk_mul, sbT, dvT, nmd, ixT, ↓ibT, ltT, ltF, leT, leF, eqT, eqF, nM_ltT, nM_ltF, nM_leT, nM_leF, nM_eqF, nM_eqF', nbT0, nbT1, oI_s, oI_n, natF, natT, nltT, nltF, nleT, nleF, ↓reduceIte, lgc, not_true_eq_false, not_false_eq_true, or_false, false_or, or_true, true_or, and_true, true_and, and_false, false_and, ne_eq, eq_self, or_self, and_self]) ?_)))
    rw [i0, q2, q3, q4, q5, q6]
    rcases hr with ⟨e, rfl⟩ | ⟨e, rfl⟩ | ⟨e, rfl⟩ | ⟨e, rfl⟩ | ⟨e, rfl⟩ | ⟨e0, e1, e2, e3, e4, rfl⟩
    · exact wpt e (wpt (by simp (disch := first | omega | decide) only [↓neg1, nlit, rI, rL, rI2, rL1, nI_add, pk_mul, sbT, dvT, nmd, ixT, ↓ibT, ltT, ltF, leT, leF, eqT, eqF, nM_ltT, nM_ltF, nM_leT, nM_leF, nM_eqF, nM_eqF', nbT0, nbT1, oI_s, oI_n, natF, natT, nltT, nltF, nleT, nleF, ↓reduceIte, lgc, not_true_eq_false, not_false_eq_true, or_false, false_or, or_true, true_or, and_true, true_and, and_false, false_and, ne_eq, eq_self, or_self, and_self]) (wpe h422 ⟨rfl, rfl⟩))
    · refine wpf (by rw [e]; decide) (wpt e (wpt (by simp (disch := first | omega | decide) only [↓neg1, nlit, rI, rL, rI2, rL1, nI_add, pk_mul, sbT, dvT, nmd, ixT, ↓ibT, ltT, ltF, leT, leF, eqT, eqF, nM_ltT, nM_ltF, nM_leT, nM_leF, nM_eqF, nM_eqF', nbT0, nbT1, oI_s, oI_n, natF, natT, nltT, nltF, nleT, nleF, ↓reduceIte, lgc, not_true_eq_false, not_false_eq_true, or_false, false_or, or_true, true_or, and_true, true_and, and_false, false_and, ne_eq, eq_self, or_self, and_self]) ⟨rfl, rfl⟩))
    · refine wpf (by rw [e]; decide) (wpf (by rw [e]; decide) (wpt e (wpt (by simp (disch := first | omega | decide) only [↓neg1, nlit, rI, rL, rI2, rL1, nI_add, pk_mul, sbT, dvT, nmd, ixT, ↓ibT, ltT, ltF, leT, leF, eqT, eqF, nM_ltT, nM_ltF, nM_leT, nM_leF, nM_eqF, nM_eqF', nbT0, nbT1, oI_s, oI_n, natF, natT, nltT, nltF, nleT, nleF, ↓reduceIte, lgc, not_true_eq_false, not_false_eq_true, or_false, false_or, or_true, true_or, and_true, true_and, and_false, false_and, ne_eq, eq_self, or_self, and_self]) ⟨rfl, rfl⟩)))
    · refine wpf (by rw [e]; decide) (wpf (by rw [e]; decide) (wpf (by rw [e]; decide) (wpt e (wpt (by simp (disch := first | omega | decide) only [↓neg1, nlit, rI, rL, rI2, rL1, nI_add, pk_mul, sbT, dvT, nmd, ixT, ↓ibT, ltT, ltF, leT, leF, eqT, eqF, nM_ltT, nM_ltF, nM_leT, nM_leF, nM_eqF, nM_eqF', nbT0, nbT1, oI_s, oI_n, natF, natT, nltT, nltF, nleT, nleF, ↓reduceIte, lgc, not_true_eq_false, not_false_eq_true, or_false, false_or, or_true, true_or, and_true, true_and, and_false, false_and, ne_eq, eq_self, or_self, and_self]) ⟨rfl, rfl⟩))))
    · refine wpf (by rw [e]; decide) (wpf (by rw [e]; decide) (wpf (by rw [e]; decide) (wpf (by rw [e]; decide) (wpt e (wpt (by simp (disch := first | omega | decide) only [↓neg1, nlit, rI, rL, rI2, rL1, nI_add, pk_mul, sbT, dvT, nmd, ixT, ↓ibT, ltT, ltF, leT, leF, eqT, eqF, nM_ltT, nM_ltF, nM_leT, nM_leF, nM_eqF, nM_eqF', nbT0, nbT1, oI_s, oI_n, natF, natT, nltT, nltF, nleT, nleF, ↓reduceIte, lgc, not_true_eq_false, not_false_eq_true, or_false, false_or, or_true, true_or, and_true, true_and, and_false, false_and, ne_eq, eq_self, or_self, and_self]) ⟨rfl, rfl⟩)))))
    · exact wpf e0 (wpf e1 (wpf e2 (wpf e3 (wpf e4 ⟨rfl, rfl⟩))))
