/-! markOf, flow, way, weave: over one snapshot (by wip/whole/mksam.py) -/
def PX2 (m c u : cS) : Prop := (c.1 7 0 = nI 0 ∧ u.1 174 14 = nI 0) ∨ (c.1 7 0 = nI 1 ∧ m.1 174 14 = nI 1 ∧ AG m u ∧ PG c m ∧ TLS c m ∧ FD m c u)
def PXm (m c u : cS) : Prop := (c.1 7 0 = nI 0 ∧ u.1 174 14 = nI 0 ∧ c.1 150 3 = nM ∧ u.1 174 97 = nM ∧ c.1 150 16 = nI 0) ∨ (c.1 7 0 = nI 1 ∧ m.1 174 14 = nI 1 ∧ AG m u ∧ PG c m ∧ WB m ∧ TLS c m ∧ FD m c u ∧ FLW m c u)
def PX4 (m c u : cS) : Prop := (c.1 7 0 = nI 0 ∧ u.1 174 14 = nI 0 ∧ c.1 150 3 = nM ∧ u.1 174 97 = nM ∧ c.1 150 16 = nI 0) ∨ (c.1 7 0 = nI 1 ∧ m.1 174 14 = nI 1 ∧ AG m u ∧ PG c m ∧ WB m ∧ TLS c m ∧ FD m c u ∧ FLW m c u ∧ CHK m c u)
theorem PXm_3 {m c u : cS} (h : PXm m c u) : PR3 c u := by
  rcases h with h | ⟨h1, h2, h3⟩
  · exact Or.inl h
  · exact Or.inr ⟨h1, m, h2, h3⟩
theorem FLW_nom {m c u : cS} (h : PXm m c u) : (c.1 150 3 = nM ∧ u.1 174 97 = nM ∧ c.1 150 16 = nI 0) ∨ ∃ o, AG m u ∧ PG c m ∧ WB m ∧ TLS c m ∧ FD m c u ∧ m.1 174 14 = nI 1 ∧ c.1 7 0 = nI 1 ∧ o < ocn m ∧ c.1 150 3 = nI o ∧ u.1 174 97 = nI o ∧ c.1 146 8 = nI 0 ∧ FOL c m o c ∧ FOR m o (fun p => TM m c p o) u ∧ SPS c u := by
  rcases h with ⟨h1, h2, h3⟩ | ⟨h1, h2, hA, hG, hB, hT, hF, hW⟩
  · exact Or.inl h3
  · rcases hW with h3 | ⟨o, w1, w2, w3, w4, w5, w6, w7⟩
    · exact Or.inl h3
    · exact Or.inr ⟨o, hA, hG, hB, hT, hF, h2, h1, w1, w2, w3, w4, w5, w6, w7⟩
theorem c_markOfm {n : Nat} {a1 a2 : Int32} {c m u : cS} (hn : 2000 ≤ n) (h : PX2 m c (pI u 174 0 0)) : bo (d_71 n a1 a2 c) (d_125 n a1 a2 u) (fun d w => sx qL c d ∧ sx qR (pI u 174 0 0) w ∧ PX2 m d w ∧ (d = c ∨ d.1 146 8 = nI 0)) := by
  unfold bo d_71 d_125 lt
  generalize pI u 174 0 0 = k at h ⊢
  rcases h with ⟨h1, h2⟩ | ⟨h1, h2, hA, hG, hT, hF⟩
  · obtain ⟨p1, p2⟩ := pl0 (n := n) (a := a1) h1 h2
    refine wpe p1 ?_
    (try dsimp only); repeat (first | with_reducible refine wpl ?_ | with_reducible refine wpj ?_ | with_reducible refine wpSl ?_ | with_reducible refine wpSr ?_ | with_reducible refine wpS ?_ | ((with_reducible refine wpt ?_ ?_); · simp (disch := first | omega | decide) only [↓neg1, nlit, rI, rL, rI2, rL1, nI_add, pk_mul, sbT, dvT, nmd, ixT, ↓ibT, ltT, ltF, leT, leF, eqT, eqF, nM_ltT, nM_ltF, nM_leT, nM_leF, nM_eqF, nM_eqF', nbT0, nbT1, oI_s, oI_n, natF, natT, nltT, nltF, nleT, nleF, ↓reduceIte, lgc, not_true_eq_false, not_false_eq_true, or_false, false_or, or_true, true_or, and_true, true_and, and_false, false_and, ne_eq, eq_self, or_self, and_self]; done) | ((with_reducible refine wpf ?_ ?_); · simp (disch := first | omega | decide) only [↓neg1, nlit, rI, rL, rI2, rL1, nI_add, pk_mul, sbT, dvT, nmd, ixT, ↓ibT, ltT, ltF, leT, leF, eqT, eqF, nM_ltT, nM_ltF, nM_leT, nM_leF, nM_eqF, nM_eqF', nbT0, nbT1, oI_s, oI_n, natF, natT, nltT, nltF, nleT, nleF, ↓reduceIte, lgc, not_true_eq_false, not_false_eq_true, or_false, false_or, or_true, true_or, and_true, true_and, and_false, false_and, ne_eq, eq_self, or_self, and_self]; done))
    refine wpe (show d_112 n a1 k = some (nI 0) by unfold d_112; simp (disch := first | omega | decide) only [↓neg1, nlit, rI, rL, rI2, rL1, nI_add, pk_mul, sbT, dvT, nmd, ixT, ↓ibT, ltT, ltF, leT, leF, eqT, eqF, nM_ltT, nM_ltF, nM_leT, nM_leF, nM_eqF, nM_eqF', nbT0, nbT1, oI_s, oI_n, natF, natT, nltT, nltF, nleT, nleF, ↓reduceIte, lgc, not_true_eq_false, not_false_eq_true, or_false, false_or, or_true, true_or, and_true, true_and, and_false, false_and, ne_eq, eq_self, or_self, and_self, obs, ↓jn, ↓lt, ↓reduceIte, decide_true, decide_false, Bool.false_eq_true, Bool.and_true, Bool.and_false, Bool.true_and, Bool.false_and, Bool.or_false, Bool.false_or, Bool.or_true, Bool.true_or, p2]) ?_
    (try dsimp only); repeat (first | with_reducible refine wpl ?_ | with_reducible refine wpj ?_ | with_reducible refine wpSl ?_ | with_reducible refine wpSr ?_ | with_reducible refine wpS ?_ | ((with_reducible refine wpt ?_ ?_); · simp (disch := first | omega | decide) only [↓neg1, nlit, rI, rL, rI2, rL1, nI_add, pk_mul, sbT, dvT, nmd, ixT, ↓ibT, ltT, ltF, leT, leF, eqT, eqF, nM_ltT, nM_ltF, nM_leT, nM_leF, nM_eqF, nM_eqF', nbT0, nbT1, oI_s, oI_n, natF, natT, nltT, nltF, nleT, nleF, ↓reduceIte, lgc, not_true_eq_false, not_false_eq_true, or_false, false_or, or_true, true_or, and_true, true_and, and_false, false_and, ne_eq, eq_self, or_self, and_self]; done) | ((with_reducible refine wpf ?_ ?_); · simp (disch := first | omega | decide) only [↓neg1, nlit, rI, rL, rI2, rL1, nI_add, pk_mul, sbT, dvT, nmd, ixT, ↓ibT, ltT, ltF, leT, leF, eqT, eqF, nM_ltT, nM_ltF, nM_leT, nM_leF, nM_eqF, nM_eqF', nbT0, nbT1, oI_s, oI_n, natF, natT, nltT, nltF, nleT, nleF, ↓reduceIte, lgc, not_true_eq_false, not_false_eq_true, or_false, false_or, or_true, true_or, and_true, true_and, and_false, false_and, ne_eq, eq_self, or_self, and_self]; done))
    exact ⟨rfl, sx_rfl, sx_rfl, Or.inl ⟨h1, h2⟩, Or.inl rfl⟩
  have hsame : PX2 m c k := Or.inr ⟨h1, h2, hA, hG, hT, hF⟩
  obtain ⟨hE, -, -⟩ := id hG
  obtain ⟨hO, hK, hC, hP⟩ := id hE
  rcases plA (n := n) (a := a1) h1 h2 hA hC with ⟨p1, p2⟩ | ⟨p, s, p1, rfl, p3, p4, p5, p6, p7⟩
  · refine wpe p1 ?_
    (try dsimp only); repeat (first | with_reducible refine wpl ?_ | with_reducible refine wpj ?_ | with_reducible refine wpSl ?_ | with_reducible refine wpSr ?_ | with_reducible refine wpS ?_ | ((with_reducible refine wpt ?_ ?_); · simp (disch := first | omega | decide) only [↓neg1, nlit, rI, rL, rI2, rL1, nI_add, pk_mul, sbT, dvT, nmd, ixT, ↓ibT, ltT, ltF, leT, leF, eqT, eqF, nM_ltT, nM_ltF, nM_leT, nM_leF, nM_eqF, nM_eqF', nbT0, nbT1, oI_s, oI_n, natF, natT, nltT, nltF, nleT, nleF, ↓reduceIte, lgc, not_true_eq_false, not_false_eq_true, or_false, false_or, or_true, true_or, and_true, true_and, and_false, false_and, ne_eq, eq_self, or_self, and_self]; done) | ((with_reducible refine wpf ?_ ?_); · simp (disch := first | omega | decide) only [↓neg1, nlit, rI, rL, rI2, rL1, nI_add, pk_mul, sbT, dvT, nmd, ixT, ↓ibT, ltT, ltF, leT, leF, eqT, eqF, nM_ltT, nM_ltF, nM_leT, nM_leF, nM_eqF, nM_eqF', nbT0, nbT1, oI_s, oI_n, natF, natT, nltT, nltF, nleT, nleF, ↓reduceIte, lgc, not_true_eq_false, not_false_eq_true, or_false, false_or, or_true, true_or, and_true, true_and, and_false, false_and, ne_eq, eq_self, or_self, and_self]; done))
    refine wpe (show d_112 n a1 k = some (nI 0) by unfold d_112; simp (disch := first | omega | decide) only [↓neg1, nlit, rI, rL, rI2, rL1, nI_add, pk_mul, sbT, dvT, nmd, ixT, ↓ibT, ltT, ltF, leT, leF, eqT, eqF, nM_ltT, nM_ltF, nM_leT, nM_leF, nM_eqF, nM_eqF', nbT0, nbT1, oI_s, oI_n, natF, natT, nltT, nltF, nleT, nleF, ↓reduceIte, lgc, not_true_eq_false, not_false_eq_true, or_false, false_or, or_true, true_or, and_true, true_and, and_false, false_and, ne_eq, eq_self, or_self, and_self, obs, ↓jn, ↓lt, ↓reduceIte, decide_true, decide_false, Bool.false_eq_true, Bool.and_true, Bool.and_false, Bool.true_and, Bool.false_and, Bool.or_false, Bool.false_or, Bool.or_true, Bool.true_or, p2]) ?_
    (try dsimp only); repeat (first | with_reducible refine wpl ?_ | with_reducible refine wpj ?_ | with_reducible refine wpSl ?_ | with_reducible refine wpSr ?_ | with_reducible refine wpS ?_ | ((with_reducible refine wpt ?_ ?_); · simp (disch := first | omega | decide) only [↓neg1, nlit, rI, rL, rI2, rL1, nI_add, pk_mul, sbT, dvT, nmd, ixT, ↓ibT, ltT, ltF, leT, leF, eqT, eqF, nM_ltT, nM_ltF, nM_leT, nM_leF, nM_eqF, nM_eqF', nbT0, nbT1, oI_s, oI_n, natF, natT, nltT, nltF, nleT, nleF, ↓reduceIte, lgc, not_true_eq_false, not_false_eq_true, or_false, false_or, or_true, true_or, and_true, true_and, and_false, false_and, ne_eq, eq_self, or_self, and_self]; done) | ((with_reducible refine wpf ?_ ?_); · simp (disch := first | omega | decide) only [↓neg1, nlit, rI, rL, rI2, rL1, nI_add, pk_mul, sbT, dvT, nmd, ixT, ↓ibT, ltT, ltF, leT, leF, eqT, eqF, nM_ltT, nM_ltF, nM_leT, nM_leF, nM_eqF, nM_eqF', nbT0, nbT1, oI_s, oI_n, natF, natT, nltT, nltF, nleT, nleF, ↓reduceIte, lgc, not_true_eq_false, not_false_eq_true, or_false, false_or, or_true, true_or, and_true, true_and, and_false, false_and, ne_eq, eq_self, or_self, and_self]; done))
    exact ⟨rfl, sx_rfl, sx_rfl, hsame, Or.inl rfl⟩
  refine wpe p5 ?_
  by_cases hs : s = 0
  · subst hs
    (try dsimp only); repeat (first | with_reducible refine wpl ?_ | with_reducible refine wpj ?_ | with_reducible refine wpSl ?_ | with_reducible refine wpSr ?_ | with_reducible refine wpS ?_ | ((with_reducible refine wpt ?_ ?_); · simp (disch := first | omega | decide) only [↓neg1, nlit, rI, rL, rI2, rL1, nI_add, pk_mul, sbT, dvT, nmd, ixT, ↓ibT, ltT, ltF, leT, leF, eqT, eqF, nM_ltT, nM_ltF, nM_leT, nM_leF, nM_eqF, nM_eqF', nbT0, nbT1, oI_s, oI_n, natF, natT, nltT, nltF, nleT, nleF, ↓reduceIte, lgc, not_true_eq_false, not_false_eq_true, or_false, false_or, or_true, true_or, and_true, true_and, and_false, false_and, ne_eq, eq_self, or_self, and_self]; done) | ((with_reducible refine wpf ?_ ?_); · simp (disch := first | omega | decide) only [↓neg1, nlit, rI, rL, rI2, rL1, nI_add, pk_mul, sbT, dvT, nmd, ixT, ↓ibT, ltT, ltF, leT, leF, eqT, eqF, nM_ltT, nM_ltF, nM_leT, nM_leF, nM_eqF, nM_eqF', nbT0, nbT1, oI_s, oI_n, natF, natT, nltT, nltF, nleT, nleF, ↓reduceIte, lgc, not_true_eq_false, not_false_eq_true, or_false, false_or, or_true, true_or, and_true, true_and, and_false, false_and, ne_eq, eq_self, or_self, and_self]; done))
    refine wpe (show d_112 n (nI p) k = some (nI 0) by unfold d_112; simp (disch := first | omega | decide) only [↓neg1, nlit, rI, rL, rI2, rL1, nI_add, pk_mul, sbT, dvT, nmd, ixT, ↓ibT, ltT, ltF, leT, leF, eqT, eqF, nM_ltT, nM_ltF, nM_leT, nM_leF, nM_eqF, nM_eqF', nbT0, nbT1, oI_s, oI_n, natF, natT, nltT, nltF, nleT, nleF, ↓reduceIte, lgc, not_true_eq_false, not_false_eq_true, or_false, false_or, or_true, true_or, and_true, true_and, and_false, false_and, ne_eq, eq_self, or_self, and_self, obs, ↓jn, ↓lt, ↓reduceIte, decide_true, decide_false, Bool.false_eq_true, Bool.and_true, Bool.and_false, Bool.true_and, Bool.false_and, Bool.or_false, Bool.false_or, Bool.or_true, Bool.true_or, p6, p7, Nat.pow_zero]) ?_
    (try dsimp only); repeat (first | with_reducible refine wpl ?_ | with_reducible refine wpj ?_ | with_reducible refine wpSl ?_ | with_reducible refine wpSr ?_ | with_reducible refine wpS ?_ | ((with_reducible refine wpt ?_ ?_); · simp (disch := first | omega | decide) only [↓neg1, nlit, rI, rL, rI2, rL1, nI_add, pk_mul, sbT, dvT, nmd, ixT, ↓ibT, ltT, ltF, leT, leF, eqT, eqF, nM_ltT, nM_ltF, nM_leT, nM_leF, nM_eqF, nM_eqF', nbT0, nbT1, oI_s, oI_n, natF, natT, nltT, nltF, nleT, nleF, ↓reduceIte, lgc, not_true_eq_false, not_false_eq_true, or_false, false_or, or_true, true_or, and_true, true_and, and_false, false_and, ne_eq, eq_self, or_self, and_self]; done) | ((with_reducible refine wpf ?_ ?_); · simp (disch := first | omega | decide) only [↓neg1, nlit, rI, rL, rI2, rL1, nI_add, pk_mul, sbT, dvT, nmd, ixT, ↓ibT, ltT, ltF, leT, leF, eqT, eqF, nM_ltT, nM_ltF, nM_leT, nM_leF, nM_eqF, nM_eqF', nbT0, nbT1, oI_s, oI_n, natF, natT, nltT, nltF, nleT, nleF, ↓reduceIte, lgc, not_true_eq_false, not_false_eq_true, or_false, false_or, or_true, true_or, and_true, true_and, and_false, false_and, ne_eq, eq_self, or_self, and_self]; done))
    exact ⟨rfl, sx_rfl, sx_rfl, hsame, Or.inl rfl⟩
  have h112 : d_112 n (nI p) k = some (nI 1) := by
    unfold d_112
    simp (disch := first | omega | decide) only [↓neg1, nlit, rI, rL, rI2, rL1, nI_add, pk_mul, sbT, dvT, nmd, ixT, ↓ibT, ltT, ltF, leT, leF, eqT, eqF, nM_ltT, nM_ltF, nM_leT, nM_leF, nM_eqF, nM_eqF', nbT0, nbT1, oI_s, oI_n, natF, natT, nltT, nltF, nleT, nleF, ↓reduceIte, lgc, not_true_eq_false, not_false_eq_true, or_false, false_or, or_true, true_or, and_true, true_and, and_false, false_and, ne_eq, eq_self, or_self, and_self, obs, ↓jn, ↓lt, ↓reduceIte, decide_true, decide_false, Bool.false_eq_true, Bool.and_true, Bool.and_false, Bool.true_and, Bool.false_and, Bool.or_false, Bool.false_or, Bool.or_true, Bool.true_or, p6, p7, pow1, hs]
  rcases orA (n := n) (a := a2) h1 h2 hA hO with ⟨q1, q2⟩ | ⟨o, ho, rfl, q1, q2⟩
  · (try dsimp only); repeat (first | with_reducible refine wpl ?_ | with_reducible refine wpj ?_ | with_reducible refine wpSl ?_ | with_reducible refine wpSr ?_ | with_reducible refine wpS ?_ | ((with_reducible refine wpt ?_ ?_); · simp (disch := first | omega | decide) only [↓neg1, nlit, rI, rL, rI2, rL1, nI_add, pk_mul, sbT, dvT, nmd, ixT, ↓ibT, ltT, ltF, leT, leF, eqT, eqF, nM_ltT, nM_ltF, nM_leT, nM_leF, nM_eqF, nM_eqF', nbT0, nbT1, oI_s, oI_n, natF, natT, nltT, nltF, nleT, nleF, ↓reduceIte, lgc, not_true_eq_false, not_false_eq_true, or_false, false_or, or_true, true_or, and_true, true_and, and_false, false_and, ne_eq, eq_self, or_self, and_self]; done) | ((with_reducible refine wpf ?_ ?_); · simp (disch := first | omega | decide) only [↓neg1, nlit, rI, rL, rI2, rL1, nI_add, pk_mul, sbT, dvT, nmd, ixT, ↓ibT, ltT, ltF, leT, leF, eqT, eqF, nM_ltT, nM_ltF, nM_leT, nM_leF, nM_eqF, nM_eqF', nbT0, nbT1, oI_s, oI_n, natF, natT, nltT, nltF, nleT, nleF, ↓reduceIte, lgc, not_true_eq_false, not_false_eq_true, or_false, false_or, or_true, true_or, and_true, true_and, and_false, false_and, ne_eq, eq_self, or_self, and_self]; done))
    refine wpe q1 ?_
    (try dsimp only); repeat (first | with_reducible refine wpl ?_ | with_reducible refine wpj ?_ | with_reducible refine wpSl ?_ | with_reducible refine wpSr ?_ | with_reducible refine wpS ?_ | ((with_reducible refine wpt ?_ ?_); · simp (disch := first | omega | decide) only [↓neg1, nlit, rI, rL, rI2, rL1, nI_add, pk_mul, sbT, dvT, nmd, ixT, ↓ibT, ltT, ltF, leT, leF, eqT, eqF, nM_ltT, nM_ltF, nM_leT, nM_leF, nM_eqF, nM_eqF', nbT0, nbT1, oI_s, oI_n, natF, natT, nltT, nltF, nleT, nleF, ↓reduceIte, lgc, not_true_eq_false, not_false_eq_true, or_false, false_or, or_true, true_or, and_true, true_and, and_false, false_and, ne_eq, eq_self, or_self, and_self]; done) | ((with_reducible refine wpf ?_ ?_); · simp (disch := first | omega | decide) only [↓neg1, nlit, rI, rL, rI2, rL1, nI_add, pk_mul, sbT, dvT, nmd, ixT, ↓ibT, ltT, ltF, leT, leF, eqT, eqF, nM_ltT, nM_ltF, nM_leT, nM_leF, nM_eqF, nM_eqF', nbT0, nbT1, oI_s, oI_n, natF, natT, nltT, nltF, nleT, nleF, ↓reduceIte, lgc, not_true_eq_false, not_false_eq_true, or_false, false_or, or_true, true_or, and_true, true_and, and_false, false_and, ne_eq, eq_self, or_self, and_self]; done))
    refine wpe h112 ?_
    (try dsimp only); repeat (first | with_reducible refine wpl ?_ | with_reducible refine wpj ?_ | with_reducible refine wpSl ?_ | with_reducible refine wpSr ?_ | with_reducible refine wpS ?_ | ((with_reducible refine wpt ?_ ?_); · simp (disch := first | omega | decide) only [↓neg1, nlit, rI, rL, rI2, rL1, nI_add, pk_mul, sbT, dvT, nmd, ixT, ↓ibT, ltT, ltF, leT, leF, eqT, eqF, nM_ltT, nM_ltF, nM_leT, nM_leF, nM_eqF, nM_eqF', nbT0, nbT1, oI_s, oI_n, natF, natT, nltT, nltF, nleT, nleF, ↓reduceIte, lgc, not_true_eq_false, not_false_eq_true, or_false, false_or, or_true, true_or, and_true, true_and, and_false, false_and, ne_eq, eq_self, or_self, and_self]; done) | ((with_reducible refine wpf ?_ ?_); · simp (disch := first | omega | decide) only [↓neg1, nlit, rI, rL, rI2, rL1, nI_add, pk_mul, sbT, dvT, nmd, ixT, ↓ibT, ltT, ltF, leT, leF, eqT, eqF, nM_ltT, nM_ltF, nM_leT, nM_leF, nM_eqF, nM_eqF', nbT0, nbT1, oI_s, oI_n, natF, natT, nltT, nltF, nleT, nleF, ↓reduceIte, lgc, not_true_eq_false, not_false_eq_true, or_false, false_or, or_true, true_or, and_true, true_and, and_false, false_and, ne_eq, eq_self, or_self, and_self]; done))
    refine wpe q2 ?_
    (try dsimp only); repeat (first | with_reducible refine wpl ?_ | with_reducible refine wpj ?_ | with_reducible refine wpSl ?_ | with_reducible refine wpSr ?_ | with_reducible refine wpS ?_ | ((with_reducible refine wpt ?_ ?_); · simp (disch := first | omega | decide) only [↓neg1, nlit, rI, rL, rI2, rL1, nI_add, pk_mul, sbT, dvT, nmd, ixT, ↓ibT, ltT, ltF, leT, leF, eqT, eqF, nM_ltT, nM_ltF, nM_leT, nM_leF, nM_eqF, nM_eqF', nbT0, nbT1, oI_s, oI_n, natF, natT, nltT, nltF, nleT, nleF, ↓reduceIte, lgc, not_true_eq_false, not_false_eq_true, or_false, false_or, or_true, true_or, and_true, true_and, and_false, false_and, ne_eq, eq_self, or_self, and_self]; done) | ((with_reducible refine wpf ?_ ?_); · simp (disch := first | omega | decide) only [↓neg1, nlit, rI, rL, rI2, rL1, nI_add, pk_mul, sbT, dvT, nmd, ixT, ↓ibT, ltT, ltF, leT, leF, eqT, eqF, nM_ltT, nM_ltF, nM_leT, nM_leF, nM_eqF, nM_eqF', nbT0, nbT1, oI_s, oI_n, natF, natT, nltT, nltF, nleT, nleF, ↓reduceIte, lgc, not_true_eq_false, not_false_eq_true, or_false, false_or, or_true, true_or, and_true, true_and, and_false, false_and, ne_eq, eq_self, or_self, and_self]; done))
    exact ⟨rfl, sx_rfl, sx_rfl, hsame, Or.inl rfl⟩
  (try dsimp only); repeat (first | with_reducible refine wpl ?_ | with_reducible refine wpj ?_ | with_reducible refine wpSl ?_ | with_reducible refine wpSr ?_ | with_reducible refine wpS ?_ | ((with_reducible refine wpt ?_ ?_); · simp (disch := first | omega | decide) only [↓neg1, nlit, rI, rL, rI2, rL1, nI_add, pk_mul, sbT, dvT, nmd, ixT, ↓ibT, ltT, ltF, leT, leF, eqT, eqF, nM_ltT, nM_ltF, nM_leT, nM_leF, nM_eqF, nM_eqF', nbT0, nbT1, oI_s, oI_n, natF, natT, nltT, nltF, nleT, nleF, ↓reduceIte, lgc, not_true_eq_false, not_false_eq_true, or_false, false_or, or_true, true_or, and_true, true_and, and_false, false_and, ne_eq, eq_self, or_self, and_self]; done) | ((with_reducible refine wpf ?_ ?_); · simp (disch := first | omega | decide) only [↓neg1, nlit, rI, rL, rI2, rL1, nI_add, pk_mul, sbT, dvT, nmd, ixT, ↓ibT, ltT, ltF, leT, leF, eqT, eqF, nM_ltT, nM_ltF, nM_leT, nM_leF, nM_eqF, nM_eqF', nbT0, nbT1, oI_s, oI_n, natF, natT, nltT, nltF, nleT, nleF, ↓reduceIte, lgc, not_true_eq_false, not_false_eq_true, or_false, false_or, or_true, true_or, and_true, true_and, and_false, false_and, ne_eq, eq_self, or_self, and_self]; done))
  refine wpe q1 ?_
  (try dsimp only); repeat (first | with_reducible refine wpl ?_ | with_reducible refine wpj ?_ | with_reducible refine wpSl ?_ | with_reducible refine wpSr ?_ | with_reducible refine wpS ?_ | ((with_reducible refine wpt ?_ ?_); · simp (disch := first | omega | decide) only [↓neg1, nlit, rI, rL, rI2, rL1, nI_add, pk_mul, sbT, dvT, nmd, ixT, ↓ibT, ltT, ltF, leT, leF, eqT, eqF, nM_ltT, nM_ltF, nM_leT, nM_leF, nM_eqF, nM_eqF', nbT0, nbT1, oI_s, oI_n, natF, natT, nltT, nltF, nleT, nleF, ↓reduceIte, lgc, not_true_eq_false, not_false_eq_true, or_false, false_or, or_true, true_or, and_true, true_and, and_false, false_and, ne_eq, eq_self, or_self, and_self]; done) | ((with_reducible refine wpf ?_ ?_); · simp (disch := first | omega | decide) only [↓neg1, nlit, rI, rL, rI2, rL1, nI_add, pk_mul, sbT, dvT, nmd, ixT, ↓ibT, ltT, ltF, leT, leF, eqT, eqF, nM_ltT, nM_ltF, nM_leT, nM_leF, nM_eqF, nM_eqF', nbT0, nbT1, oI_s, oI_n, natF, natT, nltT, nltF, nleT, nleF, ↓reduceIte, lgc, not_true_eq_false, not_false_eq_true, or_false, false_or, or_true, true_or, and_true, true_and, and_false, false_and, ne_eq, eq_self, or_self, and_self]; done))
  refine wpc (e188 hn h1 hE hT) (fun d hd => ?_)
  obtain ⟨d1, d2, d3⟩ := hd
  have hcd := CA_sx d1 nC_qL
  have hfd : ∀ p o, fdv d p o = fdv c p o := fun p o => congrArg ix (d1.1 148 _ rfl)
  have hFd : FD m d k := by
    intro p s o hP hs ho
    rw [hfd, d1.1 148 _ rfl]
    exact hF p s o hP hs ho
  have hTM : TM m d p o = TM m c p o := by
    unfold TM
    rw [hfd]
  obtain ⟨x1, x2⟩ := e190 (n := n) (OOS_CA hcd hO) p3 (by omega) ho p1 d2 d3 hFd
  refine wpe x1 ?_
  (try dsimp only); repeat (first | with_reducible refine wpl ?_ | with_reducible refine wpj ?_ | with_reducible refine wpSl ?_ | with_reducible refine wpSr ?_ | with_reducible refine wpS ?_ | ((with_reducible refine wpt ?_ ?_); · simp (disch := first | omega | decide) only [↓neg1, nlit, rI, rL, rI2, rL1, nI_add, pk_mul, sbT, dvT, nmd, ixT, ↓ibT, ltT, ltF, leT, leF, eqT, eqF, nM_ltT, nM_ltF, nM_leT, nM_leF, nM_eqF, nM_eqF', nbT0, nbT1, oI_s, oI_n, natF, natT, nltT, nltF, nleT, nleF, ↓reduceIte, lgc, not_true_eq_false, not_false_eq_true, or_false, false_or, or_true, true_or, and_true, true_and, and_false, false_and, ne_eq, eq_self, or_self, and_self]; done) | ((with_reducible refine wpf ?_ ?_); · simp (disch := first | omega | decide) only [↓neg1, nlit, rI, rL, rI2, rL1, nI_add, pk_mul, sbT, dvT, nmd, ixT, ↓ibT, ltT, ltF, leT, leF, eqT, eqF, nM_ltT, nM_ltF, nM_leT, nM_leF, nM_eqF, nM_eqF', nbT0, nbT1, oI_s, oI_n, natF, natT, nltT, nltF, nleT, nleF, ↓reduceIte, lgc, not_true_eq_false, not_false_eq_true, or_false, false_or, or_true, true_or, and_true, true_and, and_false, false_and, ne_eq, eq_self, or_self, and_self]; done))
  refine wpe h112 ?_
  (try dsimp only); repeat (first | with_reducible refine wpl ?_ | with_reducible refine wpj ?_ | with_reducible refine wpSl ?_ | with_reducible refine wpSr ?_ | with_reducible refine wpS ?_ | ((with_reducible refine wpt ?_ ?_); · simp (disch := first | omega | decide) only [↓neg1, nlit, rI, rL, rI2, rL1, nI_add, pk_mul, sbT, dvT, nmd, ixT, ↓ibT, ltT, ltF, leT, leF, eqT, eqF, nM_ltT, nM_ltF, nM_leT, nM_leF, nM_eqF, nM_eqF', nbT0, nbT1, oI_s, oI_n, natF, natT, nltT, nltF, nleT, nleF, ↓reduceIte, lgc, not_true_eq_false, not_false_eq_true, or_false, false_or, or_true, true_or, and_true, true_and, and_false, false_and, ne_eq, eq_self, or_self, and_self]; done) | ((with_reducible refine wpf ?_ ?_); · simp (disch := first | omega | decide) only [↓neg1, nlit, rI, rL, rI2, rL1, nI_add, pk_mul, sbT, dvT, nmd, ixT, ↓ibT, ltT, ltF, leT, leF, eqT, eqF, nM_ltT, nM_ltF, nM_leT, nM_leF, nM_eqF, nM_eqF', nbT0, nbT1, oI_s, oI_n, natF, natT, nltT, nltF, nleT, nleF, ↓reduceIte, lgc, not_true_eq_false, not_false_eq_true, or_false, false_or, or_true, true_or, and_true, true_and, and_false, false_and, ne_eq, eq_self, or_self, and_self]; done))
  refine wpe q2 ?_
  (try dsimp only); repeat (first | with_reducible refine wpl ?_ | with_reducible refine wpj ?_ | with_reducible refine wpSl ?_ | with_reducible refine wpSr ?_ | with_reducible refine wpS ?_ | ((with_reducible refine wpt ?_ ?_); · simp (disch := first | omega | decide) only [↓neg1, nlit, rI, rL, rI2, rL1, nI_add, pk_mul, sbT, dvT, nmd, ixT, ↓ibT, ltT, ltF, leT, leF, eqT, eqF, nM_ltT, nM_ltF, nM_leT, nM_leF, nM_eqF, nM_eqF', nbT0, nbT1, oI_s, oI_n, natF, natT, nltT, nltF, nleT, nleF, ↓reduceIte, lgc, not_true_eq_false, not_false_eq_true, or_false, false_or, or_true, true_or, and_true, true_and, and_false, false_and, ne_eq, eq_self, or_self, and_self]; done) | ((with_reducible refine wpf ?_ ?_); · simp (disch := first | omega | decide) only [↓neg1, nlit, rI, rL, rI2, rL1, nI_add, pk_mul, sbT, dvT, nmd, ixT, ↓ibT, ltT, ltF, leT, leF, eqT, eqF, nM_ltT, nM_ltF, nM_leT, nM_leF, nM_eqF, nM_eqF', nbT0, nbT1, oI_s, oI_n, natF, natT, nltT, nltF, nleT, nleF, ↓reduceIte, lgc, not_true_eq_false, not_false_eq_true, or_false, false_or, or_true, true_or, and_true, true_and, and_false, false_and, ne_eq, eq_self, or_self, and_self]; done))
  refine wpc (e449 (by omega) hA hE p3 (by omega) ho hF) (fun r hr => ?_)
  obtain ⟨r1, r2, -⟩ := hr
  (try dsimp only); repeat (first | with_reducible refine wpl ?_ | with_reducible refine wpj ?_ | with_reducible refine wpSl ?_ | with_reducible refine wpSr ?_ | with_reducible refine wpS ?_ | ((with_reducible refine wpt ?_ ?_); · simp (disch := first | omega | decide) only [↓neg1, nlit, rI, rL, rI2, rL1, nI_add, pk_mul, sbT, dvT, nmd, ixT, ↓ibT, ltT, ltF, leT, leF, eqT, eqF, nM_ltT, nM_ltF, nM_leT, nM_leF, nM_eqF, nM_eqF', nbT0, nbT1, oI_s, oI_n, natF, natT, nltT, nltF, nleT, nleF, ↓reduceIte, lgc, not_true_eq_false, not_false_eq_true, or_false, false_or, or_true, true_or, and_true, true_and, and_false, false_and, ne_eq, eq_self, or_self, and_self]; done) | ((with_reducible refine wpf ?_ ?_); · simp (disch := first | omega | decide) only [↓neg1, nlit, rI, rL, rI2, rL1, nI_add, pk_mul, sbT, dvT, nmd, ixT, ↓ibT, ltT, ltF, leT, leF, eqT, eqF, nM_ltT, nM_ltF, nM_leT, nM_leF, nM_eqF, nM_eqF', nbT0, nbT1, oI_s, oI_n, natF, natT, nltT, nltF, nleT, nleF, ↓reduceIte, lgc, not_true_eq_false, not_false_eq_true, or_false, false_or, or_true, true_or, and_true, true_and, and_false, false_and, ne_eq, eq_self, or_self, and_self]; done))
  refine ⟨by rw [hTM]; exact r1.symm, d1, r2, Or.inr ⟨(d1.1 7 0 rfl).trans h1, h2, AG_sx hA r2 nP_qR, PG_CA hcd hG, d3, ?_⟩, Or.inr d2⟩
  intro p s o hP hs ho
  obtain ⟨f1, f2, f3⟩ := hFd p s o hP hs ho
  exact ⟨f1, f2, (r2.1 235 _ (decide_eq_false (by omega))).trans f3⟩
theorem c_flowm {n : Nat} {a1 : Int32} {c m u : cS} (hn : 1100000 ≤ n) (h : PXm m c (pI u 174 0 0)) : bo (d_73 n a1 c) (d_126 n a1 u) (fun d w => sx qFc c d ∧ sx qFr (pI u 174 0 0) w ∧ PXm m d w ∧ (d = c ∨ d.1 146 8 = nI 0)) := by
  unfold bo d_73 d_126 lt
  generalize pI u 174 0 0 = k at h ⊢
  have hsame := h
  rcases h with ⟨h1, h2, -⟩ | ⟨h1, h2, hA, hG, hB, hT, hF, hW⟩
  · obtain ⟨p1, p2⟩ := or0 (n := n) (a := a1) h1 h2
    refine wpe p1 (wpt rfl ?_)
    refine wpe p2 (wpt rfl ?_)
    exact ⟨rfl, sx_rfl, sx_rfl, hsame, Or.inl rfl⟩
  have hE := hG.1
  rcases orA (n := n) (a := a1) h1 h2 hA hE.1 with ⟨p1, p2⟩ | ⟨o, ho, rfl, p1, p2⟩
  · refine wpe p1 (wpt rfl ?_)
    refine wpe p2 (wpt rfl ?_)
    exact ⟨rfl, sx_rfl, sx_rfl, hsame, Or.inl rfl⟩
  refine wpe p1 (wpf (by decide) ?_)
  refine wpc (e188 (by omega) h1 hE hT) (fun d hd => ?_)
  obtain ⟨d1, d2, d3⟩ := hd
  have hcd := CA_sx d1 nC_qL
  have hfd : ∀ p o, fdv d p o = fdv c p o := fun p o => congrArg ix (d1.1 148 _ rfl)
  have hFd : FD m d k := by
    intro p s o hP hs ho
    rw [hfd, d1.1 148 _ rfl]
    exact hF p s o hP hs ho
  have hGd := PG_CA hcd hG
  refine wpc (e196 hn hGd d3 d2 hFd ho hB) (fun e he => ?_)
  obtain ⟨e1, e2⟩ := he
  refine wpe p2 (wpf (by decide) ?_)
  have hKd : okK m o (fun p => TM m d p o) := fun p s hp hs => (e190 (n := n) hGd.1.1 hp hs ho (EC_row hGd.1 hp).1 d2 d3 hFd).2
  have hd7 : d.1 7 0 = nI 1 := (d1.1 7 0 rfl).trans h1
  refine wpc (e460 (by omega) hd7 h2 hA hGd ho hFd hKd hB) (fun w hw => ?_)
  obtain ⟨w1, w2⟩ := hw
  have hlist : erM m o (fun p => TM m d p o) (XC m o e) 96 = erM m o (fun p => TM m d p o) (RX w) 96 := erM_eq (c := d) (fun M hM => ⟨hGd.1.1, hGd.1.2.2.1, hGd.2.2, hM, ho, hKd⟩) (fun M hM => (e2.2.1 M hM).1) (fun M hM => (w2.2.2.1 M hM).1) 96
  have sd : sx qFc c (pI e 150 16 0) := sx_pI (sx_trans (sx_wide d1 (fun a i z => by
    have := of_decide_eq_false z
    exact decide_eq_false (by omega))) (sx_wide e1 (fun a i z => by
    have := of_decide_eq_false z
    exact decide_eq_false (by omega)))) (decide_eq_true (by omega))
  have sw : sx qFr k (pI (pI w 174 97 (nI o)) 174 102 0) := sx_pI (sx_pI (sx_wide w1 (fun a i z => by
    have := of_decide_eq_false z
    exact decide_eq_false (by omega))) (decide_eq_true (by omega))) (decide_eq_true (by omega))
  have sde : sx (fun a i => decide ((a = 150 ∧ (i = 3 ∨ i = 6 ∨ i = 16)) ∨ a = 151 ∨ a = 152)) d (pI e 150 16 0) := sx_pI (sx_wide e1 (fun a i z => by
    have := of_decide_eq_false z
    exact decide_eq_false (by omega))) (decide_eq_true (by omega))
  refine ⟨?_, sd, sw, Or.inr ⟨(sd.1 7 0 rfl).trans h1, h2, ?_, ?_, hB, ?_, ?_, Or.inr ⟨o, ho, ?_, ?_, ?_, ?_, ?_, ?_⟩⟩, Or.inr ((sde.1 146 8 rfl).trans d2)⟩
  · show (pI e 150 16 0).1 150 6 = (pI (pI w 174 97 (nI o)) 174 102 0).1 174 91
    rw [rI, if_neg (by omega), rI, if_neg (by omega), rI, if_neg (by omega), e2.2.2.1, w2.2.2.2.1, hlist]
  · refine AG_sx hA sw ⟨fun a i h => ?_, fun i h => ?_, fun i h => ?_, fun a i h1 h2 h3 => ?_, fun a i h1 h2 h3 => ?_⟩
    · have := PA_of h
      exact decide_eq_false (by omega)
    · have := PF_of h
      exact decide_eq_false (by omega)
    · exact decide_eq_false (by omega)
    · exact decide_eq_false (by omega)
    · exact decide_eq_false (by omega)
  · exact PG_CA (CA_sx sd ⟨fun a i h1 h2 h3 => decide_eq_false (by omega), fun i h => decide_eq_false (by omega)⟩) hG
  · refine ⟨by rw [sde.1 146 8 rfl]; exact d3.1, fun z p s o hp hs ho => ?_⟩
    rw [sde.1 146 8 rfl] at z
    rw [sde.1 147 _ rfl]
    exact d3.2 z p s o hp hs ho
  · intro p s o' hP hs ho'
    obtain ⟨f1, f2, f3⟩ := hFd p s o' hP hs ho'
    have hfe : fdv (pI e 150 16 0) p o' = fdv d p o' := congrArg ix (sde.1 148 _ rfl)
    rw [hfe, sde.1 148 _ rfl, sw.1 235 _ (decide_eq_false (by omega))]
    exact ⟨f1, f2, f3⟩
  · rw [rI, if_neg (by omega)]
    exact e2.1
  · rw [rI, if_neg (by omega), rI, if_pos ⟨rfl, rfl⟩]
  · exact (sde.1 146 8 rfl).trans d2
  · exact FOL_sx (q := fun a i => decide (a = 150 ∧ i = 16)) e2 sde (fun i => rfl) (sx_pI sx_rfl rfl) ⟨⟨fun a i h1 h2 h3 => decide_eq_false (by omega), fun i h => decide_eq_false (by omega)⟩, fun i => rfl, rfl, rfl, fun i => rfl, fun i => rfl⟩
  · have hTe : (fun p => TM m (pI e 150 16 0) p o) = (fun p => TM m d p o) := funext fun p => by
      unfold TM
      rw [show fdv (pI e 150 16 0) p o = fdv d p o from congrArg ix (sde.1 148 _ rfl)]
    rw [hTe]
    exact FOR_sx (q := fun a i => decide (a = 174 ∧ (i = 97 ∨ i = 102))) w2 (sx_pI (sx_pI sx_rfl rfl) rfl) ⟨rfl, fun a i h1 h2 h3 => decide_eq_false (by omega)⟩
  · refine ⟨0, by omega, ?_, ?_, fun j hj => by omega⟩
    · rw [rI, if_pos ⟨rfl, rfl⟩]
      rfl
    · rw [rI, if_pos ⟨rfl, rfl⟩]
      rfl
theorem c_waym {n : Nat} {a1 : Int32} {c m u : cS} (hn : 20000 ≤ n) (h : PXm m c (pI u 174 0 0)) : bo (d_75 n a1 c) (d_129 n a1 u) (fun d w => sx qYC c d ∧ sx qYR (pI u 174 0 0) w ∧ PXm m d w) := by
  have hsame := h
  unfold bo d_75
  rcases FLW_nom h with ⟨h1, h2, h3⟩ | ⟨o, hA, hG, hB, hT, hF, h2, h1, ho, w2, w3, w4, w5, w6, w7⟩
  · refine wpe (show d_30 n a1 c = some (nI 0) by unfold d_30; simp (disch := first | omega | decide) only [↓neg1, nlit, rI, rL, rI2, rL1, nI_add, pk_mul, sbT, dvT, nmd, ixT, ↓ibT, ltT, ltF, leT, leF, eqT, eqF, nM_ltT, nM_ltF, nM_leT, nM_leF, nM_eqF, nM_eqF', nbT0, nbT1, oI_s, oI_n, natF, natT, nltT, nltF, nleT, nleF, ↓reduceIte, lgc, not_true_eq_false, not_false_eq_true, or_false, false_or, or_true, true_or, and_true, true_and, and_false, false_and, ne_eq, eq_self, or_self, and_self, obs, ↓jn, ↓lt, ↓reduceIte, decide_true, decide_false, Bool.false_eq_true, Bool.and_true, Bool.and_false, Bool.true_and, Bool.false_and, Bool.or_false, Bool.false_or, Bool.or_true, Bool.true_or, h1]) (wpj (wpt rfl ?_))
    unfold d_129
    refine wpl ?_
    generalize pI u 174 0 0 = v at *
    refine wpj (wpt (by rw [h2]; decide) ?_)
    exact ⟨rfl, sx_rfl, sx_rfl, hsame⟩
  have hE := hG.1
  have hC := hE.2.2.1
  have ho4 := hE.1.1
  have hMT := hG.2.2
  have hFC : FC c m (pI u 174 0 0) o := ⟨hG, hT, w4, hF, w2, ho⟩
  have hlist : erM m o (fun p => TM m c p o) (XC m o c) 96 = erM m o (fun p => TM m c p o) (RX (pI u 174 0 0)) 96 := erM_eq (c := c) (fun M hM => FC_X hFC hM) (fun M hM => (w5.2.1 M hM).1) (fun M hM => (w6.2.2.1 M hM).1) 96
  have hEC := w5.2.2
  have hER := w6.2.2.2
  rw [← hlist] at hER
  have hlen := erM_len (m := m) (o := o) (K := fun p => TM m c p o) (XX := XC m o c) 96
  have hB' := hB
  unfold WB at hB'
  have hin := fun x => erM_in (m := m) (o := o) (K := fun p => TM m c p o) (X := XC m o c) (x := x) 96
  generalize hL : erM m o (fun p => TM m c p o) (XC m o c) 96 = L at hEC hER hlen hin
  obtain ⟨c1, c2⟩ := hEC
  obtain ⟨r1, r2⟩ := hER
  rcases rng a1 (N := L.length) (by omega) with ⟨g1, g2, g3, g⟩ | ⟨g1, g2, g3, g4, g⟩ | ⟨j, hj, rfl⟩
  · refine wpe (show d_30 n a1 c = some (nI 0) by unfold d_30; simp (disch := first | omega | decide) only [↓neg1, nlit, rI, rL, rI2, rL1, nI_add, pk_mul, sbT, dvT, nmd, ixT, ↓ibT, ltT, ltF, leT, leF, eqT, eqF, nM_ltT, nM_ltF, nM_leT, nM_leF, nM_eqF, nM_eqF', nbT0, nbT1, oI_s, oI_n, natF, natT, nltT, nltF, nleT, nleF, ↓reduceIte, lgc, not_true_eq_false, not_false_eq_true, or_false, false_or, or_true, true_or, and_true, true_and, and_false, false_and, ne_eq, eq_self, or_self, and_self, obs, ↓jn, ↓lt, ↓reduceIte, decide_true, decide_false, Bool.false_eq_true, Bool.and_true, Bool.and_false, Bool.true_and, Bool.false_and, Bool.or_false, Bool.false_or, Bool.or_true, Bool.true_or, w2, g1]) (wpj (wpt rfl ?_))
    unfold d_129
    refine wpl ?_
    generalize pI u 174 0 0 = v at *
    refine wpj (wpf (by rw [w3]; simp (disch := first | omega | decide) only [↓neg1, nlit, rI, rL, rI2, rL1, nI_add, pk_mul, sbT, dvT, nmd, ixT, ↓ibT, ltT, ltF, leT, leF, eqT, eqF, nM_ltT, nM_ltF, nM_leT, nM_leF, nM_eqF, nM_eqF', nbT0, nbT1, oI_s, oI_n, natF, natT, nltT, nltF, nleT, nleF, ↓reduceIte, lgc, not_true_eq_false, not_false_eq_true, or_false, false_or, or_true, true_or, and_true, true_and, and_false, false_and, ne_eq, eq_self, or_self, and_self]) (wpt (by rw [show (0 : Int32) = nI 0 from rfl, g1]; trivial) ?_))
    exact ⟨rfl, sx_rfl, sx_rfl, hsame⟩
  · refine wpe (show d_30 n a1 c = some (nI 0) by unfold d_30; simp (disch := first | omega | decide) only [↓neg1, nlit, rI, rL, rI2, rL1, nI_add, pk_mul, sbT, dvT, nmd, ixT, ↓ibT, ltT, ltF, leT, leF, eqT, eqF, nM_ltT, nM_ltF, nM_leT, nM_leF, nM_eqF, nM_eqF', nbT0, nbT1, oI_s, oI_n, natF, natT, nltT, nltF, nleT, nleF, ↓reduceIte, lgc, not_true_eq_false, not_false_eq_true, or_false, false_or, or_true, true_or, and_true, true_and, and_false, false_and, ne_eq, eq_self, or_self, and_self, obs, ↓jn, ↓lt, ↓reduceIte, decide_true, decide_false, Bool.false_eq_true, Bool.and_true, Bool.and_false, Bool.true_and, Bool.false_and, Bool.or_false, Bool.false_or, Bool.or_true, Bool.true_or, w2, g1, c1, g3]) (wpj (wpt rfl ?_))
    unfold d_129
    refine wpl ?_
    generalize pI u 174 0 0 = v at *
    refine wpj (wpf (by rw [w3]; simp (disch := first | omega | decide) only [↓neg1, nlit, rI, rL, rI2, rL1, nI_add, pk_mul, sbT, dvT, nmd, ixT, ↓ibT, ltT, ltF, leT, leF, eqT, eqF, nM_ltT, nM_ltF, nM_leT, nM_leF, nM_eqF, nM_eqF', nbT0, nbT1, oI_s, oI_n, natF, natT, nltT, nltF, nleT, nleF, ↓reduceIte, lgc, not_true_eq_false, not_false_eq_true, or_false, false_or, or_true, true_or, and_true, true_and, and_false, false_and, ne_eq, eq_self, or_self, and_self]) (wpf (by rw [show (0 : Int32) = nI 0 from rfl, g1]; exact not_false) (wpf (by rw [r1, g4]; exact not_false) ?_)))
    exact ⟨rfl, sx_rfl, sx_rfl, hsame⟩
  obtain ⟨x, hx⟩ : ∃ x, L[j]? = some x := ⟨L[j], List.getElem?_eq_getElem hj⟩
  have hmem : x ∈ L := List.mem_of_getElem? hx
  obtain ⟨xM, xi, xk, f, xf, xh, xw⟩ := hin x hmem
  have q1 := c2 j x hx
  obtain ⟨q2, q3, q4, q5, q6⟩ := r2 j x hx
  rw [xw] at q6
  refine wpe (show d_30 n (nI j) c = some (nI 1) by unfold d_30; simp (disch := first | omega | decide) only [↓neg1, nlit, rI, rL, rI2, rL1, nI_add, pk_mul, sbT, dvT, nmd, ixT, ↓ibT, ltT, ltF, leT, leF, eqT, eqF, nM_ltT, nM_ltF, nM_leT, nM_leF, nM_eqF, nM_eqF', nbT0, nbT1, oI_s, oI_n, natF, natT, nltT, nltF, nleT, nleF, ↓reduceIte, lgc, not_true_eq_false, not_false_eq_true, or_false, false_or, or_true, true_or, and_true, true_and, and_false, false_and, ne_eq, eq_self, or_self, and_self, obs, ↓jn, ↓lt, ↓reduceIte, decide_true, decide_false, Bool.false_eq_true, Bool.and_true, Bool.and_false, Bool.true_and, Bool.false_and, Bool.or_false, Bool.false_or, Bool.or_true, Bool.true_or, w2, c1]) (wpj (wpf (by decide) ?_))
  refine wpc (e212 (by omega) hFC (fun p => rfl) xM xi xk (by omega) q1) (fun r hr => ?_)
  obtain ⟨kk, k1, k2, k3, k4⟩ := hr
  have hwr := way_r (n := n) (by omega) h1 h2 hE hF (fun p => rfl) (FC_X hFC xM) xi xk hj (by omega) hA w3 r1 q2 q3 q4 q6
  show wp (d_129 n (nI j) u) _
  refine wp_mono hwr (fun s hs => ?_)
  obtain ⟨kk', l1, l2, l3, l4, l5, l6⟩ := hs
  have hkk := it_one k1 k2 l1 l2
  subst hkk
  obtain ⟨ha, hst⟩ := ans_one k4 l6
  have hnF : nF qYC := ⟨⟨fun a i h1 h2 h3 => decide_eq_false (by omega), fun i h => decide_eq_false (by omega)⟩, fun i => decide_eq_false (by omega), rfl, rfl, fun i => decide_eq_false (by omega), fun i => decide_eq_false (by omega)⟩
  obtain ⟨hFC', hTM'⟩ := FC_sx hFC k3 hnF.1 (fun i => decide_eq_false (by omega)) (fun i => decide_eq_false (by omega)) (fun i => decide_eq_false (by omega)) rfl
  have hKf : (fun p => TM m r.2 p o) = (fun p => TM m c p o) := funext hTM'
  refine ⟨ha, k3, l3, Or.inr ⟨(k3.1 7 0 (decide_eq_false (by omega))).trans h1, h2, AG_sx hA l3 nP_YR, hFC'.1, hB, hFC'.2.1, ?_, Or.inr ⟨o, ho, (k3.1 150 3 rfl).trans w2, (l3.1 174 97 rfl).trans w3, (k3.1 146 8 rfl).trans w4, FOL_sx w5 k3 (fun i => decide_eq_false (by omega)) k3 hnF, ?_, ?_⟩⟩⟩
  · intro p s o' hP hs ho'
    obtain ⟨f1, f2, f3⟩ := hF p s o' hP hs ho'
    have hfe : fdv r.2 p o' = fdv c p o' := congrArg ix (k3.1 148 _ (decide_eq_false (by omega)))
    rw [hfe, k3.1 148 _ (decide_eq_false (by omega)), l3.1 235 _ (decide_eq_false (by omega))]
    exact ⟨f1, f2, f3⟩
  · rw [hKf]
    exact FOR_sx2 w6 l3 l4 l5 rfl (fun a i h1 h2 h3 => decide_eq_false (by omega))
  · obtain ⟨t, t1, t2, t3, t4⟩ := w7
    rcases hst with ⟨y1, y2, y3, y4⟩ | ⟨N, n1, n2, n3, n4⟩
    · refine ⟨t, t1, y1.trans t2, y3.trans t3, fun j hj => ?_⟩
      rw [y2, y4]
      exact t4 j hj
    · exact ⟨N, n1, n2, n3, n4⟩
def qWxc (a i : Nat) : Bool := decide ((a = 146 ∧ 3 ≤ i ∧ i ≤ 8) ∨ a = 147 ∨ a = 126 ∨ (a = 150 ∧ (i = 3 ∨ i = 6 ∨ i = 16)) ∨ a = 151 ∨ a = 152)
def qWxr (a i : Nat) : Bool := decide ((a = 174 ∧ ((73 ≤ i ∧ i ≤ 79) ∨ i = 90 ∨ i = 91 ∨ i = 106)) ∨ a = 232 ∨ a = 233 ∨ (236 ≤ a ∧ a ≤ 245) ∨ a = 250)
theorem c_weavem {n : Nat} {c m u : cS} (hn : 1100000 ≤ n) (h : PXm m c (pI u 174 0 0)) : bo (d_80 n c) (d_134 n u) (fun d w => sx qWxc c d ∧ sx qWxr (pI u 174 0 0) w ∧ PX4 m d w ∧ (d = c ∨ d.1 146 8 = nI 0)) := by
  unfold bo d_80 lt
  generalize hk : pI u 174 0 0 = k at h ⊢
  rcases h with hz | ⟨h1, h2, hA, hG, hB, hT, hF, hW⟩
  · have e1 := hz.1
    have e2 := hz.2.1
    refine wpt e1 ?_
    unfold d_134
    rw [hk]
    refine wpl (wpt e2 ?_)
    exact ⟨rfl, sx_rfl, sx_rfl, Or.inl hz, Or.inl rfl⟩
  have hE := hG.1
  obtain ⟨tot, y1, y2, y3⟩ := hG.2.2.1
  refine wpf (by rw [h1]; decide) ?_
  refine wpc (e188 (by omega) h1 hE hT) (fun d hd => ?_)
  obtain ⟨d1, d2, d3⟩ := hd
  have d7 : d.1 114 7 = nI tot := (d1.1 114 7 rfl).trans y2
  have h20 : wp (d_20 n d) (fun w => (∀ j, w.1 126 j = if 0 ≤ j ∧ j < tot then 0 else d.1 126 j) ∧ (∀ s, s ≠ 126 → w.1 s = d.1 s) ∧ w.2 = d.2) := by
    unfold d_20
    rw [d7]
    exact wpc (e154 (a := 0) (b := tot) (v := 0) (by omega) (by omega) (by omega) (by omega)) (fun w hw => hw)
  refine wpc h20 (fun x hx => ?_)
  obtain ⟨x1, x2, x3⟩ := hx
  have sx1 : sx (fun a _ => decide (a = 126)) d x := sx_fill x2 x3 (fun i => rfl)
  have scx : sx (fun a i => decide ((a = 146 ∧ 3 ≤ i ∧ i ≤ 8) ∨ a = 147 ∨ a = 126)) c x := sx_trans (sx_wide d1 (fun a i z => by
    have := of_decide_eq_false z
    exact decide_eq_false (by omega))) (sx_wide sx1 (fun a i z => by
    have := of_decide_eq_false z
    exact decide_eq_false (by omega)))
  have hcx := CA_sx scx ⟨fun a i h1 h2 h3 => decide_eq_false (by omega), fun i h => decide_eq_false (by omega)⟩
  have hGx : PG x m := PG_CA hcx hG
  have x146 : x.1 146 8 = nI 0 := (sx1.1 146 8 rfl).trans d2
  have hTx : TLS x m := by
    refine ⟨by rw [sx1.1 146 8 rfl]; exact d3.1, fun z p s o hp hs ho => ?_⟩
    rw [sx1.1 146 8 rfl] at z
    rw [sx1.1 147 _ rfl]
    exact d3.2 z p s o hp hs ho
  have hfx : ∀ p o, fdv x p o = fdv c p o := fun p o => congrArg ix (scx.1 148 _ (decide_eq_false (by omega)))
  have hFx : ∀ w, (∀ i, w.1 235 i = k.1 235 i) → FD m x w := by
    intro w hw p s o hP hs ho
    rw [hfx, scx.1 148 _ (decide_eq_false (by omega)), hw]
    exact hF p s o hP hs ho
  have h0x : BT m x (fun _ _ _ => False) := by
    intro M i hM hi
    have hb := y3 M hM
    refine ⟨0, by decide, ?_, fun t ht => ?_⟩
    · rw [fa_CA hcx, x1, if_pos (by omega)]
      rfl
    · rw [Nat.zero_testBit]
      exact ⟨(fun z => by cases z), fun z => False.elim z⟩
  have x70 : x.1 7 0 = nI 1 := (scx.1 7 0 (decide_eq_false (by omega))).trans h1
  have x3v : x.1 150 3 = c.1 150 3 := scx.1 150 3 (decide_eq_false (by omega))
  have ho4 := hE.1.1
  refine wpc (wea_c hn hGx hTx x146 (hFx k (fun i => rfl)) hB h0x) (fun r hr => ?_)
  obtain ⟨r1, LL, r2, r3, r4⟩ := hr
  obtain ⟨k1, k2, k3, k4, k5⟩ := CA_keep hGx hTx x146 (hFx k (fun i => rfl)) r1 nC_Wv (fun i => decide_eq_false (by omega)) (fun i => decide_eq_false (by omega)) (fun i => decide_eq_false (by omega))
  -- the reference
  have hAk := hA
  have hfin : ∀ e : cS, sx (fun a i => decide (a = 126 ∨ (a = 150 ∧ (i = 3 ∨ i = 6 ∨ i = 16)) ∨ a = 151 ∨ a = 152)) x e → BTL m e LL (ocn m) → ((e.1 150 3 = nM ∧ k.1 174 97 = nM ∧ e.1 150 16 = nI 0) ∨ ∃ o, o < ocn m ∧ e.1 150 3 = nI o ∧ k.1 174 97 = nI o ∧ FOL e m o e ∧ SPS e k) → wp (d_134 n u) (fun q => nI (sumL LL (ocn m)) = q.1 ∧ sx qWxc c e ∧ sx qWxr k q.2 ∧ PX4 m e q.2 ∧ (e = c ∨ e.1 146 8 = nI 0)) := by
    intro e e1 e2 e3
    have sce0 : sx qWxc c e := sx_trans (sx_wide scx (fun a i z => by
      have := of_decide_eq_false z
      exact decide_eq_false (by omega))) (sx_wide e1 (fun a i z => by
      have := of_decide_eq_false z
      exact decide_eq_false (by omega)))
    obtain ⟨p1, p2, p3, p4, p5⟩ := CA_keep hGx hTx x146 (hFx k (fun i => rfl)) e1 ⟨fun a i h1 h2 h3 => decide_eq_false (by omega), fun i h => decide_eq_false (by omega)⟩ (fun i => decide_eq_false (by omega)) (fun i => decide_eq_false (by omega)) (fun i => decide_eq_false (by omega))
    have e70 : e.1 7 0 = nI 1 := (e1.1 7 0 (decide_eq_false (by omega))).trans x70
    unfold d_134
    rw [hk]
    refine wpl (wpf (by rw [(hA.2.2.1 14 rfl).trans h2]; decide) ?_)
    refine wpc (K' := fun w : cS => sx (fun a _ => decide (a = 250)) k w ∧ ∀ t, t < 61440 → w.1 250 t = nM) (whl_cnt (fun j (st : Int32 × cS) => st.1 = nI j ∧ sx (fun a _ => decide (a = 250)) k st.2 ∧ ∀ t, t < j → st.2.1 250 t = nM) 61440 ?_ ?_ (by omega) ⟨rfl, sx_rfl, fun t ht => by omega⟩) (fun f hf => ?_)
    · rintro j ⟨a, w⟩ hj ⟨g1, g2, g3⟩
      dsimp only at g1 g2 g3
      subst g1
      refine wpf (by dsimp only; simp (disch := first | omega | decide) only [↓neg1, nlit, rI, rL, rI2, rL1, nI_add, pk_mul, sbT, dvT, nmd, ixT, ↓ibT, ltT, ltF, leT, leF, eqT, eqF, nM_ltT, nM_ltF, nM_leT, nM_leF, nM_eqF, nM_eqF', nbT0, nbT1, oI_s, oI_n, natF, natT, nltT, nltF, nleT, nleF, ↓reduceIte, lgc, not_true_eq_false, not_false_eq_true, or_false, false_or, or_true, true_or, and_true, true_and, and_false, false_and, ne_eq, eq_self, or_self, and_self]) (wpt (by simp (disch := first | omega | decide) only [↓neg1, nlit, rI, rL, rI2, rL1, nI_add, pk_mul, sbT, dvT, nmd, ixT, ↓ibT, ltT, ltF, leT, leF, eqT, eqF, nM_ltT, nM_ltF, nM_leT, nM_leF, nM_eqF, nM_eqF', nbT0, nbT1, oI_s, oI_n, natF, natT, nltT, nltF, nleT, nleF, ↓reduceIte, lgc, not_true_eq_false, not_false_eq_true, or_false, false_or, or_true, true_or, and_true, true_and, and_false, false_and, ne_eq, eq_self, or_self, and_self]) (wpl (wpl ?_)))
      rw [ix_n (by omega)]
      refine ⟨nI_1 _, sx_pI g2 rfl, fun t ht => ?_⟩
      show (pI w 250 j (-1)).1 250 t = _
      rw [rI]
      by_cases et : t = j
      · rw [if_pos ⟨rfl, et⟩]
        rfl
      · rw [if_neg (fun z => et z.2)]
        exact g3 t (by omega)
    · rintro ⟨a, w⟩ ⟨g1, g2, g3⟩
      dsimp only at g1 g2 g3
      subst g1
      exact wpt (by dsimp only; decide) ⟨g2, g3⟩
    obtain ⟨f1, f2⟩ := hf
    have hAf : AG m f := AG_sx hA (sx_wide f1 (q := qWr) (fun a i z => by
      have := of_decide_eq_false z
      exact decide_eq_false (by omega))) nP_Wr
    refine wpc (wea_r (by omega) x70 h2 hAf hGx hTx x146 (hFx f (fun i => f1.1 235 i rfl)) hB f2) (fun r' hr' => ?_)
    obtain ⟨s1, L2, s2, s3, s4⟩ := hr'
    have hLe : ∀ o, o < ocn m → LL o = L2 o := LSO_u (c := x) (fun o M ho hM => ⟨hGx.1.1, hGx.1.2.2.1, hGx.2.2, hM, ho, fun p s hp hs => (e190 (n := n) hGx.1.1 hp hs ho (EC_row hGx.1 hp).1 x146 hTx (hFx k (fun i => rfl))).2⟩) r2 s2
    have hsum : nI (sumL LL (ocn m)) = r'.1 := by
      rw [s4, sumL_cg _ hLe]
    have skw : sx qWr k r'.2 := sx_trans (sx_wide f1 (fun a i z => by
      have := of_decide_eq_false z
      exact decide_eq_false (by omega))) s1
    have hLLP : LLP m e LL (ocn m) := by
      intro o y ho hy
      obtain ⟨a1, a2, a3, a4⟩ := LSO_P r2 o y ho hy
      exact ⟨a1, a2, a3, by rw [p5]; exact a4⟩
    have hend : ∀ w, sx (fun a i => decide ((a = 174 ∧ ((73 ≤ i ∧ i ≤ 79) ∨ i = 90 ∨ i = 91 ∨ i = 106)) ∨ a = 232 ∨ a = 233 ∨ (236 ≤ a ∧ a ≤ 245))) r'.2 w → w.1 174 106 = nI 1 → FLW m e w → sx qWxc c e ∧ sx qWxr k w ∧ PX4 m e w ∧ (e = c ∨ e.1 146 8 = nI 0) := by
      intro w hw h106 hfl
      refine ⟨sce0, sx_trans (sx_wide skw (fun a i z => by
        have := of_decide_eq_false z
        exact decide_eq_false (by omega))) (sx_wide hw (fun a i z => by
        have := of_decide_eq_false z
        exact decide_eq_false (by omega))), Or.inr ⟨e70, h2, ?_, p1, hB, p2, ?_, hfl, Or.inr ⟨h106, p3, LL, hLLP, e2, CKL_cg hLe (fun t => hw.1 250 t (decide_eq_false (by omega))) s3⟩⟩, Or.inr p3⟩
      · refine AG_sx (AG_sx hA skw nP_Wr) hw ⟨fun a i h => ?_, fun i h => ?_, fun i h => ?_, fun a i h1 h2 h3 => ?_, fun a i h1 h2 h3 => ?_⟩
        · have := PA_of h
          exact decide_eq_false (by omega)
        · have := PF_of h
          exact decide_eq_false (by omega)
        · exact decide_eq_false (by omega)
        · exact decide_eq_false (by omega)
        · exact decide_eq_false (by omega)
      · exact FD_sx (FD_sx p4 skw (fun i => decide_eq_false (by omega))) hw (fun i => decide_eq_false (by omega))
    have w97 : (pI r'.2 174 106 1).1 174 97 = k.1 174 97 := by
      rw [rI, if_neg (by omega)]
      exact skw.1 174 97 (decide_eq_false (by omega))
    have sp : sx (fun a i => decide ((a = 174 ∧ ((73 ≤ i ∧ i ≤ 79) ∨ i = 90 ∨ i = 91 ∨ i = 106)) ∨ a = 232 ∨ a = 233 ∨ (236 ≤ a ∧ a ≤ 245))) r'.2 (pI r'.2 174 106 1) := sx_pI sx_rfl (decide_eq_true (by omega))
    have w106 : (pI r'.2 174 106 1).1 174 106 = nI 1 := by
      rw [rI, if_pos ⟨rfl, rfl⟩]
      rfl
    refine wpl (wpj ?_)
    rw [w97]
    rcases e3 with ⟨q1, q2, q3⟩ | ⟨o, q1, q2, q3, q4, q5⟩
    · refine wpt (by rw [q2]; decide) ⟨hsum, hend _ sp w106 (Or.inl ⟨q1, w97.trans q2, q3⟩)⟩
    · rw [q3]
      refine wpf (by simp (disch := first | omega | decide) only [↓neg1, nlit, rI, rL, rI2, rL1, nI_add, pk_mul, sbT, dvT, nmd, ixT, ↓ibT, ltT, ltF, leT, leF, eqT, eqF, nM_ltT, nM_ltF, nM_leT, nM_leF, nM_eqF, nM_eqF', nbT0, nbT1, oI_s, oI_n, natF, natT, nltT, nltF, nleT, nleF, ↓reduceIte, lgc, not_true_eq_false, not_false_eq_true, or_false, false_or, or_true, true_or, and_true, true_and, and_false, false_and, ne_eq, eq_self, or_self, and_self]) ?_
      have hAz : AG m (pI r'.2 174 106 1) := AG_sx (AG_sx hA skw nP_Wr) (r := fun a i => decide (a = 174 ∧ i = 106)) (sx_pI sx_rfl rfl) ⟨fun a i h => by
        have := PA_of h
        exact decide_eq_false (by omega), fun i h => by
        have := PF_of h
        exact decide_eq_false (by omega), fun i h => decide_eq_false (by omega), fun a i h1 h2 h3 => decide_eq_false (by omega), fun a i h1 h2 h3 => decide_eq_false (by omega)⟩
      have hFz : FD m e (pI r'.2 174 106 1) := FD_sx (FD_sx p4 skw (fun i => decide_eq_false (by omega))) sp (fun i => decide_eq_false (by omega))
      refine wpc (e460 (by omega) e70 h2 hAz p1 q1 hFz (fun p s hp hs => (e190 (n := n) p1.1.1 hp hs q1 (EC_row p1.1 hp).1 p3 p2 p4).2) hB) (fun w hw => ?_)
      obtain ⟨t1, t2⟩ := hw
      have stw := sx_trans sp (sx_wide t1 (q := fun a i => decide ((a = 174 ∧ ((73 ≤ i ∧ i ≤ 79) ∨ i = 90 ∨ i = 91 ∨ i = 106)) ∨ a = 232 ∨ a = 233 ∨ (236 ≤ a ∧ a ≤ 245))) (fun a i z => by
        have := of_decide_eq_false z
        exact decide_eq_false (by omega)))
      refine ⟨hsum, hend w stw ((t1.1 174 106 (decide_eq_false (by omega))).trans w106) (Or.inr ⟨o, q1, q2, ((t1.1 174 97 (decide_eq_false (by omega))).trans w97).trans q3, p3, q4, t2, ?_⟩)⟩
      obtain ⟨j, j1, j2, j3, j4⟩ := q5
      refine ⟨j, j1, j2, ((stw.1 174 102 (decide_eq_false (by omega))).trans (skw.1 174 102 (decide_eq_false (by omega)))).trans j3, fun i hi => ?_⟩
      rw [stw.1 249 i (decide_eq_false (by omega)), skw.1 249 i (decide_eq_false (by omega))]
      exact j4 i hi
  have sxr : sx (fun a i => decide (a = 126 ∨ (a = 150 ∧ (i = 3 ∨ i = 6 ∨ i = 16)) ∨ a = 151 ∨ a = 152)) x r.2 := sx_wide r1 (fun a i z => by
    have := of_decide_eq_false z
    exact decide_eq_false (by omega))
  rw [r4]
  rcases hW with ⟨f1, f2, f3⟩ | ⟨o, w1, w2, w3, w4, w5, w6, w7⟩
  · refine wpj (wpt (by rw [x3v, f1]; decide) ?_)
    refine wpe (show d_29 n r.2 = some (pI (pI (pI r.2 150 3 (-1)) 150 6 0) 150 16 0) from rfl) ?_
    refine hfin _ (sx_pI (sx_pI (sx_pI sxr (decide_eq_true (by omega))) (decide_eq_true (by omega))) (decide_eq_true (by omega))) ?_ (Or.inl ⟨?_, f2, ?_⟩)
    · exact BT_sx (r := fun a i => decide (a = 150)) (sx_pI (sx_pI (sx_pI sx_rfl rfl) rfl) rfl) ⟨fun a i h1 h2 h3 => decide_eq_false (by omega), fun i h => decide_eq_false (by omega)⟩ (fun i => rfl) r3
    · simp (disch := first | omega | decide) only [↓neg1, nlit, rI, rL, rI2, rL1, nI_add, pk_mul, sbT, dvT, nmd, ixT, ↓ibT, ltT, ltF, leT, leF, eqT, eqF, nM_ltT, nM_ltF, nM_leT, nM_leF, nM_eqF, nM_eqF', nbT0, nbT1, oI_s, oI_n, natF, natT, nltT, nltF, nleT, nleF, ↓reduceIte, lgc, not_true_eq_false, not_false_eq_true, or_false, false_or, or_true, true_or, and_true, true_and, and_false, false_and, ne_eq, eq_self, or_self, and_self]
    · simp (disch := first | omega | decide) only [↓neg1, nlit, rI, rL, rI2, rL1, nI_add, pk_mul, sbT, dvT, nmd, ixT, ↓ibT, ltT, ltF, leT, leF, eqT, eqF, nM_ltT, nM_ltF, nM_leT, nM_leF, nM_eqF, nM_eqF', nbT0, nbT1, oI_s, oI_n, natF, natT, nltT, nltF, nleT, nleF, ↓reduceIte, lgc, not_true_eq_false, not_false_eq_true, or_false, false_or, or_true, true_or, and_true, true_and, and_false, false_and, ne_eq, eq_self, or_self, and_self]
  · refine wpj (wpf (by rw [x3v, w2]; simp (disch := first | omega | decide) only [↓neg1, nlit, rI, rL, rI2, rL1, nI_add, pk_mul, sbT, dvT, nmd, ixT, ↓ibT, ltT, ltF, leT, leF, eqT, eqF, nM_ltT, nM_ltF, nM_leT, nM_leF, nM_eqF, nM_eqF', nbT0, nbT1, oI_s, oI_n, natF, natT, nltT, nltF, nleT, nleF, ↓reduceIte, lgc, not_true_eq_false, not_false_eq_true, or_false, false_or, or_true, true_or, and_true, true_and, and_false, false_and, ne_eq, eq_self, or_self, and_self]) ?_)
    rw [x3v, w2]
    refine wpc (e196 hn k1 k2 k3 k4 w1 hB) (fun e he => ?_)
    obtain ⟨e1, e2⟩ := he
    refine hfin e (sx_trans sxr (sx_wide e1 (fun a i z => ?_))) (BT_sx e1 nC_Fo (fun i => decide_eq_false (by omega)) r3) (Or.inr ⟨o, w1, e2.1, w3, FOL_sx (q := fun _ _ => false) e2 e1 (fun i => decide_eq_false (by omega)) sx_rfl ⟨⟨fun a i h1 h2 h3 => rfl, fun i h => rfl⟩, fun i => rfl, rfl, rfl, fun i => rfl, fun i => rfl⟩, ?_⟩)
    · have := of_decide_eq_false z
      exact decide_eq_false (by omega)
    · obtain ⟨j, j1, j2, j3, j4⟩ := w7
      have sce : ∀ i, e.1 158 i = c.1 158 i := fun i => (e1.1 158 i (decide_eq_false (by omega))).trans ((r1.1 158 i (decide_eq_false (by omega))).trans (scx.1 158 i (decide_eq_false (by omega))))
      refine ⟨j, j1, ((e1.1 150 16 (decide_eq_false (by omega))).trans ((r1.1 150 16 (decide_eq_false (by omega))).trans (scx.1 150 16 (decide_eq_false (by omega))))).trans j2, j3, fun i hi => ?_⟩
      rw [sce i]
      exact j4 i hi
