/-! RUN: fields, arithmetic, `as` -/
section OP2
variable {n f M i : Nat} {c m u : cS}
theorem e314 {x y : Nat} (hx : x < 1000) (hy : y < 8) : d_314 n (nI (100 * x + 1 + y)) = some (nI (8 * x + y)) := by
  unfold d_314
  rw [show nI (100 * x + 1 + y) - nI (100 * x + 1 + y) / 100 * 100 = nI ((100 * x + 1 + y) % 100) from pk_rem (d := 100) (by omega) (by decide) (by decide), show nI (100 * x + 1 + y) / 100 = nI ((100 * x + 1 + y) / 100) from dvT (by omega) (by decide) (by decide), show (8 : Int32) = nI 8 from rfl, pk_mul, nI_add, show (1 : Int32) = nI 1 from rfl, pk_sub (by omega)]
  refine congrArg (fun z => some (nI z)) ?_
  omega
theorem go_18 (hn : 1000 ≤ n) (hT : TOP m c u f M i) (e : opn m (40 * M + i) = 18) : wp (d_313 n (nI (16 * f)) (nI (fa c M + i)) c) (fun d => wp (d_470 n (nI f) (nI (40 * M + i)) u) (fun w => PST m c u d w f M i (i + 1))) := by
  obtain ⟨a, ha, ha4, hb, c121, u211, c125, hR, hd8, htk, hgv, ho4, hl8, hop⟩ := TOP_x hT
  obtain ⟨hG, hA, hM, hi, hr, hf, h255, h254, hV⟩ := id hT
  rw [← ha]
  have g1 := gv_of e
  rw [show GT 18 = 1 from rfl] at g1
  have t1 := tk_of e (by omega)
  rw [show TK 18 = 0 from rfl] at t1
  have hx := hR.2.2.2.1 (by omega)
  have hC := hG.1.2.2.1
  have hcc := (CCS_p hC).1
  have hx1 := hx.1
  have hx2 := hx.2.1
  have hf8 := (hC.1.2.2.2.1 _ hx1).1
  have h15 : u.1 174 15 = nI (ocn m) := (hA.2.2.1 15 rfl).trans hG.1.1.2.2.1
  have hxy : 8 * xN m (40 * M + i) + yN m (40 * M + i) < 96 := by omega
  unfold d_313
  refine wpt (by simp (disch := first | omega | decide) only [↓neg1, nlit, rI, rL, rI2, rL1, nI_add, pk_mul, sbT, dvT, nmd, ixT, ↓ibT, ltT, ltF, leT, leF, eqT, eqF, nM_ltT, nM_ltF, nM_leT, nM_leF, nM_eqF, nM_eqF', nbT0, nbT1, oI_s, oI_n, natF, natT, nltT, nltF, nleT, nleF, ↓reduceIte, lgc, not_true_eq_false, not_false_eq_true, or_false, false_or, or_true, true_or, and_true, true_and, and_false, false_and, ne_eq, eq_self, or_self, and_self]) ?_
  rw [ix_n (by omega), c125, show nI (16 * f) + 8 + nI (dpn m (40 * M + i)) = nI (16 * f + (8 + dpn m (40 * M + i))) by rw [show (8 : Int32) = nI 8 from rfl, nI_add, nI_add]; exact congrArg nI (by omega), c121, hx.2.2.2.2.1]
  (try dsimp only); repeat (first | with_reducible refine wpl ?_ | with_reducible refine wpj ?_ | with_reducible refine wpSl ?_ | with_reducible refine wpSr ?_ | with_reducible refine wpS ?_ | ((with_reducible refine wpt ?_ ?_); · simp (disch := first | omega | decide) only [↓neg1, nlit, rI, rL, rI2, rL1, nI_add, pk_mul, sbT, dvT, nmd, ixT, ↓ibT, ltT, ltF, leT, leF, eqT, eqF, nM_ltT, nM_ltF, nM_leT, nM_leF, nM_eqF, nM_eqF', nbT0, nbT1, oI_s, oI_n, natF, natT, nltT, nltF, nleT, nleF, ↓reduceIte, lgc, not_true_eq_false, not_false_eq_true, or_false, false_or, or_true, true_or, and_true, true_and, and_false, false_and, ne_eq, eq_self, or_self, and_self]; done) | ((with_reducible refine wpf ?_ ?_); · simp (disch := first | omega | decide) only [↓neg1, nlit, rI, rL, rI2, rL1, nI_add, pk_mul, sbT, dvT, nmd, ixT, ↓ibT, ltT, ltF, leT, leF, eqT, eqF, nM_ltT, nM_ltF, nM_leT, nM_leF, nM_eqF, nM_eqF', nbT0, nbT1, oI_s, oI_n, natF, natT, nltT, nltF, nleT, nleF, ↓reduceIte, lgc, not_true_eq_false, not_false_eq_true, or_false, false_or, or_true, true_or, and_true, true_and, and_false, false_and, ne_eq, eq_self, or_self, and_self]; done))
  refine wpe (e314 (by omega) (by omega)) ?_
  (try dsimp only); repeat (first | with_reducible refine wpl ?_ | with_reducible refine wpj ?_ | with_reducible refine wpSl ?_ | with_reducible refine wpSr ?_ | with_reducible refine wpS ?_ | ((with_reducible refine wpt ?_ ?_); · simp (disch := first | omega | decide) only [↓neg1, nlit, rI, rL, rI2, rL1, nI_add, pk_mul, sbT, dvT, nmd, ixT, ↓ibT, ltT, ltF, leT, leF, eqT, eqF, nM_ltT, nM_ltF, nM_leT, nM_leF, nM_eqF, nM_eqF', nbT0, nbT1, oI_s, oI_n, natF, natT, nltT, nltF, nleT, nleF, ↓reduceIte, lgc, not_true_eq_false, not_false_eq_true, or_false, false_or, or_true, true_or, and_true, true_and, and_false, false_and, ne_eq, eq_self, or_self, and_self]; done) | ((with_reducible refine wpf ?_ ?_); · simp (disch := first | omega | decide) only [↓neg1, nlit, rI, rL, rI2, rL1, nI_add, pk_mul, sbT, dvT, nmd, ixT, ↓ibT, ltT, ltF, leT, leF, eqT, eqF, nM_ltT, nM_ltF, nM_leT, nM_leF, nM_eqF, nM_eqF', nbT0, nbT1, oI_s, oI_n, natF, natT, nltT, nltF, nleT, nleF, ↓reduceIte, lgc, not_true_eq_false, not_false_eq_true, or_false, false_or, or_true, true_or, and_true, true_and, and_false, false_and, ne_eq, eq_self, or_self, and_self]; done))
  rw [ix_n (by omega), ix_n (by omega)]
  refine ref_pl (t := none) hT (by omega) (by omega) (fun k hk => by cases hk) (sx_pL sx_rfl (decide_eq_true (by omega))) (fun Q' k' hk' => ?_)
  unfold op470
  rw [u211, (hA.1 214 _ rfl).trans hx.2.2.1, (hA.1 215 _ rfl).trans hx.2.2.2.1, show (8 : Int32) * nI (xN m (40 * M + i)) + nI (yN m (40 * M + i)) = nI (8 * xN m (40 * M + i) + yN m (40 * M + i)) by rw [show (8 : Int32) = nI 8 from rfl, pk_mul, nI_add]]
  (try dsimp only); repeat (first | with_reducible refine wpl ?_ | with_reducible refine wpj ?_ | with_reducible refine wpSl ?_ | with_reducible refine wpSr ?_ | with_reducible refine wpS ?_ | ((with_reducible refine wpt ?_ ?_); · simp (disch := first | omega | decide) only [↓neg1, nlit, rI, rL, rI2, rL1, nI_add, pk_mul, sbT, dvT, nmd, ixT, ↓ibT, ltT, ltF, leT, leF, eqT, eqF, nM_ltT, nM_ltF, nM_leT, nM_leF, nM_eqF, nM_eqF', nbT0, nbT1, oI_s, oI_n, natF, natT, nltT, nltF, nleT, nleF, ↓reduceIte, lgc, not_true_eq_false, not_false_eq_true, or_false, false_or, or_true, true_or, and_true, true_and, and_false, false_and, ne_eq, eq_self, or_self, and_self]; done) | ((with_reducible refine wpf ?_ ?_); · simp (disch := first | omega | decide) only [↓neg1, nlit, rI, rL, rI2, rL1, nI_add, pk_mul, sbT, dvT, nmd, ixT, ↓ibT, ltT, ltF, leT, leF, eqT, eqF, nM_ltT, nM_ltF, nM_leT, nM_leF, nM_eqF, nM_eqF', nbT0, nbT1, oI_s, oI_n, natF, natT, nltT, nltF, nleT, nleF, ↓reduceIte, lgc, not_true_eq_false, not_false_eq_true, or_false, false_or, or_true, true_or, and_true, true_and, and_false, false_and, ne_eq, eq_self, or_self, and_self]; done))
  rw [ix_n (by omega), ix_n (by omega)]
  have hSf := hV.2.1 _ _ hx1 hx2
  generalize hq : 16 * f + (8 + dpn m (40 * M + i)) = q at *
  generalize hk : 8 * xN m (40 * M + i) + yN m (40 * M + i) = k at *
  have hq192 : q < 192 := by omega
  refine wpc (K' := fun w : cS => w.1 256 q = u.1 258 k ∧ (∀ o, o < ocn m → w.1 257 (4 * q + o) = u.1 259 (4 * k + o)) ∧ sx (q57 q) u w) (whl_cnt (fun o (st : Int32 × cS) => st.1 = nI o ∧ st.2.1 256 q = u.1 258 k ∧ (∀ o', o' < o → st.2.1 257 (4 * q + o') = u.1 259 (4 * k + o')) ∧ sx (q57 q) u st.2) (ocn m) ?_ ?_ (by omega) ⟨rfl, by rw [rI, if_pos ⟨rfl, rfl⟩], fun o ho => by omega, sx_pI sx_rfl (decide_eq_true (by omega))⟩) (fun w hw => hk' _ ⟨rfl, q57_Po hw.2.2, VAL_slot hV ho4 rfl hw.2.2 (SL_cg hSf rfl hw.1 (fun o ho => hw.2.1 o ho))⟩)
  · rintro o ⟨o0, w⟩ ho ⟨g1, g2, g3, g4⟩
    dsimp only at g1 g2 g3 g4
    subst g1
    dsimp only
    have r1 : ∀ A j, A ≠ 256 → A ≠ 257 → w.1 A j = u.1 A j := fun A j z1 z2 => g4.1 A j (decide_eq_false (by omega))
    rw [r1 174 15 (by decide) (by decide), h15, r1 214 _ (by decide) (by decide), r1 215 _ (by decide) (by decide), (hA.1 214 _ rfl).trans hx.2.2.1, (hA.1 215 _ rfl).trans hx.2.2.2.1, show (8 : Int32) * nI (xN m (40 * M + i)) + nI (yN m (40 * M + i)) = nI k by rw [show (8 : Int32) = nI 8 from rfl, pk_mul, nI_add, hk], show (4 : Int32) * nI k + nI o = nI (4 * k + o) by rw [show (4 : Int32) = nI 4 from rfl, pk_mul, nI_add], show (4 : Int32) * nI q + nI o = nI (4 * q + o) by rw [show (4 : Int32) = nI 4 from rfl, pk_mul, nI_add]]
    refine wpf (by simp (disch := first | omega | decide) only [↓neg1, nlit, rI, rL, rI2, rL1, nI_add, pk_mul, sbT, dvT, nmd, ixT, ↓ibT, ltT, ltF, leT, leF, eqT, eqF, nM_ltT, nM_ltF, nM_leT, nM_leF, nM_eqF, nM_eqF', nbT0, nbT1, oI_s, oI_n, natF, natT, nltT, nltF, nleT, nleF, ↓reduceIte, lgc, not_true_eq_false, not_false_eq_true, or_false, false_or, or_true, true_or, and_true, true_and, and_false, false_and, ne_eq, eq_self, or_self, and_self]) (wpt (by simp (disch := first | omega | decide) only [↓neg1, nlit, rI, rL, rI2, rL1, nI_add, pk_mul, sbT, dvT, nmd, ixT, ↓ibT, ltT, ltF, leT, leF, eqT, eqF, nM_ltT, nM_ltF, nM_leT, nM_leF, nM_eqF, nM_eqF', nbT0, nbT1, oI_s, oI_n, natF, natT, nltT, nltF, nleT, nleF, ↓reduceIte, lgc, not_true_eq_false, not_false_eq_true, or_false, false_or, or_true, true_or, and_true, true_and, and_false, false_and, ne_eq, eq_self, or_self, and_self]) (wpt (by simp (disch := first | omega | decide) only [↓neg1, nlit, rI, rL, rI2, rL1, nI_add, pk_mul, sbT, dvT, nmd, ixT, ↓ibT, ltT, ltF, leT, leF, eqT, eqF, nM_ltT, nM_ltF, nM_leT, nM_leF, nM_eqF, nM_eqF', nbT0, nbT1, oI_s, oI_n, natF, natT, nltT, nltF, nleT, nleF, ↓reduceIte, lgc, not_true_eq_false, not_false_eq_true, or_false, false_or, or_true, true_or, and_true, true_and, and_false, false_and, ne_eq, eq_self, or_self, and_self]) (wpt (by simp (disch := first | omega | decide) only [↓neg1, nlit, rI, rL, rI2, rL1, nI_add, pk_mul, sbT, dvT, nmd, ixT, ↓ibT, ltT, ltF, leT, leF, eqT, eqF, nM_ltT, nM_ltF, nM_leT, nM_leF, nM_eqF, nM_eqF', nbT0, nbT1, oI_s, oI_n, natF, natT, nltT, nltF, nleT, nleF, ↓reduceIte, lgc, not_true_eq_false, not_false_eq_true, or_false, false_or, or_true, true_or, and_true, true_and, and_false, false_and, ne_eq, eq_self, or_self, and_self]) (wpt (by simp (disch := first | omega | decide) only [↓neg1, nlit, rI, rL, rI2, rL1, nI_add, pk_mul, sbT, dvT, nmd, ixT, ↓ibT, ltT, ltF, leT, leF, eqT, eqF, nM_ltT, nM_ltF, nM_leT, nM_leF, nM_eqF, nM_eqF', nbT0, nbT1, oI_s, oI_n, natF, natT, nltT, nltF, nleT, nleF, ↓reduceIte, lgc, not_true_eq_false, not_false_eq_true, or_false, false_or, or_true, true_or, and_true, true_and, and_false, false_and, ne_eq, eq_self, or_self, and_self]) ?_))))
    rw [ix_n (by omega), ix_n (by omega), r1 259 _ (by decide) (by decide)]
    refine wpl (wpl ⟨nI_1 _, ?_, fun o' ho' => ?_, sx_pI g4 (decide_eq_true (by omega))⟩)
    · dsimp only
      rw [rI, if_neg (by omega)]
      exact g2
    · dsimp only
      rw [rI]
      by_cases e : o' = o
      · rw [if_pos ⟨rfl, by omega⟩, e]
      · rw [if_neg (by omega)]
        exact g3 o' (by omega)
  · rintro ⟨o0, w⟩ ⟨g1, g2, g3, g4⟩
    dsimp only at g1 g2 g3 g4
    subst g1
    dsimp only
    rw [(g4.1 174 15 (decide_eq_false (by omega))).trans h15]
    exact wpt (by simp (disch := first | omega | decide) only [↓neg1, nlit, rI, rL, rI2, rL1, nI_add, pk_mul, sbT, dvT, nmd, ixT, ↓ibT, ltT, ltF, leT, leF, eqT, eqF, nM_ltT, nM_ltF, nM_leT, nM_leF, nM_eqF, nM_eqF', nbT0, nbT1, oI_s, oI_n, natF, natT, nltT, nltF, nleT, nleF, ↓reduceIte, lgc, not_true_eq_false, not_false_eq_true, or_false, false_or, or_true, true_or, and_true, true_and, and_false, false_and, ne_eq, eq_self, or_self, and_self]) ⟨g2, g3, g4⟩
theorem go_19 (hn : 1000 ≤ n) (hT : TOP m c u f M i) (e : opn m (40 * M + i) = 19) : wp (d_313 n (nI (16 * f)) (nI (fa c M + i)) c) (fun d => wp (d_470 n (nI f) (nI (40 * M + i)) u) (fun w => PST m c u d w f M i (i + 1))) := by
  obtain ⟨a, ha, ha4, hb, c121, u211, c125, hR, hd8, htk, hgv, ho4, hl8, hop⟩ := TOP_x hT
  obtain ⟨hG, hA, hM, hi, hr, hf, h255, h254, hV⟩ := id hT
  rw [← ha]
  have t1 := tk_of e (by omega)
  rw [show TK 19 = 1 from rfl] at t1
  have hx := hR.2.2.2.1 (by omega)
  have hC := hG.1.2.2.1
  have hcc := (CCS_p hC).1
  have hx1 := hx.1
  have hx2 := hx.2.1
  have hf8 := (hC.1.2.2.2.1 _ hx1).1
  have h15 : u.1 174 15 = nI (ocn m) := (hA.2.2.1 15 rfl).trans hG.1.1.2.2.1
  have hxy : 8 * xN m (40 * M + i) + yN m (40 * M + i) < 96 := by omega
  have hq1 : nI (16 * f + (8 + dpn m (40 * M + i))) - 1 = nI (16 * f + (8 + dpn m (40 * M + i)) - 1) := pk_sub (b := 1) (by omega)
  unfold d_313
  refine wpt (by simp (disch := first | omega | decide) only [↓neg1, nlit, rI, rL, rI2, rL1, nI_add, pk_mul, sbT, dvT, nmd, ixT, ↓ibT, ltT, ltF, leT, leF, eqT, eqF, nM_ltT, nM_ltF, nM_leT, nM_leF, nM_eqF, nM_eqF', nbT0, nbT1, oI_s, oI_n, natF, natT, nltT, nltF, nleT, nleF, ↓reduceIte, lgc, not_true_eq_false, not_false_eq_true, or_false, false_or, or_true, true_or, and_true, true_and, and_false, false_and, ne_eq, eq_self, or_self, and_self]) ?_
  rw [ix_n (by omega), c125, show nI (16 * f) + 8 + nI (dpn m (40 * M + i)) = nI (16 * f + (8 + dpn m (40 * M + i))) by rw [show (8 : Int32) = nI 8 from rfl, nI_add, nI_add]; exact congrArg nI (by omega), c121, hx.2.2.2.2.1]
  refine wpl (wpt (by simp (disch := first | omega | decide) only [↓neg1, nlit, rI, rL, rI2, rL1, nI_add, pk_mul, sbT, dvT, nmd, ixT, ↓ibT, ltT, ltF, leT, leF, eqT, eqF, nM_ltT, nM_ltF, nM_leT, nM_leF, nM_eqF, nM_eqF', nbT0, nbT1, oI_s, oI_n, natF, natT, nltT, nltF, nleT, nleF, ↓reduceIte, lgc, not_true_eq_false, not_false_eq_true, or_false, false_or, or_true, true_or, and_true, true_and, and_false, false_and, ne_eq, eq_self, or_self, and_self]) (wpl (wpt (by simp (disch := first | omega | decide) only [↓neg1, nlit, rI, rL, rI2, rL1, nI_add, pk_mul, sbT, dvT, nmd, ixT, ↓ibT, ltT, ltF, leT, leF, eqT, eqF, nM_ltT, nM_ltF, nM_leT, nM_leF, nM_eqF, nM_eqF', nbT0, nbT1, oI_s, oI_n, natF, natT, nltT, nltF, nleT, nleF, ↓reduceIte, lgc, not_true_eq_false, not_false_eq_true, or_false, false_or, or_true, true_or, and_true, true_and, and_false, false_and, ne_eq, eq_self, or_self, and_self]) ?_)))
  rw [hq1]
  (try dsimp only); repeat (first | with_reducible refine wpl ?_ | with_reducible refine wpj ?_ | with_reducible refine wpSl ?_ | with_reducible refine wpSr ?_ | with_reducible refine wpS ?_ | ((with_reducible refine wpt ?_ ?_); · simp (disch := first | omega | decide) only [↓neg1, nlit, rI, rL, rI2, rL1, nI_add, pk_mul, sbT, dvT, nmd, ixT, ↓ibT, ltT, ltF, leT, leF, eqT, eqF, nM_ltT, nM_ltF, nM_leT, nM_leF, nM_eqF, nM_eqF', nbT0, nbT1, oI_s, oI_n, natF, natT, nltT, nltF, nleT, nleF, ↓reduceIte, lgc, not_true_eq_false, not_false_eq_true, or_false, false_or, or_true, true_or, and_true, true_and, and_false, false_and, ne_eq, eq_self, or_self, and_self]; done) | ((with_reducible refine wpf ?_ ?_); · simp (disch := first | omega | decide) only [↓neg1, nlit, rI, rL, rI2, rL1, nI_add, pk_mul, sbT, dvT, nmd, ixT, ↓ibT, ltT, ltF, leT, leF, eqT, eqF, nM_ltT, nM_ltF, nM_leT, nM_leF, nM_eqF, nM_eqF', nbT0, nbT1, oI_s, oI_n, natF, natT, nltT, nltF, nleT, nleF, ↓reduceIte, lgc, not_true_eq_false, not_false_eq_true, or_false, false_or, or_true, true_or, and_true, true_and, and_false, false_and, ne_eq, eq_self, or_self, and_self]; done))
  refine wpe (e314 (by omega) (by omega)) ?_
  (try dsimp only); repeat (first | with_reducible refine wpl ?_ | with_reducible refine wpj ?_ | with_reducible refine wpSl ?_ | with_reducible refine wpSr ?_ | with_reducible refine wpS ?_ | ((with_reducible refine wpt ?_ ?_); · simp (disch := first | omega | decide) only [↓neg1, nlit, rI, rL, rI2, rL1, nI_add, pk_mul, sbT, dvT, nmd, ixT, ↓ibT, ltT, ltF, leT, leF, eqT, eqF, nM_ltT, nM_ltF, nM_leT, nM_leF, nM_eqF, nM_eqF', nbT0, nbT1, oI_s, oI_n, natF, natT, nltT, nltF, nleT, nleF, ↓reduceIte, lgc, not_true_eq_false, not_false_eq_true, or_false, false_or, or_true, true_or, and_true, true_and, and_false, false_and, ne_eq, eq_self, or_self, and_self]; done) | ((with_reducible refine wpf ?_ ?_); · simp (disch := first | omega | decide) only [↓neg1, nlit, rI, rL, rI2, rL1, nI_add, pk_mul, sbT, dvT, nmd, ixT, ↓ibT, ltT, ltF, leT, leF, eqT, eqF, nM_ltT, nM_ltF, nM_leT, nM_leF, nM_eqF, nM_eqF', nbT0, nbT1, oI_s, oI_n, natF, natT, nltT, nltF, nleT, nleF, ↓reduceIte, lgc, not_true_eq_false, not_false_eq_true, or_false, false_or, or_true, true_or, and_true, true_and, and_false, false_and, ne_eq, eq_self, or_self, and_self]; done))
  rw [ix_n (by omega), ix_n (by omega)]
  refine ref_pl (t := none) hT (by omega) (by omega) (fun k hk => by cases hk) (sx_pL sx_rfl (decide_eq_true (by omega))) (fun Q' k' hk' => ?_)
  unfold op470
  rw [u211, hq1, (hA.1 214 _ rfl).trans hx.2.2.1, (hA.1 215 _ rfl).trans hx.2.2.2.1, show (8 : Int32) * nI (xN m (40 * M + i)) + nI (yN m (40 * M + i)) = nI (8 * xN m (40 * M + i) + yN m (40 * M + i)) by rw [show (8 : Int32) = nI 8 from rfl, pk_mul, nI_add]]
  (try dsimp only); repeat (first | with_reducible refine wpl ?_ | with_reducible refine wpj ?_ | with_reducible refine wpSl ?_ | with_reducible refine wpSr ?_ | with_reducible refine wpS ?_ | ((with_reducible refine wpt ?_ ?_); · simp (disch := first | omega | decide) only [↓neg1, nlit, rI, rL, rI2, rL1, nI_add, pk_mul, sbT, dvT, nmd, ixT, ↓ibT, ltT, ltF, leT, leF, eqT, eqF, nM_ltT, nM_ltF, nM_leT, nM_leF, nM_eqF, nM_eqF', nbT0, nbT1, oI_s, oI_n, natF, natT, nltT, nltF, nleT, nleF, ↓reduceIte, lgc, not_true_eq_false, not_false_eq_true, or_false, false_or, or_true, true_or, and_true, true_and, and_false, false_and, ne_eq, eq_self, or_self, and_self]; done) | ((with_reducible refine wpf ?_ ?_); · simp (disch := first | omega | decide) only [↓neg1, nlit, rI, rL, rI2, rL1, nI_add, pk_mul, sbT, dvT, nmd, ixT, ↓ibT, ltT, ltF, leT, leF, eqT, eqF, nM_ltT, nM_ltF, nM_leT, nM_leF, nM_eqF, nM_eqF', nbT0, nbT1, oI_s, oI_n, natF, natT, nltT, nltF, nleT, nleF, ↓reduceIte, lgc, not_true_eq_false, not_false_eq_true, or_false, false_or, or_true, true_or, and_true, true_and, and_false, false_and, ne_eq, eq_self, or_self, and_self]; done))
  rw [ix_n (by omega), ix_n (by omega)]
  have hSq := hV.1 (16 * f + (8 + dpn m (40 * M + i)) - 1) (by omega)
  generalize hq : 16 * f + (8 + dpn m (40 * M + i)) - 1 = q at *
  generalize hk : 8 * xN m (40 * M + i) + yN m (40 * M + i) = k at *
  have hq192 : q < 192 := by omega
  refine wpc (K' := fun w : cS => w.1 258 k = u.1 256 q ∧ (∀ o, o < ocn m → w.1 259 (4 * k + o) = u.1 257 (4 * q + o)) ∧ sx (fun A i => decide ((A = 258 ∧ i = k) ∨ (A = 259 ∧ 4 * k ≤ i ∧ i < 4 * k + 4))) u w) (whl_cnt (fun o (st : Int32 × cS) => st.1 = nI o ∧ st.2.1 258 k = u.1 256 q ∧ (∀ o', o' < o → st.2.1 259 (4 * k + o') = u.1 257 (4 * q + o')) ∧ sx (fun A i => decide ((A = 258 ∧ i = k) ∨ (A = 259 ∧ 4 * k ≤ i ∧ i < 4 * k + 4))) u st.2) (ocn m) ?_ ?_ (by omega) ⟨rfl, by rw [rI, if_pos ⟨rfl, rfl⟩], fun o ho => by omega, sx_pI sx_rfl (decide_eq_true (by omega))⟩) (fun w hw => hk' _ ⟨rfl, sx_wide hw.2.2 (fun a i z => ?_), VAL_fld hV ho4 rfl hw.2.2 (SL_cg hSq rfl hw.1 (fun o ho => hw.2.1 o ho))⟩)
  · rintro o ⟨o0, w⟩ ho ⟨g1, g2, g3, g4⟩
    dsimp only at g1 g2 g3 g4
    subst g1
    dsimp only
    have r1 : ∀ A j, A ≠ 258 → A ≠ 259 → w.1 A j = u.1 A j := fun A j z1 z2 => g4.1 A j (decide_eq_false (by omega))
    rw [r1 174 15 (by decide) (by decide), h15, r1 214 _ (by decide) (by decide), r1 215 _ (by decide) (by decide), (hA.1 214 _ rfl).trans hx.2.2.1, (hA.1 215 _ rfl).trans hx.2.2.2.1, show (8 : Int32) * nI (xN m (40 * M + i)) + nI (yN m (40 * M + i)) = nI k by rw [show (8 : Int32) = nI 8 from rfl, pk_mul, nI_add, hk], show (4 : Int32) * nI k + nI o = nI (4 * k + o) by rw [show (4 : Int32) = nI 4 from rfl, pk_mul, nI_add], show (4 : Int32) * nI q + nI o = nI (4 * q + o) by rw [show (4 : Int32) = nI 4 from rfl, pk_mul, nI_add]]
    refine wpf (by simp (disch := first | omega | decide) only [↓neg1, nlit, rI, rL, rI2, rL1, nI_add, pk_mul, sbT, dvT, nmd, ixT, ↓ibT, ltT, ltF, leT, leF, eqT, eqF, nM_ltT, nM_ltF, nM_leT, nM_leF, nM_eqF, nM_eqF', nbT0, nbT1, oI_s, oI_n, natF, natT, nltT, nltF, nleT, nleF, ↓reduceIte, lgc, not_true_eq_false, not_false_eq_true, or_false, false_or, or_true, true_or, and_true, true_and, and_false, false_and, ne_eq, eq_self, or_self, and_self]) (wpt (by simp (disch := first | omega | decide) only [↓neg1, nlit, rI, rL, rI2, rL1, nI_add, pk_mul, sbT, dvT, nmd, ixT, ↓ibT, ltT, ltF, leT, leF, eqT, eqF, nM_ltT, nM_ltF, nM_leT, nM_leF, nM_eqF, nM_eqF', nbT0, nbT1, oI_s, oI_n, natF, natT, nltT, nltF, nleT, nleF, ↓reduceIte, lgc, not_true_eq_false, not_false_eq_true, or_false, false_or, or_true, true_or, and_true, true_and, and_false, false_and, ne_eq, eq_self, or_self, and_self]) (wpt (by simp (disch := first | omega | decide) only [↓neg1, nlit, rI, rL, rI2, rL1, nI_add, pk_mul, sbT, dvT, nmd, ixT, ↓ibT, ltT, ltF, leT, leF, eqT, eqF, nM_ltT, nM_ltF, nM_leT, nM_leF, nM_eqF, nM_eqF', nbT0, nbT1, oI_s, oI_n, natF, natT, nltT, nltF, nleT, nleF, ↓reduceIte, lgc, not_true_eq_false, not_false_eq_true, or_false, false_or, or_true, true_or, and_true, true_and, and_false, false_and, ne_eq, eq_self, or_self, and_self]) (wpt (by simp (disch := first | omega | decide) only [↓neg1, nlit, rI, rL, rI2, rL1, nI_add, pk_mul, sbT, dvT, nmd, ixT, ↓ibT, ltT, ltF, leT, leF, eqT, eqF, nM_ltT, nM_ltF, nM_leT, nM_leF, nM_eqF, nM_eqF', nbT0, nbT1, oI_s, oI_n, natF, natT, nltT, nltF, nleT, nleF, ↓reduceIte, lgc, not_true_eq_false, not_false_eq_true, or_false, false_or, or_true, true_or, and_true, true_and, and_false, false_and, ne_eq, eq_self, or_self, and_self]) (wpt (by simp (disch := first | omega | decide) only [↓neg1, nlit, rI, rL, rI2, rL1, nI_add, pk_mul, sbT, dvT, nmd, ixT, ↓ibT, ltT, ltF, leT, leF, eqT, eqF, nM_ltT, nM_ltF, nM_leT, nM_leF, nM_eqF, nM_eqF', nbT0, nbT1, oI_s, oI_n, natF, natT, nltT, nltF, nleT, nleF, ↓reduceIte, lgc, not_true_eq_false, not_false_eq_true, or_false, false_or, or_true, true_or, and_true, true_and, and_false, false_and, ne_eq, eq_self, or_self, and_self]) ?_))))
    rw [ix_n (by omega), ix_n (by omega), r1 257 _ (by decide) (by decide)]
    refine wpl (wpl ⟨nI_1 _, ?_, fun o' ho' => ?_, sx_pI g4 (decide_eq_true (by omega))⟩)
    · dsimp only
      rw [rI, if_neg (by omega)]
      exact g2
    · dsimp only
      rw [rI]
      by_cases e : o' = o
      · rw [if_pos ⟨rfl, by omega⟩, e]
      · rw [if_neg (by omega)]
        exact g3 o' (by omega)
  · rintro ⟨o0, w⟩ ⟨g1, g2, g3, g4⟩
    dsimp only at g1 g2 g3 g4
    subst g1
    dsimp only
    rw [(g4.1 174 15 (decide_eq_false (by omega))).trans h15]
    exact wpt (by simp (disch := first | omega | decide) only [↓neg1, nlit, rI, rL, rI2, rL1, nI_add, pk_mul, sbT, dvT, nmd, ixT, ↓ibT, ltT, ltF, leT, leF, eqT, eqF, nM_ltT, nM_ltF, nM_leT, nM_leF, nM_eqF, nM_eqF', nbT0, nbT1, oI_s, oI_n, natF, natT, nltT, nltF, nleT, nleF, ↓reduceIte, lgc, not_true_eq_false, not_false_eq_true, or_false, false_or, or_true, true_or, and_true, true_and, and_false, false_and, ne_eq, eq_self, or_self, and_self]) ⟨g2, g3, g4⟩
  · have := of_decide_eq_false z
    exact decide_eq_false (by omega)
/-- numbers reckoned, marks joined -/
def arN (w : Nat) (x y : Int32) : Int32 := if w = 22 then x + y else if w = 23 then x - y else x * y
theorem e315 {w : Nat} {x y : Int64} {v v' : Int32} {k k' : Nat → Int32} (hn : 1000 ≤ n) (hO : OOS c m) (hw : 22 ≤ w ∧ w ≤ 24) (hx : SL m x v k) (hy : SL m y v' k') : wp (d_315 n (nI (200 + w)) x y c) (fun r => r.toInt32 = arN w v v' ∧ ∀ o, o < ocn m → nbl r (8 + o) = Jo m o (nbl x (8 + o)) (nbl y (8 + o))) := by
  have ho4 := hO.1
  unfold d_315
  rw [hx.1, hy.1]
  refine wpl (wpl ?_)
  refine wpjQ (fun p : Int32 => p = arN w v v') ?_ ?_
  · rintro p rfl
    refine wpl ?_
    have h0 : ((arN w v v').toInt64 &&& 4294967295).toInt32 = arN w v v' := by
      have := pkV_32 (v := arN w v v') (b := 0) z_32
      unfold pkV at this
      rwa [Int64.or_zero] at this
    refine wpc (K' := fun r : Int64 => r.toInt32 = arN w v v' ∧ ∀ o, o < ocn m → nbl r (8 + o) = Jo m o (nbl x (8 + o)) (nbl y (8 + o))) (whl_cnt (fun o (st : Int64 × Int32) => st.2 = nI o ∧ st.1.toInt32 = arN w v v' ∧ ∀ o', o' < o → nbl st.1 (8 + o') = Jo m o' (nbl x (8 + o')) (nbl y (8 + o'))) (ocn m) ?_ ?_ (by omega) ⟨rfl, h0, fun o ho => by omega⟩) (fun r hr => hr)
    · rintro o ⟨r, o0⟩ ho ⟨g1, g2, g3⟩
      dsimp only at g1 g2 g3
      subst g1
      dsimp only
      have hRO := OOS_at hO ho
      have hel := OOS_el hO ho
      have hx1 := (hx.2 o ho).1
      have hy1 := (hy.2 o ho).1
      obtain ⟨j1, j2, -⟩ := LA_J hRO.1 hx1 hy1
      rw [hO.2.1, show (8 : Int32) + nI o = nI (8 + o) from nI_add 8 o]
      refine wpf (by simp (disch := first | omega | decide) only [↓neg1, nlit, rI, rL, rI2, rL1, nI_add, pk_mul, sbT, dvT, nmd, ixT, ↓ibT, ltT, ltF, leT, leF, eqT, eqF, nM_ltT, nM_ltF, nM_leT, nM_leF, nM_eqF, nM_eqF', nbT0, nbT1, oI_s, oI_n, natF, natT, nltT, nltF, nleT, nleF, ↓reduceIte, lgc, not_true_eq_false, not_false_eq_true, or_false, false_or, or_true, true_or, and_true, true_and, and_false, false_and, ne_eq, eq_self, or_self, and_self]) (wpl (wpt (by simp (disch := first | omega | decide) only [↓neg1, nlit, rI, rL, rI2, rL1, nI_add, pk_mul, sbT, dvT, nmd, ixT, ↓ibT, ltT, ltF, leT, leF, eqT, eqF, nM_ltT, nM_ltF, nM_leT, nM_leF, nM_eqF, nM_eqF', nbT0, nbT1, oI_s, oI_n, natF, natT, nltT, nltF, nleT, nleF, ↓reduceIte, lgc, not_true_eq_false, not_false_eq_true, or_false, false_or, or_true, true_or, and_true, true_and, and_false, false_and, ne_eq, eq_self, or_self, and_self]) ?_))
      rw [ix_n (by omega)]
      refine wpe (e355 (by omega)) (wpe (e355 (by omega)) (wpe (e238 (by omega) (by omega)) ?_))
      rw [hRO.2.2.2.2.2.2.1 _ _ hx1 hy1, j2]
      refine wpe (e356 (by omega) (by omega)) (wpl ⟨nI_1 _, ?_, fun o' ho' => ?_⟩)
      · dsimp only
        rw [wn_32 (by omega) (by omega) (by omega)]
        exact g2
      · dsimp only
        rw [nbl_wn (by omega) (by omega) (by omega)]
        by_cases e : o' = o
        · rw [if_pos (by omega), e]
        · rw [if_neg (by omega)]
          exact g3 o' (by omega)
    · rintro ⟨r, o0⟩ ⟨g1, g2, g3⟩
      dsimp only at g1 g2 g3
      subst g1
      dsimp only
      rw [hO.2.1]
      exact wpt (by simp (disch := first | omega | decide) only [↓neg1, nlit, rI, rL, rI2, rL1, nI_add, pk_mul, sbT, dvT, nmd, ixT, ↓ibT, ltT, ltF, leT, leF, eqT, eqF, nM_ltT, nM_ltF, nM_leT, nM_leF, nM_eqF, nM_eqF', nbT0, nbT1, oI_s, oI_n, natF, natT, nltT, nltF, nleT, nleF, ↓reduceIte, lgc, not_true_eq_false, not_false_eq_true, or_false, false_or, or_true, true_or, and_true, true_and, and_false, false_and, ne_eq, eq_self, or_self, and_self]) ⟨g2, g3⟩
  · intro Q' k' hk'
    by_cases e2 : w = 22
    · refine wpt (by rw [e2]; rfl) (hk' _ ?_)
      unfold arN
      rw [if_pos e2]
    · refine wpf (fun z => e2 (by
        have := (nI_eq (by omega) (by decide)).mp (show nI (200 + w) = nI 222 from z)
        omega)) ?_
      by_cases e3 : w = 23
      · refine wpt (by rw [e3]; rfl) (hk' _ ?_)
        unfold arN
        rw [if_neg e2, if_pos e3]
      · refine wpf (fun z => e3 (by
          have := (nI_eq (by omega) (by decide)).mp (show nI (200 + w) = nI 223 from z)
          omega)) (hk' _ ?_)
        unfold arN
        rw [if_neg e2, if_neg e3]
theorem lp22 {q : Nat} {z : Int32} (hn : 1000 ≤ n) (hA : AG m u) (hO : OOS c m) (hq : 2 ≤ q) (hq2 : q ≤ 192) (s1 : SLq m c u (q - 1)) (s2 : SLq m c u (q - 2)) : wp (whl (R := (cS)) (fun s59 : Int32 × cS =>
        if (s59.2.1 174 15) ≤ s59.1 then
          some (.inr s59.2)
        else
          if ib ((4 * (nI (q - 2))) + s59.1) 768 then
          if ib ((4 * (nI (q - 1))) + s59.1) 768 then
          Option.bind (d_390 n s59.1 (s59.2.1 257 (ix ((4 * (nI (q - 2))) + s59.1))) (s59.2.1 257 (ix ((4 * (nI (q - 1))) + s59.1))) s59.2) (fun v62 =>
          if ib ((4 * (nI (q - 2))) + s59.1) 768 then
          lt (pI s59.2 257 (ix ((4 * (nI (q - 2))) + s59.1)) v62) (fun c64 =>
          lt (s59.1 + 1 : Int32) (fun v67 =>
          some (.inl (v67, c64))))
          else none)
          else none
          else none) n (0, pI u 256 (q - 2) z)) (fun w => w.1 256 (q - 2) = z ∧ (∀ o, o < ocn m → w.1 257 (4 * (q - 2) + o) = nI (Jo m o (nbl (c.2 165 (q - 2)) (8 + o)) (nbl (c.2 165 (q - 1)) (8 + o)))) ∧ sx (q57 (q - 2)) u w) := by
  have ho4 := hO.1
  have h15 : u.1 174 15 = nI (ocn m) := (hA.2.2.1 15 rfl).trans hO.2.2.1
  refine whl_cnt (fun o (st : Int32 × cS) => st.1 = nI o ∧ st.2.1 256 (q - 2) = z ∧ (∀ o', o' < ocn m → st.2.1 257 (4 * (q - 2) + o') = if o' < o then nI (Jo m o' (nbl (c.2 165 (q - 2)) (8 + o')) (nbl (c.2 165 (q - 1)) (8 + o'))) else u.1 257 (4 * (q - 2) + o')) ∧ sx (q57 (q - 2)) u st.2) (ocn m) ?_ ?_ (by omega) ⟨rfl, by rw [rI, if_pos ⟨rfl, rfl⟩], fun o ho => by rw [if_neg (by omega), rI, if_neg (by omega)], sx_pI sx_rfl (decide_eq_true (by omega))⟩
  · rintro o ⟨o0, w⟩ ho ⟨g1, g2, g3, g4⟩
    dsimp only at g1 g2 g3 g4
    subst g1
    dsimp only
    have hRO := OOS_at hO ho
    have hel := OOS_el hO ho
    obtain ⟨j1, j2, -⟩ := LA_J hRO.1 (s2.2 o ho).1 (s1.2 o ho).1
    have b1 := (s1.2 o ho).1
    have b2 := (s2.2 o ho).1
    have hAw := AG_sx hA (q57_Po g4) nP_Po
    rw [(g4.1 174 15 (decide_eq_false (by omega))).trans h15, show (4 : Int32) * nI (q - 2) + nI o = nI (4 * (q - 2) + o) by rw [show (4 : Int32) = nI 4 from rfl, pk_mul, nI_add], show (4 : Int32) * nI (q - 1) + nI o = nI (4 * (q - 1) + o) by rw [show (4 : Int32) = nI 4 from rfl, pk_mul, nI_add]]
    refine wpf (by simp (disch := first | omega | decide) only [↓neg1, nlit, rI, rL, rI2, rL1, nI_add, pk_mul, sbT, dvT, nmd, ixT, ↓ibT, ltT, ltF, leT, leF, eqT, eqF, nM_ltT, nM_ltF, nM_leT, nM_leF, nM_eqF, nM_eqF', nbT0, nbT1, oI_s, oI_n, natF, natT, nltT, nltF, nleT, nleF, ↓reduceIte, lgc, not_true_eq_false, not_false_eq_true, or_false, false_or, or_true, true_or, and_true, true_and, and_false, false_and, ne_eq, eq_self, or_self, and_self]) (wpt (by simp (disch := first | omega | decide) only [↓neg1, nlit, rI, rL, rI2, rL1, nI_add, pk_mul, sbT, dvT, nmd, ixT, ↓ibT, ltT, ltF, leT, leF, eqT, eqF, nM_ltT, nM_ltF, nM_leT, nM_leF, nM_eqF, nM_eqF', nbT0, nbT1, oI_s, oI_n, natF, natT, nltT, nltF, nleT, nleF, ↓reduceIte, lgc, not_true_eq_false, not_false_eq_true, or_false, false_or, or_true, true_or, and_true, true_and, and_false, false_and, ne_eq, eq_self, or_self, and_self]) (wpt (by simp (disch := first | omega | decide) only [↓neg1, nlit, rI, rL, rI2, rL1, nI_add, pk_mul, sbT, dvT, nmd, ixT, ↓ibT, ltT, ltF, leT, leF, eqT, eqF, nM_ltT, nM_ltF, nM_leT, nM_leF, nM_eqF, nM_eqF', nbT0, nbT1, oI_s, oI_n, natF, natT, nltT, nltF, nleT, nleF, ↓reduceIte, lgc, not_true_eq_false, not_false_eq_true, or_false, false_or, or_true, true_or, and_true, true_and, and_false, false_and, ne_eq, eq_self, or_self, and_self]) ?_))
    rw [ix_n (by omega), ix_n (by omega), g3 o ho, if_neg (by omega), g4.1 257 (4 * (q - 1) + o) (decide_eq_false (by omega)), show u.1 257 (4 * (q - 2) + o) = _ from (s2.2 o ho).2, show u.1 257 (4 * (q - 1) + o) = _ from (s1.2 o ho).2]
    refine wpe (e390 (by omega) (by omega) (by omega)) (wpt (by simp (disch := first | omega | decide) only [↓neg1, nlit, rI, rL, rI2, rL1, nI_add, pk_mul, sbT, dvT, nmd, ixT, ↓ibT, ltT, ltF, leT, leF, eqT, eqF, nM_ltT, nM_ltF, nM_leT, nM_leF, nM_eqF, nM_eqF', nbT0, nbT1, oI_s, oI_n, natF, natT, nltT, nltF, nleT, nleF, ↓reduceIte, lgc, not_true_eq_false, not_false_eq_true, or_false, false_or, or_true, true_or, and_true, true_and, and_false, false_and, ne_eq, eq_self, or_self, and_self]) ?_)
    rw [show mJ w o (nbl (c.2 165 (q - 2)) (8 + o)) (nbl (c.2 165 (q - 1)) (8 + o)) = nI (Jo m o (nbl (c.2 165 (q - 2)) (8 + o)) (nbl (c.2 165 (q - 1)) (8 + o))) from (hAw.1 185 _ rfl).trans j2]
    refine wpl (wpl ⟨nI_1 _, ?_, fun o' ho' => ?_, sx_pI g4 (decide_eq_true (by omega))⟩)
    · dsimp only
      rw [rI, if_neg (by omega)]
      exact g2
    · dsimp only
      rw [rI]
      by_cases e : o' = o
      · subst e
        rw [if_pos ⟨rfl, rfl⟩, if_pos (by omega)]
      · rw [if_neg (by omega), g3 o' ho']
        by_cases e2 : o' < o
        · rw [if_pos e2, if_pos (by omega)]
        · rw [if_neg e2, if_neg (by omega)]
  · rintro ⟨o0, w⟩ ⟨g1, g2, g3, g4⟩
    dsimp only at g1 g2 g3 g4
    subst g1
    dsimp only
    rw [(g4.1 174 15 (decide_eq_false (by omega))).trans h15]
    exact wpt (by simp (disch := first | omega | decide) only [↓neg1, nlit, rI, rL, rI2, rL1, nI_add, pk_mul, sbT, dvT, nmd, ixT, ↓ibT, ltT, ltF, leT, leF, eqT, eqF, nM_ltT, nM_ltF, nM_leT, nM_leF, nM_eqF, nM_eqF', nbT0, nbT1, oI_s, oI_n, natF, natT, nltT, nltF, nleT, nleF, ↓reduceIte, lgc, not_true_eq_false, not_false_eq_true, or_false, false_or, or_true, true_or, and_true, true_and, and_false, false_and, ne_eq, eq_self, or_self, and_self]) ⟨g2, fun o ho => by rw [g3 o ho, if_pos ho], g4⟩
theorem go_22 (hn : 1000 ≤ n) (hT : TOP m c u f M i) (e : 22 ≤ opn m (40 * M + i) ∧ opn m (40 * M + i) ≤ 24) : wp (d_313 n (nI (16 * f)) (nI (fa c M + i)) c) (fun d => wp (d_470 n (nI f) (nI (40 * M + i)) u) (fun w => PST m c u d w f M i (i + 1))) := by
  obtain ⟨a, ha, ha4, hb, c121, u211, c125, hR, hd8, htk, hgv, ho4, hl8, hop⟩ := TOP_x hT
  obtain ⟨hG, hA, hM, hi, hr, hf, h255, h254, hV⟩ := id hT
  rw [← ha]
  have t1 : tkn m (40 * M + i) = 2 := by
    rcases (show opn m (40 * M + i) = 22 ∨ opn m (40 * M + i) = 23 ∨ opn m (40 * M + i) = 24 by omega) with z | z | z
    · rw [tk_of z (by omega)]
      rfl
    · rw [tk_of z (by omega)]
      rfl
    · rw [tk_of z (by omega)]
      rfl
  have hO := hG.1.1
  have h15 : u.1 174 15 = nI (ocn m) := (hA.2.2.1 15 rfl).trans hO.2.2.1
  have hq1 : nI (16 * f + (8 + dpn m (40 * M + i))) - 1 = nI (16 * f + (8 + dpn m (40 * M + i)) - 1) := pk_sub (b := 1) (by omega)
  have hq2 : nI (16 * f + (8 + dpn m (40 * M + i))) - 2 = nI (16 * f + (8 + dpn m (40 * M + i)) - 2) := pk_sub (b := 2) (by omega)
  have s1 := hV.1 (16 * f + (8 + dpn m (40 * M + i)) - 1) (by omega)
  have s2 := hV.1 (16 * f + (8 + dpn m (40 * M + i)) - 2) (by omega)
  have hq192 : 16 * f + (8 + dpn m (40 * M + i)) ≤ 192 := by omega
  have hq2' : 2 ≤ 16 * f + (8 + dpn m (40 * M + i)) := by omega
  unfold d_313
  refine wpt (by simp (disch := first | omega | decide) only [↓neg1, nlit, rI, rL, rI2, rL1, nI_add, pk_mul, sbT, dvT, nmd, ixT, ↓ibT, ltT, ltF, leT, leF, eqT, eqF, nM_ltT, nM_ltF, nM_leT, nM_leF, nM_eqF, nM_eqF', nbT0, nbT1, oI_s, oI_n, natF, natT, nltT, nltF, nleT, nleF, ↓reduceIte, lgc, not_true_eq_false, not_false_eq_true, or_false, false_or, or_true, true_or, and_true, true_and, and_false, false_and, ne_eq, eq_self, or_self, and_self]) ?_
  rw [ix_n (by omega), c125, show nI (16 * f) + 8 + nI (dpn m (40 * M + i)) = nI (16 * f + (8 + dpn m (40 * M + i))) by rw [show (8 : Int32) = nI 8 from rfl, nI_add, nI_add]; exact congrArg nI (by omega), c121]
  refine wpl (wpt (by simp (disch := first | omega | decide) only [↓neg1, nlit, rI, rL, rI2, rL1, nI_add, pk_mul, sbT, dvT, nmd, ixT, ↓ibT, ltT, ltF, leT, leF, eqT, eqF, nM_ltT, nM_ltF, nM_leT, nM_leF, nM_eqF, nM_eqF', nbT0, nbT1, oI_s, oI_n, natF, natT, nltT, nltF, nleT, nleF, ↓reduceIte, lgc, not_true_eq_false, not_false_eq_true, or_false, false_or, or_true, true_or, and_true, true_and, and_false, false_and, ne_eq, eq_self, or_self, and_self]) (wpl (wpt (by simp (disch := first | omega | decide) only [↓neg1, nlit, rI, rL, rI2, rL1, nI_add, pk_mul, sbT, dvT, nmd, ixT, ↓ibT, ltT, ltF, leT, leF, eqT, eqF, nM_ltT, nM_ltF, nM_leT, nM_leF, nM_eqF, nM_eqF', nbT0, nbT1, oI_s, oI_n, natF, natT, nltT, nltF, nleT, nleF, ↓reduceIte, lgc, not_true_eq_false, not_false_eq_true, or_false, false_or, or_true, true_or, and_true, true_and, and_false, false_and, ne_eq, eq_self, or_self, and_self]) ?_)))
  rw [hq1, hq2]
  have hcls : ∀ (Q : cS → Prop), (∀ r : Int64, (r.toInt32 = arN (opn m (40 * M + i)) (u.1 256 (16 * f + (8 + dpn m (40 * M + i)) - 2)) (u.1 256 (16 * f + (8 + dpn m (40 * M + i)) - 1)) ∧ ∀ o, o < ocn m → nbl r (8 + o) = Jo m o (nbl (c.2 165 (16 * f + (8 + dpn m (40 * M + i)) - 2)) (8 + o)) (nbl (c.2 165 (16 * f + (8 + dpn m (40 * M + i)) - 1)) (8 + o))) → Q (pL c 165 (16 * f + (8 + dpn m (40 * M + i)) - 2) r)) → wp (Option.bind (d_315 n (nI (200 + opn m (40 * M + i))) (c.2 165 (16 * f + (8 + dpn m (40 * M + i)) - 2)) (c.2 165 (16 * f + (8 + dpn m (40 * M + i)) - 1)) c) (fun v15 => if ib (nI (16 * f + (8 + dpn m (40 * M + i)) - 2)) 192 then lt (pL c 165 (16 * f + (8 + dpn m (40 * M + i)) - 2) v15) (fun c17 => some c17) else none)) Q := by
    intro Q hQ
    exact wpc (e315 hn hO e s2 s1) (fun r hr => wpt (by simp (disch := first | omega | decide) only [↓neg1, nlit, rI, rL, rI2, rL1, nI_add, pk_mul, sbT, dvT, nmd, ixT, ↓ibT, ltT, ltF, leT, leF, eqT, eqF, nM_ltT, nM_ltF, nM_leT, nM_leF, nM_eqF, nM_eqF', nbT0, nbT1, oI_s, oI_n, natF, natT, nltT, nltF, nleT, nleF, ↓reduceIte, lgc, not_true_eq_false, not_false_eq_true, or_false, false_or, or_true, true_or, and_true, true_and, and_false, false_and, ne_eq, eq_self, or_self, and_self]) (wpl (hQ r hr)))
  have hgoal : wp (Option.bind (d_315 n (nI (200 + opn m (40 * M + i))) (c.2 165 (16 * f + (8 + dpn m (40 * M + i)) - 2)) (c.2 165 (16 * f + (8 + dpn m (40 * M + i)) - 1)) c) (fun v15 => if ib (nI (16 * f + (8 + dpn m (40 * M + i)) - 2)) 192 then lt (pL c 165 (16 * f + (8 + dpn m (40 * M + i)) - 2) v15) (fun c17 => some c17) else none)) (fun d => wp (d_470 n (nI f) (nI (40 * M + i)) u) (fun w => PST m c u d w f M i (i + 1))) := by
    refine hcls _ (fun r hr => ?_)
    refine ref_pl (t := none) hT (by omega) (by omega) (fun k hk => by cases hk) (sx_pL sx_rfl (decide_eq_true (by omega))) (fun Q' k' hk' => ?_)
    have hfin : ∀ (z : Int32), z = arN (opn m (40 * M + i)) (u.1 256 (16 * f + (8 + dpn m (40 * M + i)) - 2)) (u.1 256 (16 * f + (8 + dpn m (40 * M + i)) - 1)) → ∀ w : cS, w.1 256 (16 * f + (8 + dpn m (40 * M + i)) - 2) = z → (∀ o, o < ocn m → w.1 257 (4 * (16 * f + (8 + dpn m (40 * M + i)) - 2) + o) = nI (Jo m o (nbl (c.2 165 (16 * f + (8 + dpn m (40 * M + i)) - 2)) (8 + o)) (nbl (c.2 165 (16 * f + (8 + dpn m (40 * M + i)) - 1)) (8 + o)))) → sx (q57 (16 * f + (8 + dpn m (40 * M + i)) - 2)) u w → wp (k' (nM, w)) Q' := by
      intro z hz w w1 w2 w3
      refine hk' _ ⟨rfl, q57_Po w3, VAL_slot hV ho4 rfl w3 ⟨by rw [hr.1, w1, hz], fun o ho => ?_⟩⟩
      rw [hr.2 o ho]
      exact ⟨(LA_J (OOS_at hO ho).1 (s2.2 o ho).1 (s1.2 o ho).1).1, w2 o ho⟩
    unfold op470
    rw [u211, hq1, hq2]
    rcases (show opn m (40 * M + i) = 22 ∨ opn m (40 * M + i) = 23 ∨ opn m (40 * M + i) = 24 by omega) with z | z | z
    · (try dsimp only); repeat (first | with_reducible refine wpl ?_ | with_reducible refine wpj ?_ | with_reducible refine wpSl ?_ | with_reducible refine wpSr ?_ | with_reducible refine wpS ?_ | ((with_reducible refine wpt ?_ ?_); · simp (disch := first | omega | decide) only [↓neg1, nlit, rI, rL, rI2, rL1, nI_add, pk_mul, sbT, dvT, nmd, ixT, ↓ibT, ltT, ltF, leT, leF, eqT, eqF, nM_ltT, nM_ltF, nM_leT, nM_leF, nM_eqF, nM_eqF', nbT0, nbT1, oI_s, oI_n, natF, natT, nltT, nltF, nleT, nleF, ↓reduceIte, lgc, not_true_eq_false, not_false_eq_true, or_false, false_or, or_true, true_or, and_true, true_and, and_false, false_and, ne_eq, eq_self, or_self, and_self]; done) | ((with_reducible refine wpf ?_ ?_); · simp (disch := first | omega | decide) only [↓neg1, nlit, rI, rL, rI2, rL1, nI_add, pk_mul, sbT, dvT, nmd, ixT, ↓ibT, ltT, ltF, leT, leF, eqT, eqF, nM_ltT, nM_ltF, nM_leT, nM_leF, nM_eqF, nM_eqF', nbT0, nbT1, oI_s, oI_n, natF, natT, nltT, nltF, nleT, nleF, ↓reduceIte, lgc, not_true_eq_false, not_false_eq_true, or_false, false_or, or_true, true_or, and_true, true_and, and_false, false_and, ne_eq, eq_self, or_self, and_self]; done))
      rw [ix_n (by omega), ix_n (by omega)]
      exact wpc (lp22 hn hA hO hq2' hq192 s1 s2) (fun w hw => hfin _ (by unfold arN; rw [if_pos z]) w hw.1 hw.2.1 hw.2.2)
    · (try dsimp only); repeat (first | with_reducible refine wpl ?_ | with_reducible refine wpj ?_ | with_reducible refine wpSl ?_ | with_reducible refine wpSr ?_ | with_reducible refine wpS ?_ | ((with_reducible refine wpt ?_ ?_); · simp (disch := first | omega | decide) only [↓neg1, nlit, rI, rL, rI2, rL1, nI_add, pk_mul, sbT, dvT, nmd, ixT, ↓ibT, ltT, ltF, leT, leF, eqT, eqF, nM_ltT, nM_ltF, nM_leT, nM_leF, nM_eqF, nM_eqF', nbT0, nbT1, oI_s, oI_n, natF, natT, nltT, nltF, nleT, nleF, ↓reduceIte, lgc, not_true_eq_false, not_false_eq_true, or_false, false_or, or_true, true_or, and_true, true_and, and_false, false_and, ne_eq, eq_self, or_self, and_self]; done) | ((with_reducible refine wpf ?_ ?_); · simp (disch := first | omega | decide) only [↓neg1, nlit, rI, rL, rI2, rL1, nI_add, pk_mul, sbT, dvT, nmd, ixT, ↓ibT, ltT, ltF, leT, leF, eqT, eqF, nM_ltT, nM_ltF, nM_leT, nM_leF, nM_eqF, nM_eqF', nbT0, nbT1, oI_s, oI_n, natF, natT, nltT, nltF, nleT, nleF, ↓reduceIte, lgc, not_true_eq_false, not_false_eq_true, or_false, false_or, or_true, true_or, and_true, true_and, and_false, false_and, ne_eq, eq_self, or_self, and_self]; done))
      rw [ix_n (by omega), ix_n (by omega)]
      exact wpc (lp22 hn hA hO hq2' hq192 s1 s2) (fun w hw => hfin _ (by unfold arN; rw [if_neg (by omega), if_pos z]) w hw.1 hw.2.1 hw.2.2)
    · (try dsimp only); repeat (first | with_reducible refine wpl ?_ | with_reducible refine wpj ?_ | with_reducible refine wpSl ?_ | with_reducible refine wpSr ?_ | with_reducible refine wpS ?_ | ((with_reducible refine wpt ?_ ?_); · simp (disch := first | omega | decide) only [↓neg1, nlit, rI, rL, rI2, rL1, nI_add, pk_mul, sbT, dvT, nmd, ixT, ↓ibT, ltT, ltF, leT, leF, eqT, eqF, nM_ltT, nM_ltF, nM_leT, nM_leF, nM_eqF, nM_eqF', nbT0, nbT1, oI_s, oI_n, natF, natT, nltT, nltF, nleT, nleF, ↓reduceIte, lgc, not_true_eq_false, not_false_eq_true, or_false, false_or, or_true, true_or, and_true, true_and, and_false, false_and, ne_eq, eq_self, or_self, and_self]; done) | ((with_reducible refine wpf ?_ ?_); · simp (disch := first | omega | decide) only [↓neg1, nlit, rI, rL, rI2, rL1, nI_add, pk_mul, sbT, dvT, nmd, ixT, ↓ibT, ltT, ltF, leT, leF, eqT, eqF, nM_ltT, nM_ltF, nM_leT, nM_leF, nM_eqF, nM_eqF', nbT0, nbT1, oI_s, oI_n, natF, natT, nltT, nltF, nleT, nleF, ↓reduceIte, lgc, not_true_eq_false, not_false_eq_true, or_false, false_or, or_true, true_or, and_true, true_and, and_false, false_and, ne_eq, eq_self, or_self, and_self]; done))
      rw [ix_n (by omega), ix_n (by omega)]
      exact wpc (lp22 hn hA hO hq2' hq192 s1 s2) (fun w hw => hfin _ (by unfold arN; rw [if_neg (by omega), if_neg (by omega)]) w hw.1 hw.2.1 hw.2.2)
  rcases (show opn m (40 * M + i) = 22 ∨ opn m (40 * M + i) = 23 ∨ opn m (40 * M + i) = 24 by omega) with z | z | z
  · (try dsimp only); repeat (first | with_reducible refine wpl ?_ | with_reducible refine wpj ?_ | with_reducible refine wpSl ?_ | with_reducible refine wpSr ?_ | with_reducible refine wpS ?_ | ((with_reducible refine wpt ?_ ?_); · simp (disch := first | omega | decide) only [↓neg1, nlit, rI, rL, rI2, rL1, nI_add, pk_mul, sbT, dvT, nmd, ixT, ↓ibT, ltT, ltF, leT, leF, eqT, eqF, nM_ltT, nM_ltF, nM_leT, nM_leF, nM_eqF, nM_eqF', nbT0, nbT1, oI_s, oI_n, natF, natT, nltT, nltF, nleT, nleF, ↓reduceIte, lgc, not_true_eq_false, not_false_eq_true, or_false, false_or, or_true, true_or, and_true, true_and, and_false, false_and, ne_eq, eq_self, or_self, and_self]; done) | ((with_reducible refine wpf ?_ ?_); · simp (disch := first | omega | decide) only [↓neg1, nlit, rI, rL, rI2, rL1, nI_add, pk_mul, sbT, dvT, nmd, ixT, ↓ibT, ltT, ltF, leT, leF, eqT, eqF, nM_ltT, nM_ltF, nM_leT, nM_leF, nM_eqF, nM_eqF', nbT0, nbT1, oI_s, oI_n, natF, natT, nltT, nltF, nleT, nleF, ↓reduceIte, lgc, not_true_eq_false, not_false_eq_true, or_false, false_or, or_true, true_or, and_true, true_and, and_false, false_and, ne_eq, eq_self, or_self, and_self]; done))
    rw [ix_n (by omega), ix_n (by omega)]
    exact hgoal
  · (try dsimp only); repeat (first | with_reducible refine wpl ?_ | with_reducible refine wpj ?_ | with_reducible refine wpSl ?_ | with_reducible refine wpSr ?_ | with_reducible refine wpS ?_ | ((with_reducible refine wpt ?_ ?_); · simp (disch := first | omega | decide) only [↓neg1, nlit, rI, rL, rI2, rL1, nI_add, pk_mul, sbT, dvT, nmd, ixT, ↓ibT, ltT, ltF, leT, leF, eqT, eqF, nM_ltT, nM_ltF, nM_leT, nM_leF, nM_eqF, nM_eqF', nbT0, nbT1, oI_s, oI_n, natF, natT, nltT, nltF, nleT, nleF, ↓reduceIte, lgc, not_true_eq_false, not_false_eq_true, or_false, false_or, or_true, true_or, and_true, true_and, and_false, false_and, ne_eq, eq_self, or_self, and_self]; done) | ((with_reducible refine wpf ?_ ?_); · simp (disch := first | omega | decide) only [↓neg1, nlit, rI, rL, rI2, rL1, nI_add, pk_mul, sbT, dvT, nmd, ixT, ↓ibT, ltT, ltF, leT, leF, eqT, eqF, nM_ltT, nM_ltF, nM_leT, nM_leF, nM_eqF, nM_eqF', nbT0, nbT1, oI_s, oI_n, natF, natT, nltT, nltF, nleT, nleF, ↓reduceIte, lgc, not_true_eq_false, not_false_eq_true, or_false, false_or, or_true, true_or, and_true, true_and, and_false, false_and, ne_eq, eq_self, or_self, and_self]; done))
    rw [ix_n (by omega), ix_n (by omega)]
    exact hgoal
  · (try dsimp only); repeat (first | with_reducible refine wpl ?_ | with_reducible refine wpj ?_ | with_reducible refine wpSl ?_ | with_reducible refine wpSr ?_ | with_reducible refine wpS ?_ | ((with_reducible refine wpt ?_ ?_); · simp (disch := first | omega | decide) only [↓neg1, nlit, rI, rL, rI2, rL1, nI_add, pk_mul, sbT, dvT, nmd, ixT, ↓ibT, ltT, ltF, leT, leF, eqT, eqF, nM_ltT, nM_ltF, nM_leT, nM_leF, nM_eqF, nM_eqF', nbT0, nbT1, oI_s, oI_n, natF, natT, nltT, nltF, nleT, nleF, ↓reduceIte, lgc, not_true_eq_false, not_false_eq_true, or_false, false_or, or_true, true_or, and_true, true_and, and_false, false_and, ne_eq, eq_self, or_self, and_self]; done) | ((with_reducible refine wpf ?_ ?_); · simp (disch := first | omega | decide) only [↓neg1, nlit, rI, rL, rI2, rL1, nI_add, pk_mul, sbT, dvT, nmd, ixT, ↓ibT, ltT, ltF, leT, leF, eqT, eqF, nM_ltT, nM_ltF, nM_leT, nM_leF, nM_eqF, nM_eqF', nbT0, nbT1, oI_s, oI_n, natF, natT, nltT, nltF, nleT, nleF, ↓reduceIte, lgc, not_true_eq_false, not_false_eq_true, or_false, false_or, or_true, true_or, and_true, true_and, and_false, false_and, ne_eq, eq_self, or_self, and_self]; done))
    rw [ix_n (by omega), ix_n (by omega)]
    exact hgoal
end OP2
