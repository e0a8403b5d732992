/-! RUN: plain ACTS, class and reference -/
section OPS
variable {n f M i : Nat} {c m u : cS}
theorem e299 {v w : Int32} : d_299 n v w = some (pkV v (w.toInt64 <<< ((32 : Int32).toInt64 &&& 63))) := rfl
/-- what a plain ACT stands on -/
theorem TOP_x (hT : TOP m c u f M i) : ∃ a, a = fa c M + i ∧ a < 1024 ∧ 40 * M + i < 3840 ∧ c.1 121 a = nI (200 + opn m (40 * M + i)) ∧ u.1 211 (40 * M + i) = nI (opn m (40 * M + i)) ∧ c.1 125 a = nI (dpn m (40 * M + i)) ∧ OPR c m M a (40 * M + i) ∧ dpn m (40 * M + i) ≤ 8 ∧ tkn m (40 * M + i) ≤ dpn m (40 * M + i) ∧ dpn m (40 * M + i) - tkn m (40 * M + i) + gvn m (40 * M + i) ≤ 8 ∧ ocn m ≤ 4 ∧ lcn m M ≤ 8 ∧ (14 ≤ opn m (40 * M + i) ∧ opn m (40 * M + i) ≤ 30) := by
  obtain ⟨hG, hA, hM, hi, hr, hf, h255, h254, hV⟩ := hT
  have hC := hG.1.2.2.1
  have hM96 := isMt_lt hC hM
  have hmt := (hG.2.2.2.1 M hM).1
  have hn40 := hmt.1.2
  have hac := MTS_ac hG.2.2 hM hi
  have hF1 := hmt.2.2.2.2.2.2.2.2
  obtain ⟨hop, m211, c121, -, -, c125, hR, -⟩ := hac
  obtain ⟨r1, r2, r3, r4⟩ := hr
  exact ⟨fa c M + i, rfl, by omega, by omega, c121, (hA.1 211 _ rfl).trans m211, c125.trans r1, hR, r3, r2, r4, hG.1.1.1, hmt.2.2.2.1.1, hop⟩
theorem go_14 (hn : 1000 ≤ n) (hT : TOP m c u f M i) (e : opn m (40 * M + i) = 14) : wp (d_313 n (nI (16 * f)) (nI (fa c M + i)) c) (fun d => wp (d_470 n (nI f) (nI (40 * M + i)) u) (fun w => PST m c u d w f M i (i + 1))) := by
  obtain ⟨a, ha, ha4, hb, c121, u211, c125, hR, hd8, htk, hgv, ho4, hl8, hop⟩ := TOP_x hT
  obtain ⟨hG, hA, hM, hi, hr, hf, h255, h254, hV⟩ := id hT
  rw [← ha]
  have g1 := gv_of e
  rw [show GT 14 = 1 from rfl] at g1
  have t1 := tk_of e (by omega)
  rw [show TK 14 = 0 from rfl] at t1
  have hTL := hR.2.1 (by omega)
  have ht1 := hTL.1
  unfold d_313
  refine wpt (by simp (disch := first | omega | decide) only [↓neg1, nlit, rI, rL, rI2, rL1, nI_add, pk_mul, sbT, dvT, nmd, ixT, ↓ibT, ltT, ltF, leT, leF, eqT, eqF, nM_ltT, nM_ltF, nM_leT, nM_leF, nM_eqF, nM_eqF', nbT0, nbT1, oI_s, oI_n, natF, natT, nltT, nltF, nleT, nleF, ↓reduceIte, lgc, not_true_eq_false, not_false_eq_true, or_false, false_or, or_true, true_or, and_true, true_and, and_false, false_and, ne_eq, eq_self, or_self, and_self]) ?_
  rw [ix_n (by omega), c125, show nI (16 * f) + 8 + nI (dpn m (40 * M + i)) = nI (16 * f + (8 + dpn m (40 * M + i))) by rw [show (8 : Int32) = nI 8 from rfl, nI_add, nI_add]; exact congrArg nI (by omega), c121]
  (try dsimp only); repeat (first | with_reducible refine wpl ?_ | with_reducible refine wpj ?_ | with_reducible refine wpSl ?_ | with_reducible refine wpSr ?_ | with_reducible refine wpS ?_ | ((with_reducible refine wpt ?_ ?_); · simp (disch := first | omega | decide) only [↓neg1, nlit, rI, rL, rI2, rL1, nI_add, pk_mul, sbT, dvT, nmd, ixT, ↓ibT, ltT, ltF, leT, leF, eqT, eqF, nM_ltT, nM_ltF, nM_leT, nM_leF, nM_eqF, nM_eqF', nbT0, nbT1, oI_s, oI_n, natF, natT, nltT, nltF, nleT, nleF, ↓reduceIte, lgc, not_true_eq_false, not_false_eq_true, or_false, false_or, or_true, true_or, and_true, true_and, and_false, false_and, ne_eq, eq_self, or_self, and_self]; done) | ((with_reducible refine wpf ?_ ?_); · simp (disch := first | omega | decide) only [↓neg1, nlit, rI, rL, rI2, rL1, nI_add, pk_mul, sbT, dvT, nmd, ixT, ↓ibT, ltT, ltF, leT, leF, eqT, eqF, nM_ltT, nM_ltF, nM_leT, nM_leF, nM_eqF, nM_eqF', nbT0, nbT1, oI_s, oI_n, natF, natT, nltT, nltF, nleT, nleF, ↓reduceIte, lgc, not_true_eq_false, not_false_eq_true, or_false, false_or, or_true, true_or, and_true, true_and, and_false, false_and, ne_eq, eq_self, or_self, and_self]; done))
  rw [hR.1 e]
  refine wpe e299 ?_
  (try dsimp only); repeat (first | with_reducible refine wpl ?_ | with_reducible refine wpj ?_ | with_reducible refine wpSl ?_ | with_reducible refine wpSr ?_ | with_reducible refine wpS ?_ | ((with_reducible refine wpt ?_ ?_); · simp (disch := first | omega | decide) only [↓neg1, nlit, rI, rL, rI2, rL1, nI_add, pk_mul, sbT, dvT, nmd, ixT, ↓ibT, ltT, ltF, leT, leF, eqT, eqF, nM_ltT, nM_ltF, nM_leT, nM_leF, nM_eqF, nM_eqF', nbT0, nbT1, oI_s, oI_n, natF, natT, nltT, nltF, nleT, nleF, ↓reduceIte, lgc, not_true_eq_false, not_false_eq_true, or_false, false_or, or_true, true_or, and_true, true_and, and_false, false_and, ne_eq, eq_self, or_self, and_self]; done) | ((with_reducible refine wpf ?_ ?_); · simp (disch := first | omega | decide) only [↓neg1, nlit, rI, rL, rI2, rL1, nI_add, pk_mul, sbT, dvT, nmd, ixT, ↓ibT, ltT, ltF, leT, leF, eqT, eqF, nM_ltT, nM_ltF, nM_leT, nM_leF, nM_eqF, nM_eqF', nbT0, nbT1, oI_s, oI_n, natF, natT, nltT, nltF, nleT, nleF, ↓reduceIte, lgc, not_true_eq_false, not_false_eq_true, or_false, false_or, or_true, true_or, and_true, true_and, and_false, false_and, ne_eq, eq_self, or_self, and_self]; done))
  rw [ix_n (by omega)]
  refine ref_pl (t := none) hT (by omega) (by omega) (fun k hk => by cases hk) (sx_pL sx_rfl (decide_eq_true (by omega))) (fun Q' k' hk' => ?_)
  unfold op470
  rw [u211]
  (try dsimp only); repeat (first | with_reducible refine wpl ?_ | with_reducible refine wpj ?_ | with_reducible refine wpSl ?_ | with_reducible refine wpSr ?_ | with_reducible refine wpS ?_ | ((with_reducible refine wpt ?_ ?_); · simp (disch := first | omega | decide) only [↓neg1, nlit, rI, rL, rI2, rL1, nI_add, pk_mul, sbT, dvT, nmd, ixT, ↓ibT, ltT, ltF, leT, leF, eqT, eqF, nM_ltT, nM_ltF, nM_leT, nM_leF, nM_eqF, nM_eqF', nbT0, nbT1, oI_s, oI_n, natF, natT, nltT, nltF, nleT, nleF, ↓reduceIte, lgc, not_true_eq_false, not_false_eq_true, or_false, false_or, or_true, true_or, and_true, true_and, and_false, false_and, ne_eq, eq_self, or_self, and_self]; done) | ((with_reducible refine wpf ?_ ?_); · simp (disch := first | omega | decide) only [↓neg1, nlit, rI, rL, rI2, rL1, nI_add, pk_mul, sbT, dvT, nmd, ixT, ↓ibT, ltT, ltF, leT, leF, eqT, eqF, nM_ltT, nM_ltF, nM_leT, nM_leF, nM_eqF, nM_eqF', nbT0, nbT1, oI_s, oI_n, natF, natT, nltT, nltF, nleT, nleF, ↓reduceIte, lgc, not_true_eq_false, not_false_eq_true, or_false, false_or, or_true, true_or, and_true, true_and, and_false, false_and, ne_eq, eq_self, or_self, and_self]; done))
  refine wpc (e138 hn (by omega) hA hG.1.1) (fun x hx => ?_)
  obtain ⟨x1, x2, x3⟩ := hx
  have hAx := AG_sx hA (sx_wide x3 (q := qPo) (fun a i z => by
    have := of_decide_eq_false z
    exact decide_eq_false (by omega))) nP_Po
  refine wpc (mk_set (M := M) (i := i) hn (by omega) hAx hG.1.1 hb hTL x2) (fun w hw => hk' _ ⟨rfl, ?_, ?_⟩)
  · exact sx_wide (sx_trans x3 (sx_wide hw.2 (fun a i z => by
      have := of_decide_eq_false z
      exact decide_eq_false (by omega)))) (fun a i z => by
      have := of_decide_eq_false z
      exact decide_eq_false (by omega))
  · refine VAL_slot hV ho4 rfl (sx_trans x3 (sx_wide hw.2 (fun a i z => by
      have := of_decide_eq_false z
      exact decide_eq_false (by omega)))) ⟨?_, fun o ho => ?_⟩
    · rw [pkV_32 (shl_32 (o := 0) (by omega)).1, hw.2.1 256 _ (decide_eq_false (by omega)), x1]
      exact (hA.1 214 _ rfl).symm
    · rw [pkV_nb (by omega), (shl_32 (by omega)).2, hTL.2.2.2.2 o ho]
      exact ⟨tlo_lt hG.1.1 ho hTL _ (Nat.le_refl _), hw.1 o ho⟩
theorem VAL_take {r s : cS} {N : Nat} (h : VAL m c u N) (hr : sx (fun a i => decide (a = 161 ∨ (a = 159 ∧ i = 5))) c r) (hs : sx (fun a i => decide (a = 252 ∨ (a = 174 ∧ i = 110))) u s) (hJ : JI r s) : VAL m r s N := by
  obtain ⟨h1, h2, h3, h4⟩ := h
  exact ⟨fun q hq => SL_cg (h1 q hq) (hr.2 165 q rfl) (hs.1 256 q rfl) (fun o ho => hs.1 257 _ rfl), fun x y hx hy => SL_cg (h2 x y hx hy) (hr.2 166 _ rfl) (hs.1 258 _ rfl) (fun o ho => hs.1 259 _ rfl), by rw [hr.1 162 10 rfl, hs.1 174 128 rfl]; exact h3, hJ⟩
theorem go_15 (hn : 1000 ≤ n) (hT : TOP m c u f M i) (e : opn m (40 * M + i) = 15) : wp (d_313 n (nI (16 * f)) (nI (fa c M + i)) c) (fun d => wp (d_470 n (nI f) (nI (40 * M + i)) u) (fun w => PST m c u d w f M i (i + 1))) := by
  obtain ⟨a, ha, ha4, hb, c121, u211, c125, hR, hd8, htk, hgv, ho4, hl8, hop⟩ := TOP_x hT
  obtain ⟨hG, hA, hM, hi, hr, hf, h255, h254, hV⟩ := id hT
  rw [← ha]
  have g1 := gv_of e
  rw [show GT 15 = 1 from rfl] at g1
  have t1 := tk_of e (by omega)
  rw [show TK 15 = 0 from rfl] at t1
  have hTL := hR.2.1 (by omega)
  have ht1 := hTL.1
  obtain ⟨r, hr1, h2⟩ := wp_ex (c_take hn hV.2.2.2)
  obtain ⟨s, hs1, k1, k2, k3, k4⟩ := wp_ex h2
  unfold d_313
  refine wpt (by simp (disch := first | omega | decide) only [↓neg1, nlit, rI, rL, rI2, rL1, nI_add, pk_mul, sbT, dvT, nmd, ixT, ↓ibT, ltT, ltF, leT, leF, eqT, eqF, nM_ltT, nM_ltF, nM_leT, nM_leF, nM_eqF, nM_eqF', nbT0, nbT1, oI_s, oI_n, natF, natT, nltT, nltF, nleT, nleF, ↓reduceIte, lgc, not_true_eq_false, not_false_eq_true, or_false, false_or, or_true, true_or, and_true, true_and, and_false, false_and, ne_eq, eq_self, or_self, and_self]) ?_
  rw [ix_n (by omega), c125, show nI (16 * f) + 8 + nI (dpn m (40 * M + i)) = nI (16 * f + (8 + dpn m (40 * M + i))) by rw [show (8 : Int32) = nI 8 from rfl, nI_add, nI_add]; exact congrArg nI (by omega), c121]
  (try dsimp only); repeat (first | with_reducible refine wpl ?_ | with_reducible refine wpj ?_ | with_reducible refine wpSl ?_ | with_reducible refine wpSr ?_ | with_reducible refine wpS ?_ | ((with_reducible refine wpt ?_ ?_); · simp (disch := first | omega | decide) only [↓neg1, nlit, rI, rL, rI2, rL1, nI_add, pk_mul, sbT, dvT, nmd, ixT, ↓ibT, ltT, ltF, leT, leF, eqT, eqF, nM_ltT, nM_ltF, nM_leT, nM_leF, nM_eqF, nM_eqF', nbT0, nbT1, oI_s, oI_n, natF, natT, nltT, nltF, nleT, nleF, ↓reduceIte, lgc, not_true_eq_false, not_false_eq_true, or_false, false_or, or_true, true_or, and_true, true_and, and_false, false_and, ne_eq, eq_self, or_self, and_self]; done) | ((with_reducible refine wpf ?_ ?_); · simp (disch := first | omega | decide) only [↓neg1, nlit, rI, rL, rI2, rL1, nI_add, pk_mul, sbT, dvT, nmd, ixT, ↓ibT, ltT, ltF, leT, leF, eqT, eqF, nM_ltT, nM_ltF, nM_leT, nM_leF, nM_eqF, nM_eqF', nbT0, nbT1, oI_s, oI_n, natF, natT, nltT, nltF, nleT, nleF, ↓reduceIte, lgc, not_true_eq_false, not_false_eq_true, or_false, false_or, or_true, true_or, and_true, true_and, and_false, false_and, ne_eq, eq_self, or_self, and_self]; done))
  refine wpe hr1 ?_
  refine wpt (by simp (disch := first | omega | decide) only [↓neg1, nlit, rI, rL, rI2, rL1, nI_add, pk_mul, sbT, dvT, nmd, ixT, ↓ibT, ltT, ltF, leT, leF, eqT, eqF, nM_ltT, nM_ltF, nM_leT, nM_leF, nM_eqF, nM_eqF', nbT0, nbT1, oI_s, oI_n, natF, natT, nltT, nltF, nleT, nleF, ↓reduceIte, lgc, not_true_eq_false, not_false_eq_true, or_false, false_or, or_true, true_or, and_true, true_and, and_false, false_and, ne_eq, eq_self, or_self, and_self]) ?_
  rw [k3.1 123 a (decide_eq_false (by omega))]
  refine wpe e299 ?_
  (try dsimp only); repeat (first | with_reducible refine wpl ?_ | with_reducible refine wpj ?_ | with_reducible refine wpSl ?_ | with_reducible refine wpSr ?_ | with_reducible refine wpS ?_ | ((with_reducible refine wpt ?_ ?_); · simp (disch := first | omega | decide) only [↓neg1, nlit, rI, rL, rI2, rL1, nI_add, pk_mul, sbT, dvT, nmd, ixT, ↓ibT, ltT, ltF, leT, leF, eqT, eqF, nM_ltT, nM_ltF, nM_leT, nM_leF, nM_eqF, nM_eqF', nbT0, nbT1, oI_s, oI_n, natF, natT, nltT, nltF, nleT, nleF, ↓reduceIte, lgc, not_true_eq_false, not_false_eq_true, or_false, false_or, or_true, true_or, and_true, true_and, and_false, false_and, ne_eq, eq_self, or_self, and_self]; done) | ((with_reducible refine wpf ?_ ?_); · simp (disch := first | omega | decide) only [↓neg1, nlit, rI, rL, rI2, rL1, nI_add, pk_mul, sbT, dvT, nmd, ixT, ↓ibT, ltT, ltF, leT, leF, eqT, eqF, nM_ltT, nM_ltF, nM_leT, nM_leF, nM_eqF, nM_eqF', nbT0, nbT1, oI_s, oI_n, natF, natT, nltT, nltF, nleT, nleF, ↓reduceIte, lgc, not_true_eq_false, not_false_eq_true, or_false, false_or, or_true, true_or, and_true, true_and, and_false, false_and, ne_eq, eq_self, or_self, and_self]; done))
  rw [ix_n (by omega)]
  refine ref_pl (t := none) hT (by omega) (by omega) (fun k hk => by cases hk) (sx_pL (sx_wide k3 (fun a i z => by
    have := of_decide_eq_false z
    exact decide_eq_false (by omega))) (decide_eq_true (by omega))) (fun Q' k' hk' => ?_)
  unfold op470
  rw [u211]
  (try dsimp only); repeat (first | with_reducible refine wpl ?_ | with_reducible refine wpj ?_ | with_reducible refine wpSl ?_ | with_reducible refine wpSr ?_ | with_reducible refine wpS ?_ | ((with_reducible refine wpt ?_ ?_); · simp (disch := first | omega | decide) only [↓neg1, nlit, rI, rL, rI2, rL1, nI_add, pk_mul, sbT, dvT, nmd, ixT, ↓ibT, ltT, ltF, leT, leF, eqT, eqF, nM_ltT, nM_ltF, nM_leT, nM_leF, nM_eqF, nM_eqF', nbT0, nbT1, oI_s, oI_n, natF, natT, nltT, nltF, nleT, nleF, ↓reduceIte, lgc, not_true_eq_false, not_false_eq_true, or_false, false_or, or_true, true_or, and_true, true_and, and_false, false_and, ne_eq, eq_self, or_self, and_self]; done) | ((with_reducible refine wpf ?_ ?_); · simp (disch := first | omega | decide) only [↓neg1, nlit, rI, rL, rI2, rL1, nI_add, pk_mul, sbT, dvT, nmd, ixT, ↓ibT, ltT, ltF, leT, leF, eqT, eqF, nM_ltT, nM_ltF, nM_leT, nM_leF, nM_eqF, nM_eqF', nbT0, nbT1, oI_s, oI_n, natF, natT, nltT, nltF, nleT, nleF, ↓reduceIte, lgc, not_true_eq_false, not_false_eq_true, or_false, false_or, or_true, true_or, and_true, true_and, and_false, false_and, ne_eq, eq_self, or_self, and_self]; done))
  refine wpe hs1 ?_
  have sPo : sx qPo u s.2 := sx_wide k4 (fun a i z => by
    have := of_decide_eq_false z
    exact decide_eq_false (by omega))
  have hAs := AG_sx hA sPo nP_Po
  refine wpc (e138 hn (by omega) hAs hG.1.1) (fun x hx => ?_)
  obtain ⟨x1, x2, x3⟩ := hx
  have hAx := AG_sx hAs (sx_wide x3 (q := qPo) (fun a i z => by
    have := of_decide_eq_false z
    exact decide_eq_false (by omega))) nP_Po
  refine wpc (mk_set (M := M) (i := i) hn (by omega) hAx hG.1.1 hb hTL x2) (fun w hw => hk' _ ⟨rfl, ?_, ?_⟩)
  · exact sx_trans sPo (sx_wide (sx_trans x3 (sx_wide hw.2 (fun a i z => by
      have := of_decide_eq_false z
      exact decide_eq_false (by omega)))) (fun a i z => by
      have := of_decide_eq_false z
      exact decide_eq_false (by omega)))
  · refine VAL_slot (VAL_take hV k3 k4 k2) ho4 rfl (sx_trans x3 (sx_wide hw.2 (fun a i z => by
      have := of_decide_eq_false z
      exact decide_eq_false (by omega)))) ⟨?_, fun o ho => ?_⟩
    · rw [pkV_32 (shl_32 (o := 0) (by omega)).1, hw.2.1 256 _ (decide_eq_false (by omega)), x1]
      exact k1
    · rw [pkV_nb (by omega), (shl_32 (by omega)).2, hTL.2.2.2.2 o ho]
      exact ⟨tlo_lt hG.1.1 ho hTL _ (Nat.le_refl _), hw.1 o ho⟩
/-- a slot copied in both -/
theorem cp_slot {a b N : Nat} {w : cS} (hV : VAL m c u N) (ho4 : ocn m ≤ 4) (hb : b < N) (hw : w.1 256 a = u.1 256 b ∧ (∀ o, o < ocn m → w.1 257 (4 * a + o) = u.1 257 (4 * b + o)) ∧ sx (q57 a) u w) : VAL m (pL c 165 a (c.2 165 b)) w N := VAL_slot hV ho4 rfl hw.2.2 (SL_cg (hV.1 b hb) rfl hw.1 (fun o ho => hw.2.1 o ho))
theorem q57_Po {a : Nat} {x y : cS} (h : sx (q57 a) x y) : sx qPo x y := sx_wide h (fun a i z => by
  have := of_decide_eq_false z
  exact decide_eq_false (by omega))
theorem go_16 (hn : 1000 ≤ n) (hT : TOP m c u f M i) (e : opn m (40 * M + i) = 16) : wp (d_313 n (nI (16 * f)) (nI (fa c M + i)) c) (fun d => wp (d_470 n (nI f) (nI (40 * M + i)) u) (fun w => PST m c u d w f M i (i + 1))) := by
  obtain ⟨a, ha, ha4, hb, c121, u211, c125, hR, hd8, htk, hgv, ho4, hl8, hop⟩ := TOP_x hT
  obtain ⟨hG, hA, hM, hi, hr, hf, h255, h254, hV⟩ := id hT
  rw [← ha]
  have g1 := gv_of e
  rw [show GT 16 = 1 from rfl] at g1
  have t1 := tk_of e (by omega)
  rw [show TK 16 = 0 from rfl] at t1
  have hx := hR.2.2.1 (by omega)
  have hx1 := hx.1
  unfold d_313
  refine wpt (by simp (disch := first | omega | decide) only [↓neg1, nlit, rI, rL, rI2, rL1, nI_add, pk_mul, sbT, dvT, nmd, ixT, ↓ibT, ltT, ltF, leT, leF, eqT, eqF, nM_ltT, nM_ltF, nM_leT, nM_leF, nM_eqF, nM_eqF', nbT0, nbT1, oI_s, oI_n, natF, natT, nltT, nltF, nleT, nleF, ↓reduceIte, lgc, not_true_eq_false, not_false_eq_true, or_false, false_or, or_true, true_or, and_true, true_and, and_false, false_and, ne_eq, eq_self, or_self, and_self]) ?_
  rw [ix_n (by omega), c125, show nI (16 * f) + 8 + nI (dpn m (40 * M + i)) = nI (16 * f + (8 + dpn m (40 * M + i))) by rw [show (8 : Int32) = nI 8 from rfl, nI_add, nI_add]; exact congrArg nI (by omega), c121, hx.2.2]
  refine wpl (wpt (by simp (disch := first | omega | decide) only [↓neg1, nlit, rI, rL, rI2, rL1, nI_add, pk_mul, sbT, dvT, nmd, ixT, ↓ibT, ltT, ltF, leT, leF, eqT, eqF, nM_ltT, nM_ltF, nM_leT, nM_leF, nM_eqF, nM_eqF', nbT0, nbT1, oI_s, oI_n, natF, natT, nltT, nltF, nleT, nleF, ↓reduceIte, lgc, not_true_eq_false, not_false_eq_true, or_false, false_or, or_true, true_or, and_true, true_and, and_false, false_and, ne_eq, eq_self, or_self, and_self]) (wpl (wpt (by simp (disch := first | omega | decide) only [↓neg1, nlit, rI, rL, rI2, rL1, nI_add, pk_mul, sbT, dvT, nmd, ixT, ↓ibT, ltT, ltF, leT, leF, eqT, eqF, nM_ltT, nM_ltF, nM_leT, nM_leF, nM_eqF, nM_eqF', nbT0, nbT1, oI_s, oI_n, natF, natT, nltT, nltF, nleT, nleF, ↓reduceIte, lgc, not_true_eq_false, not_false_eq_true, or_false, false_or, or_true, true_or, and_true, true_and, and_false, false_and, ne_eq, eq_self, or_self, and_self]) ?_)))
  rw [nI_add]
  (try dsimp only); repeat (first | with_reducible refine wpl ?_ | with_reducible refine wpj ?_ | with_reducible refine wpSl ?_ | with_reducible refine wpSr ?_ | with_reducible refine wpS ?_ | ((with_reducible refine wpt ?_ ?_); · simp (disch := first | omega | decide) only [↓neg1, nlit, rI, rL, rI2, rL1, nI_add, pk_mul, sbT, dvT, nmd, ixT, ↓ibT, ltT, ltF, leT, leF, eqT, eqF, nM_ltT, nM_ltF, nM_leT, nM_leF, nM_eqF, nM_eqF', nbT0, nbT1, oI_s, oI_n, natF, natT, nltT, nltF, nleT, nleF, ↓reduceIte, lgc, not_true_eq_false, not_false_eq_true, or_false, false_or, or_true, true_or, and_true, true_and, and_false, false_and, ne_eq, eq_self, or_self, and_self]; done) | ((with_reducible refine wpf ?_ ?_); · simp (disch := first | omega | decide) only [↓neg1, nlit, rI, rL, rI2, rL1, nI_add, pk_mul, sbT, dvT, nmd, ixT, ↓ibT, ltT, ltF, leT, leF, eqT, eqF, nM_ltT, nM_ltF, nM_leT, nM_leF, nM_eqF, nM_eqF', nbT0, nbT1, oI_s, oI_n, natF, natT, nltT, nltF, nleT, nleF, ↓reduceIte, lgc, not_true_eq_false, not_false_eq_true, or_false, false_or, or_true, true_or, and_true, true_and, and_false, false_and, ne_eq, eq_self, or_self, and_self]; done))
  rw [ix_n (by omega), ix_n (by omega)]
  refine ref_pl (t := none) hT (by omega) (by omega) (fun k hk => by cases hk) (sx_pL sx_rfl (decide_eq_true (by omega))) (fun Q' k' hk' => ?_)
  unfold op470
  rw [u211, (hA.1 214 _ rfl).trans hx.2.1, nI_add]
  (try dsimp only); repeat (first | with_reducible refine wpl ?_ | with_reducible refine wpj ?_ | with_reducible refine wpSl ?_ | with_reducible refine wpSr ?_ | with_reducible refine wpS ?_ | ((with_reducible refine wpt ?_ ?_); · simp (disch := first | omega | decide) only [↓neg1, nlit, rI, rL, rI2, rL1, nI_add, pk_mul, sbT, dvT, nmd, ixT, ↓ibT, ltT, ltF, leT, leF, eqT, eqF, nM_ltT, nM_ltF, nM_leT, nM_leF, nM_eqF, nM_eqF', nbT0, nbT1, oI_s, oI_n, natF, natT, nltT, nltF, nleT, nleF, ↓reduceIte, lgc, not_true_eq_false, not_false_eq_true, or_false, false_or, or_true, true_or, and_true, true_and, and_false, false_and, ne_eq, eq_self, or_self, and_self]; done) | ((with_reducible refine wpf ?_ ?_); · simp (disch := first | omega | decide) only [↓neg1, nlit, rI, rL, rI2, rL1, nI_add, pk_mul, sbT, dvT, nmd, ixT, ↓ibT, ltT, ltF, leT, leF, eqT, eqF, nM_ltT, nM_ltF, nM_leT, nM_leF, nM_eqF, nM_eqF', nbT0, nbT1, oI_s, oI_n, natF, natT, nltT, nltF, nleT, nleF, ↓reduceIte, lgc, not_true_eq_false, not_false_eq_true, or_false, false_or, or_true, true_or, and_true, true_and, and_false, false_and, ne_eq, eq_self, or_self, and_self]; done))
  exact wpc (e467 hn (by omega) (by omega) hA hG.1.1) (fun w hw => hk' _ ⟨rfl, q57_Po hw.2.2, cp_slot hV ho4 (by omega) hw⟩)
theorem go_17 (hn : 1000 ≤ n) (hT : TOP m c u f M i) (e : opn m (40 * M + i) = 17) : wp (d_313 n (nI (16 * f)) (nI (fa c M + i)) c) (fun d => wp (d_470 n (nI f) (nI (40 * M + i)) u) (fun w => PST m c u d w f M i (i + 1))) := by
  obtain ⟨a, ha, ha4, hb, c121, u211, c125, hR, hd8, htk, hgv, ho4, hl8, hop⟩ := TOP_x hT
  obtain ⟨hG, hA, hM, hi, hr, hf, h255, h254, hV⟩ := id hT
  rw [← ha]
  have t1 := tk_of e (by omega)
  rw [show TK 17 = 1 from rfl] at t1
  have hx := hR.2.2.1 (by omega)
  have hx1 := hx.1
  have hq1 : nI (16 * f + (8 + dpn m (40 * M + i))) - 1 = nI (16 * f + (8 + dpn m (40 * M + i)) - 1) := pk_sub (b := 1) (by omega)
  unfold d_313
  refine wpt (by simp (disch := first | omega | decide) only [↓neg1, nlit, rI, rL, rI2, rL1, nI_add, pk_mul, sbT, dvT, nmd, ixT, ↓ibT, ltT, ltF, leT, leF, eqT, eqF, nM_ltT, nM_ltF, nM_leT, nM_leF, nM_eqF, nM_eqF', nbT0, nbT1, oI_s, oI_n, natF, natT, nltT, nltF, nleT, nleF, ↓reduceIte, lgc, not_true_eq_false, not_false_eq_true, or_false, false_or, or_true, true_or, and_true, true_and, and_false, false_and, ne_eq, eq_self, or_self, and_self]) ?_
  rw [ix_n (by omega), c125, show nI (16 * f) + 8 + nI (dpn m (40 * M + i)) = nI (16 * f + (8 + dpn m (40 * M + i))) by rw [show (8 : Int32) = nI 8 from rfl, nI_add, nI_add]; exact congrArg nI (by omega), c121, hx.2.2]
  refine wpl (wpt (by simp (disch := first | omega | decide) only [↓neg1, nlit, rI, rL, rI2, rL1, nI_add, pk_mul, sbT, dvT, nmd, ixT, ↓ibT, ltT, ltF, leT, leF, eqT, eqF, nM_ltT, nM_ltF, nM_leT, nM_leF, nM_eqF, nM_eqF', nbT0, nbT1, oI_s, oI_n, natF, natT, nltT, nltF, nleT, nleF, ↓reduceIte, lgc, not_true_eq_false, not_false_eq_true, or_false, false_or, or_true, true_or, and_true, true_and, and_false, false_and, ne_eq, eq_self, or_self, and_self]) (wpl (wpt (by simp (disch := first | omega | decide) only [↓neg1, nlit, rI, rL, rI2, rL1, nI_add, pk_mul, sbT, dvT, nmd, ixT, ↓ibT, ltT, ltF, leT, leF, eqT, eqF, nM_ltT, nM_ltF, nM_leT, nM_leF, nM_eqF, nM_eqF', nbT0, nbT1, oI_s, oI_n, natF, natT, nltT, nltF, nleT, nleF, ↓reduceIte, lgc, not_true_eq_false, not_false_eq_true, or_false, false_or, or_true, true_or, and_true, true_and, and_false, false_and, ne_eq, eq_self, or_self, and_self]) ?_)))
  rw [nI_add, hq1]
  (try dsimp only); repeat (first | with_reducible refine wpl ?_ | with_reducible refine wpj ?_ | with_reducible refine wpSl ?_ | with_reducible refine wpSr ?_ | with_reducible refine wpS ?_ | ((with_reducible refine wpt ?_ ?_); · simp (disch := first | omega | decide) only [↓neg1, nlit, rI, rL, rI2, rL1, nI_add, pk_mul, sbT, dvT, nmd, ixT, ↓ibT, ltT, ltF, leT, leF, eqT, eqF, nM_ltT, nM_ltF, nM_leT, nM_leF, nM_eqF, nM_eqF', nbT0, nbT1, oI_s, oI_n, natF, natT, nltT, nltF, nleT, nleF, ↓reduceIte, lgc, not_true_eq_false, not_false_eq_true, or_false, false_or, or_true, true_or, and_true, true_and, and_false, false_and, ne_eq, eq_self, or_self, and_self]; done) | ((with_reducible refine wpf ?_ ?_); · simp (disch := first | omega | decide) only [↓neg1, nlit, rI, rL, rI2, rL1, nI_add, pk_mul, sbT, dvT, nmd, ixT, ↓ibT, ltT, ltF, leT, leF, eqT, eqF, nM_ltT, nM_ltF, nM_leT, nM_leF, nM_eqF, nM_eqF', nbT0, nbT1, oI_s, oI_n, natF, natT, nltT, nltF, nleT, nleF, ↓reduceIte, lgc, not_true_eq_false, not_false_eq_true, or_false, false_or, or_true, true_or, and_true, true_and, and_false, false_and, ne_eq, eq_self, or_self, and_self]; done))
  rw [ix_n (by omega), ix_n (by omega)]
  refine ref_pl (t := none) hT (by omega) (by omega) (fun k hk => by cases hk) (sx_pL sx_rfl (decide_eq_true (by omega))) (fun Q' k' hk' => ?_)
  unfold op470
  rw [u211, (hA.1 214 _ rfl).trans hx.2.1, nI_add, hq1]
  (try dsimp only); repeat (first | with_reducible refine wpl ?_ | with_reducible refine wpj ?_ | with_reducible refine wpSl ?_ | with_reducible refine wpSr ?_ | with_reducible refine wpS ?_ | ((with_reducible refine wpt ?_ ?_); · simp (disch := first | omega | decide) only [↓neg1, nlit, rI, rL, rI2, rL1, nI_add, pk_mul, sbT, dvT, nmd, ixT, ↓ibT, ltT, ltF, leT, leF, eqT, eqF, nM_ltT, nM_ltF, nM_leT, nM_leF, nM_eqF, nM_eqF', nbT0, nbT1, oI_s, oI_n, natF, natT, nltT, nltF, nleT, nleF, ↓reduceIte, lgc, not_true_eq_false, not_false_eq_true, or_false, false_or, or_true, true_or, and_true, true_and, and_false, false_and, ne_eq, eq_self, or_self, and_self]; done) | ((with_reducible refine wpf ?_ ?_); · simp (disch := first | omega | decide) only [↓neg1, nlit, rI, rL, rI2, rL1, nI_add, pk_mul, sbT, dvT, nmd, ixT, ↓ibT, ltT, ltF, leT, leF, eqT, eqF, nM_ltT, nM_ltF, nM_leT, nM_leF, nM_eqF, nM_eqF', nbT0, nbT1, oI_s, oI_n, natF, natT, nltT, nltF, nleT, nleF, ↓reduceIte, lgc, not_true_eq_false, not_false_eq_true, or_false, false_or, or_true, true_or, and_true, true_and, and_false, false_and, ne_eq, eq_self, or_self, and_self]; done))
  exact wpc (e467 hn (by omega) (by omega) hA hG.1.1) (fun w hw => hk' _ ⟨rfl, q57_Po hw.2.2, cp_slot hV ho4 (by omega) hw⟩)
theorem go_25 (hn : 1000 ≤ n) (hT : TOP m c u f M i) (e : opn m (40 * M + i) = 25) : wp (d_313 n (nI (16 * f)) (nI (fa c M + i)) c) (fun d => wp (d_470 n (nI f) (nI (40 * M + i)) u) (fun w => PST m c u d w f M i (i + 1))) := by
  obtain ⟨a, ha, ha4, hb, c121, u211, c125, hR, hd8, htk, hgv, ho4, hl8, hop⟩ := TOP_x hT
  obtain ⟨hG, hA, hM, hi, hr, hf, h255, h254, hV⟩ := id hT
  rw [← ha]
  have g1 := gv_of e
  rw [show GT 25 = 2 from rfl] at g1
  have t1 := tk_of e (by omega)
  rw [show TK 25 = 1 from rfl] at t1
  have hq1 : nI (16 * f + (8 + dpn m (40 * M + i))) - 1 = nI (16 * f + (8 + dpn m (40 * M + i)) - 1) := pk_sub (b := 1) (by omega)
  unfold d_313
  refine wpt (by simp (disch := first | omega | decide) only [↓neg1, nlit, rI, rL, rI2, rL1, nI_add, pk_mul, sbT, dvT, nmd, ixT, ↓ibT, ltT, ltF, leT, leF, eqT, eqF, nM_ltT, nM_ltF, nM_leT, nM_leF, nM_eqF, nM_eqF', nbT0, nbT1, oI_s, oI_n, natF, natT, nltT, nltF, nleT, nleF, ↓reduceIte, lgc, not_true_eq_false, not_false_eq_true, or_false, false_or, or_true, true_or, and_true, true_and, and_false, false_and, ne_eq, eq_self, or_self, and_self]) ?_
  rw [ix_n (by omega), c125, show nI (16 * f) + 8 + nI (dpn m (40 * M + i)) = nI (16 * f + (8 + dpn m (40 * M + i))) by rw [show (8 : Int32) = nI 8 from rfl, nI_add, nI_add]; exact congrArg nI (by omega), c121]
  refine wpl (wpt (by simp (disch := first | omega | decide) only [↓neg1, nlit, rI, rL, rI2, rL1, nI_add, pk_mul, sbT, dvT, nmd, ixT, ↓ibT, ltT, ltF, leT, leF, eqT, eqF, nM_ltT, nM_ltF, nM_leT, nM_leF, nM_eqF, nM_eqF', nbT0, nbT1, oI_s, oI_n, natF, natT, nltT, nltF, nleT, nleF, ↓reduceIte, lgc, not_true_eq_false, not_false_eq_true, or_false, false_or, or_true, true_or, and_true, true_and, and_false, false_and, ne_eq, eq_self, or_self, and_self]) (wpl (wpt (by simp (disch := first | omega | decide) only [↓neg1, nlit, rI, rL, rI2, rL1, nI_add, pk_mul, sbT, dvT, nmd, ixT, ↓ibT, ltT, ltF, leT, leF, eqT, eqF, nM_ltT, nM_ltF, nM_leT, nM_leF, nM_eqF, nM_eqF', nbT0, nbT1, oI_s, oI_n, natF, natT, nltT, nltF, nleT, nleF, ↓reduceIte, lgc, not_true_eq_false, not_false_eq_true, or_false, false_or, or_true, true_or, and_true, true_and, and_false, false_and, ne_eq, eq_self, or_self, and_self]) ?_)))
  rw [hq1]
  (try dsimp only); repeat (first | with_reducible refine wpl ?_ | with_reducible refine wpj ?_ | with_reducible refine wpSl ?_ | with_reducible refine wpSr ?_ | with_reducible refine wpS ?_ | ((with_reducible refine wpt ?_ ?_); · simp (disch := first | omega | decide) only [↓neg1, nlit, rI, rL, rI2, rL1, nI_add, pk_mul, sbT, dvT, nmd, ixT, ↓ibT, ltT, ltF, leT, leF, eqT, eqF, nM_ltT, nM_ltF, nM_leT, nM_leF, nM_eqF, nM_eqF', nbT0, nbT1, oI_s, oI_n, natF, natT, nltT, nltF, nleT, nleF, ↓reduceIte, lgc, not_true_eq_false, not_false_eq_true, or_false, false_or, or_true, true_or, and_true, true_and, and_false, false_and, ne_eq, eq_self, or_self, and_self]; done) | ((with_reducible refine wpf ?_ ?_); · simp (disch := first | omega | decide) only [↓neg1, nlit, rI, rL, rI2, rL1, nI_add, pk_mul, sbT, dvT, nmd, ixT, ↓ibT, ltT, ltF, leT, leF, eqT, eqF, nM_ltT, nM_ltF, nM_leT, nM_leF, nM_eqF, nM_eqF', nbT0, nbT1, oI_s, oI_n, natF, natT, nltT, nltF, nleT, nleF, ↓reduceIte, lgc, not_true_eq_false, not_false_eq_true, or_false, false_or, or_true, true_or, and_true, true_and, and_false, false_and, ne_eq, eq_self, or_self, and_self]; done))
  rw [ix_n (by omega), ix_n (by omega)]
  refine ref_pl (t := none) hT (by omega) (by omega) (fun k hk => by cases hk) (sx_pL sx_rfl (decide_eq_true (by omega))) (fun Q' k' hk' => ?_)
  unfold op470
  rw [u211, hq1]
  (try dsimp only); repeat (first | with_reducible refine wpl ?_ | with_reducible refine wpj ?_ | with_reducible refine wpSl ?_ | with_reducible refine wpSr ?_ | with_reducible refine wpS ?_ | ((with_reducible refine wpt ?_ ?_); · simp (disch := first | omega | decide) only [↓neg1, nlit, rI, rL, rI2, rL1, nI_add, pk_mul, sbT, dvT, nmd, ixT, ↓ibT, ltT, ltF, leT, leF, eqT, eqF, nM_ltT, nM_ltF, nM_leT, nM_leF, nM_eqF, nM_eqF', nbT0, nbT1, oI_s, oI_n, natF, natT, nltT, nltF, nleT, nleF, ↓reduceIte, lgc, not_true_eq_false, not_false_eq_true, or_false, false_or, or_true, true_or, and_true, true_and, and_false, false_and, ne_eq, eq_self, or_self, and_self]; done) | ((with_reducible refine wpf ?_ ?_); · simp (disch := first | omega | decide) only [↓neg1, nlit, rI, rL, rI2, rL1, nI_add, pk_mul, sbT, dvT, nmd, ixT, ↓ibT, ltT, ltF, leT, leF, eqT, eqF, nM_ltT, nM_ltF, nM_leT, nM_leF, nM_eqF, nM_eqF', nbT0, nbT1, oI_s, oI_n, natF, natT, nltT, nltF, nleT, nleF, ↓reduceIte, lgc, not_true_eq_false, not_false_eq_true, or_false, false_or, or_true, true_or, and_true, true_and, and_false, false_and, ne_eq, eq_self, or_self, and_self]; done))
  exact wpc (e467 hn (by omega) (by omega) hA hG.1.1) (fun w hw => hk' _ ⟨rfl, q57_Po hw.2.2, cp_slot hV ho4 (by omega) hw⟩)
theorem go_26 (hT : TOP m c u f M i) (e : opn m (40 * M + i) = 26) : wp (d_313 n (nI (16 * f)) (nI (fa c M + i)) c) (fun d => wp (d_470 n (nI f) (nI (40 * M + i)) u) (fun w => PST m c u d w f M i (i + 1))) := by
  obtain ⟨a, ha, ha4, hb, c121, u211, c125, hR, hd8, htk, hgv, ho4, hl8, hop⟩ := TOP_x hT
  obtain ⟨hG, hA, hM, hi, hr, hf, h255, h254, hV⟩ := id hT
  rw [← ha]
  unfold d_313
  refine wpt (by simp (disch := first | omega | decide) only [↓neg1, nlit, rI, rL, rI2, rL1, nI_add, pk_mul, sbT, dvT, nmd, ixT, ↓ibT, ltT, ltF, leT, leF, eqT, eqF, nM_ltT, nM_ltF, nM_leT, nM_leF, nM_eqF, nM_eqF', nbT0, nbT1, oI_s, oI_n, natF, natT, nltT, nltF, nleT, nleF, ↓reduceIte, lgc, not_true_eq_false, not_false_eq_true, or_false, false_or, or_true, true_or, and_true, true_and, and_false, false_and, ne_eq, eq_self, or_self, and_self]) ?_
  rw [ix_n (by omega), c125, c121]
  (try dsimp only); repeat (first | with_reducible refine wpl ?_ | with_reducible refine wpj ?_ | with_reducible refine wpSl ?_ | with_reducible refine wpSr ?_ | with_reducible refine wpS ?_ | ((with_reducible refine wpt ?_ ?_); · simp (disch := first | omega | decide) only [↓neg1, nlit, rI, rL, rI2, rL1, nI_add, pk_mul, sbT, dvT, nmd, ixT, ↓ibT, ltT, ltF, leT, leF, eqT, eqF, nM_ltT, nM_ltF, nM_leT, nM_leF, nM_eqF, nM_eqF', nbT0, nbT1, oI_s, oI_n, natF, natT, nltT, nltF, nleT, nleF, ↓reduceIte, lgc, not_true_eq_false, not_false_eq_true, or_false, false_or, or_true, true_or, and_true, true_and, and_false, false_and, ne_eq, eq_self, or_self, and_self]; done) | ((with_reducible refine wpf ?_ ?_); · simp (disch := first | omega | decide) only [↓neg1, nlit, rI, rL, rI2, rL1, nI_add, pk_mul, sbT, dvT, nmd, ixT, ↓ibT, ltT, ltF, leT, leF, eqT, eqF, nM_ltT, nM_ltF, nM_leT, nM_leF, nM_eqF, nM_eqF', nbT0, nbT1, oI_s, oI_n, natF, natT, nltT, nltF, nleT, nleF, ↓reduceIte, lgc, not_true_eq_false, not_false_eq_true, or_false, false_or, or_true, true_or, and_true, true_and, and_false, false_and, ne_eq, eq_self, or_self, and_self]; done))
  refine ref_pl (t := none) hT (by omega) (by omega) (fun k hk => by cases hk) sx_rfl (fun Q' k' hk' => ?_)
  unfold op470
  rw [u211]
  (try dsimp only); repeat (first | with_reducible refine wpl ?_ | with_reducible refine wpj ?_ | with_reducible refine wpSl ?_ | with_reducible refine wpSr ?_ | with_reducible refine wpS ?_ | ((with_reducible refine wpt ?_ ?_); · simp (disch := first | omega | decide) only [↓neg1, nlit, rI, rL, rI2, rL1, nI_add, pk_mul, sbT, dvT, nmd, ixT, ↓ibT, ltT, ltF, leT, leF, eqT, eqF, nM_ltT, nM_ltF, nM_leT, nM_leF, nM_eqF, nM_eqF', nbT0, nbT1, oI_s, oI_n, natF, natT, nltT, nltF, nleT, nleF, ↓reduceIte, lgc, not_true_eq_false, not_false_eq_true, or_false, false_or, or_true, true_or, and_true, true_and, and_false, false_and, ne_eq, eq_self, or_self, and_self]; done) | ((with_reducible refine wpf ?_ ?_); · simp (disch := first | omega | decide) only [↓neg1, nlit, rI, rL, rI2, rL1, nI_add, pk_mul, sbT, dvT, nmd, ixT, ↓ibT, ltT, ltF, leT, leF, eqT, eqF, nM_ltT, nM_ltF, nM_leT, nM_leF, nM_eqF, nM_eqF', nbT0, nbT1, oI_s, oI_n, natF, natT, nltT, nltF, nleT, nleF, ↓reduceIte, lgc, not_true_eq_false, not_false_eq_true, or_false, false_or, or_true, true_or, and_true, true_and, and_false, false_and, ne_eq, eq_self, or_self, and_self]; done))
  exact hk' _ ⟨rfl, sx_rfl, hV⟩
end OPS
