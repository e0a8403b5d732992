/-! RUN: ACTS that branch -/
section BRA
variable {n f M i : Nat} {c m u : cS}
def tkB (m c u : cS) (f M i : Nat) : Bool := if opn m (40 * M + i) = 27 then true else if opn m (40 * M + i) = 28 then decide (u.1 256 (16 * f + (8 + dpn m (40 * M + i)) - 1) = 0) else mBb m (xN m (40 * M + i)) (nbl (c.2 165 (16 * f + (8 + dpn m (40 * M + i)) - 1)) (8 + xN m (40 * M + i))) (yN m (40 * M + i))
theorem e312 (hT : TOP m c u f M i) (e : opn m (40 * M + i) = 27 ∨ opn m (40 * M + i) = 28 ∨ opn m (40 * M + i) = 29) : d_312 n (nI f) (nI (fa c M + i)) c = some (if tkB m c u f M i = true then nI 1 else nI 0) := by
  obtain ⟨a, ha, ha4, hb, c121, u211, c125, hR, hd8, htk, hgv, ho4, hl8, hop⟩ := TOP_x hT
  obtain ⟨hG, hA, hM, hi, hr, hf, h255, h254, hV⟩ := id hT
  rw [← ha]
  have hO := hG.1.1
  generalize hR2 : (if tkB m c u f M i = true then nI 1 else nI 0) = R
  have hRt : tkB m c u f M i = true → R = nI 1 := fun z => by rw [← hR2, if_pos z]
  have hRf : ¬ tkB m c u f M i = true → R = nI 0 := fun z => by rw [← hR2, if_neg z]
  clear hR2
  unfold d_312
  refine eq_wp (wpt (by simp (disch := first | omega | decide) only [↓neg1, nlit, rI, rL, rI2, rL1, nI_add, pk_mul, sbT, dvT, nmd, ixT, ↓ibT, ltT, ltF, leT, leF, eqT, eqF, nM_ltT, nM_ltF, nM_leT, nM_leF, nM_eqF, nM_eqF', nbT0, nbT1, oI_s, oI_n, natF, natT, nltT, nltF, nleT, nleF, ↓reduceIte, lgc, not_true_eq_false, not_false_eq_true, or_false, false_or, or_true, true_or, and_true, true_and, and_false, false_and, ne_eq, eq_self, or_self, and_self]) ?_)
  rw [ix_n (by omega), c121, c125]
  by_cases e7 : opn m (40 * M + i) = 27
  · refine wpt (by rw [e7]; rfl) ?_
    exact (hRt (if_pos e7)).symm
  have t1 : tkn m (40 * M + i) = 1 := by
    rcases e with z | z | z
    · exact absurd z e7
    · rw [tk_of z (by omega)]
      rfl
    · rw [tk_of z (by omega)]
      rfl
  have s1 := hV.1 (16 * f + (8 + dpn m (40 * M + i)) - 1) (by omega)
  have hqc : nI f * 16 + 8 + nI (dpn m (40 * M + i)) - 1 = nI (16 * f + (8 + dpn m (40 * M + i)) - 1) := by
    rw [show (16 : Int32) = nI 16 from rfl, pk_mul, show (8 : Int32) = nI 8 from rfl, nI_add, nI_add, show (1 : Int32) = nI 1 from rfl, pk_sub (by omega)]
    exact congrArg nI (by omega)
  rw [hqc]
  refine wpf (fun z => e7 (by
    have := (nI_eq (by omega) (by decide)).mp (show nI (200 + opn m (40 * M + i)) = nI 227 from z)
    omega)) (wpt (by simp (disch := first | omega | decide) only [↓neg1, nlit, rI, rL, rI2, rL1, nI_add, pk_mul, sbT, dvT, nmd, ixT, ↓ibT, ltT, ltF, leT, leF, eqT, eqF, nM_ltT, nM_ltF, nM_leT, nM_leF, nM_eqF, nM_eqF', nbT0, nbT1, oI_s, oI_n, natF, natT, nltT, nltF, nleT, nleF, ↓reduceIte, lgc, not_true_eq_false, not_false_eq_true, or_false, false_or, or_true, true_or, and_true, true_and, and_false, false_and, ne_eq, eq_self, or_self, and_self]) (wpt (by simp (disch := first | omega | decide) only [↓neg1, nlit, rI, rL, rI2, rL1, nI_add, pk_mul, sbT, dvT, nmd, ixT, ↓ibT, ltT, ltF, leT, leF, eqT, eqF, nM_ltT, nM_ltF, nM_leT, nM_leF, nM_eqF, nM_eqF', nbT0, nbT1, oI_s, oI_n, natF, natT, nltT, nltF, nleT, nleF, ↓reduceIte, lgc, not_true_eq_false, not_false_eq_true, or_false, false_or, or_true, true_or, and_true, true_and, and_false, false_and, ne_eq, eq_self, or_self, and_self]) ?_))
  rw [ix_n (by omega)]
  refine wpl (wpt (by simp (disch := first | omega | decide) only [↓neg1, nlit, rI, rL, rI2, rL1, nI_add, pk_mul, sbT, dvT, nmd, ixT, ↓ibT, ltT, ltF, leT, leF, eqT, eqF, nM_ltT, nM_ltF, nM_leT, nM_leF, nM_eqF, nM_eqF', nbT0, nbT1, oI_s, oI_n, natF, natT, nltT, nltF, nleT, nleF, ↓reduceIte, lgc, not_true_eq_false, not_false_eq_true, or_false, false_or, or_true, true_or, and_true, true_and, and_false, false_and, ne_eq, eq_self, or_self, and_self]) (wpj ?_))
  by_cases e8 : opn m (40 * M + i) = 28
  · refine wpt (by rw [e8]; rfl) ?_
    rw [s1.1]
    have hk : tkB m c u f M i = decide (u.1 256 (16 * f + (8 + dpn m (40 * M + i)) - 1) = 0) := by
      unfold tkB
      rw [if_neg e7, if_pos e8]
    by_cases z : u.1 256 (16 * f + (8 + dpn m (40 * M + i)) - 1) = 0
    · refine wpt z (wpt (by decide) ?_)
      exact (hRt (by rw [hk]; exact decide_eq_true z)).symm
    · refine wpf z (wpt (by decide) ?_)
      exact (hRf (by rw [hk, decide_eq_true_iff]; exact z)).symm
  · have e9 : opn m (40 * M + i) = 29 := by omega
    have hx := hR.2.2.2.2.2.1 (by omega)
    have hk : tkB m c u f M i = mBb m (xN m (40 * M + i)) (nbl (c.2 165 (16 * f + (8 + dpn m (40 * M + i)) - 1)) (8 + xN m (40 * M + i))) (yN m (40 * M + i)) := by
      unfold tkB
      rw [if_neg e7, if_neg e8]
    refine wpf (fun z => e8 (by
      have := (nI_eq (by omega) (by decide)).mp (show nI (200 + opn m (40 * M + i)) = nI 228 from z)
      omega)) (wpt (by simp (disch := first | omega | decide) only [↓neg1, nlit, rI, rL, rI2, rL1, nI_add, pk_mul, sbT, dvT, nmd, ixT, ↓ibT, ltT, ltF, leT, leF, eqT, eqF, nM_ltT, nM_ltF, nM_leT, nM_leF, nM_eqF, nM_eqF', nbT0, nbT1, oI_s, oI_n, natF, natT, nltT, nltF, nleT, nleF, ↓reduceIte, lgc, not_true_eq_false, not_false_eq_true, or_false, false_or, or_true, true_or, and_true, true_and, and_false, false_and, ne_eq, eq_self, or_self, and_self]) (wpt (by simp (disch := first | omega | decide) only [↓neg1, nlit, rI, rL, rI2, rL1, nI_add, pk_mul, sbT, dvT, nmd, ixT, ↓ibT, ltT, ltF, leT, leF, eqT, eqF, nM_ltT, nM_ltF, nM_leT, nM_leF, nM_eqF, nM_eqF', nbT0, nbT1, oI_s, oI_n, natF, natT, nltT, nltF, nleT, nleF, ↓reduceIte, lgc, not_true_eq_false, not_false_eq_true, or_false, false_or, or_true, true_or, and_true, true_and, and_false, false_and, ne_eq, eq_self, or_self, and_self]) ?_))
    rw [hx.2.2.2.2.1, hx.2.2.2.2.2]
    refine wpe (e305 hO hx.1 (s1.2 _ hx.1).1 hx.2.1) ?_
    by_cases z : mBb m (xN m (40 * M + i)) (nbl (c.2 165 (16 * f + (8 + dpn m (40 * M + i)) - 1)) (8 + xN m (40 * M + i))) (yN m (40 * M + i)) = true
    · rw [if_pos z]
      refine wpt (by decide) ?_
      exact (hRt (by rw [hk]; exact z)).symm
    · rw [if_neg z]
      refine wpt (by decide) ?_
      exact (hRf (by rw [hk]; exact z)).symm
theorem bra_r (hT : TOP m c u f M i) (e : opn m (40 * M + i) = 27 ∨ opn m (40 * M + i) = 28 ∨ opn m (40 * M + i) = 29) : wp (d_470 n (nI f) (nI (40 * M + i)) u) (fun w => PST m c u c w f M i (if tkB m c u f M i = true then lbT m (40 * M + i) else i + 1)) := by
  obtain ⟨a, ha, ha4, hb, c121, u211, c125, hR, hd8, htk, hgv, ho4, hl8, hop⟩ := TOP_x hT
  obtain ⟨hG, hA, hM, hi, hr, hf, h255, h254, hV⟩ := id hT
  have hO := hG.1.1
  have hn40 := ((hG.2.2.2.1 M hM).1).1.2
  obtain ⟨l1, l2⟩ := lbT_lt hG hM hi (decide_eq_true e)
  have u216 : u.1 216 (40 * M + i) = nI (lbT m (40 * M + i)) := (hA.1 216 _ rfl).trans l1
  have main : ∀ t : Option Nat, (t = if tkB m c u f M i = true then some (lbT m (40 * M + i)) else none) → wp (d_470 n (nI f) (nI (40 * M + i)) u) (fun w => PST m c u c w f M i (t.getD (i + 1))) := by
    intro t ht
    refine ref_pl (t := t) hT (by omega) (by omega) (fun k hk => ?_) sx_rfl (fun Q' k' hk' => ?_)
    · rw [ht] at hk
      by_cases z : tkB m c u f M i = true
      · rw [if_pos z] at hk
        cases hk
        omega
      · rw [if_neg z] at hk
        cases hk
    · have go1 : tkB m c u f M i = true → wp (k' (nI (lbT m (40 * M + i)), u)) Q' := fun z => hk' _ ⟨by rw [ht, if_pos z]; rfl, sx_rfl, hV⟩
      have go2 : ¬ tkB m c u f M i = true → wp (k' (nM, u)) Q' := fun z => hk' _ ⟨by rw [ht, if_neg z]; rfl, sx_rfl, hV⟩
      unfold op470
      rw [u211, u216]
      by_cases e7 : opn m (40 * M + i) = 27
      · (try dsimp only); repeat (first | with_reducible refine wpl ?_ | with_reducible refine wpj ?_ | with_reducible refine wpSl ?_ | with_reducible refine wpSr ?_ | with_reducible refine wpS ?_ | ((with_reducible refine wpt ?_ ?_); · simp (disch := first | omega | decide) only [↓neg1, nlit, rI, rL, rI2, rL1, nI_add, pk_mul, sbT, dvT, nmd, ixT, ↓ibT, ltT, ltF, leT, leF, eqT, eqF, nM_ltT, nM_ltF, nM_leT, nM_leF, nM_eqF, nM_eqF', nbT0, nbT1, oI_s, oI_n, natF, natT, nltT, nltF, nleT, nleF, ↓reduceIte, lgc, not_true_eq_false, not_false_eq_true, or_false, false_or, or_true, true_or, and_true, true_and, and_false, false_and, ne_eq, eq_self, or_self, and_self]; done) | ((with_reducible refine wpf ?_ ?_); · simp (disch := first | omega | decide) only [↓neg1, nlit, rI, rL, rI2, rL1, nI_add, pk_mul, sbT, dvT, nmd, ixT, ↓ibT, ltT, ltF, leT, leF, eqT, eqF, nM_ltT, nM_ltF, nM_leT, nM_leF, nM_eqF, nM_eqF', nbT0, nbT1, oI_s, oI_n, natF, natT, nltT, nltF, nleT, nleF, ↓reduceIte, lgc, not_true_eq_false, not_false_eq_true, or_false, false_or, or_true, true_or, and_true, true_and, and_false, false_and, ne_eq, eq_self, or_self, and_self]; done))
        exact go1 (if_pos e7)
      have t1 : tkn m (40 * M + i) = 1 := by
        rcases e with z | z | z
        · exact absurd z e7
        · rw [tk_of z (by omega)]
          rfl
        · rw [tk_of z (by omega)]
          rfl
      have hq1 : nI (16 * f + (8 + dpn m (40 * M + i))) - 1 = nI (16 * f + (8 + dpn m (40 * M + i)) - 1) := pk_sub (b := 1) (by omega)
      have s1 := hV.1 (16 * f + (8 + dpn m (40 * M + i)) - 1) (by omega)
      rw [hq1]
      by_cases e8 : opn m (40 * M + i) = 28
      · have hk : tkB m c u f M i = decide (u.1 256 (16 * f + (8 + dpn m (40 * M + i)) - 1) = 0) := by
          unfold tkB
          rw [if_neg e7, if_pos e8]
        have hq192 : 16 * f + (8 + dpn m (40 * M + i)) - 1 < 192 := by omega
        generalize hqq : 16 * f + (8 + dpn m (40 * M + i)) - 1 = q at *
        refine wpj (wpj ?_)
        refine wpf (by simp (disch := first | omega | decide) only [↓neg1, nlit, rI, rL, rI2, rL1, nI_add, pk_mul, sbT, dvT, nmd, ixT, ↓ibT, ltT, ltF, leT, leF, eqT, eqF, nM_ltT, nM_ltF, nM_leT, nM_leF, nM_eqF, nM_eqF', nbT0, nbT1, oI_s, oI_n, natF, natT, nltT, nltF, nleT, nleF, ↓reduceIte, lgc, not_true_eq_false, not_false_eq_true, or_false, false_or, or_true, true_or, and_true, true_and, and_false, false_and, ne_eq, eq_self, or_self, and_self]) (wpf (by simp (disch := first | omega | decide) only [↓neg1, nlit, rI, rL, rI2, rL1, nI_add, pk_mul, sbT, dvT, nmd, ixT, ↓ibT, ltT, ltF, leT, leF, eqT, eqF, nM_ltT, nM_ltF, nM_leT, nM_leF, nM_eqF, nM_eqF', nbT0, nbT1, oI_s, oI_n, natF, natT, nltT, nltF, nleT, nleF, ↓reduceIte, lgc, not_true_eq_false, not_false_eq_true, or_false, false_or, or_true, true_or, and_true, true_and, and_false, false_and, ne_eq, eq_self, or_self, and_self]) (wpf (by simp (disch := first | omega | decide) only [↓neg1, nlit, rI, rL, rI2, rL1, nI_add, pk_mul, sbT, dvT, nmd, ixT, ↓ibT, ltT, ltF, leT, leF, eqT, eqF, nM_ltT, nM_ltF, nM_leT, nM_leF, nM_eqF, nM_eqF', nbT0, nbT1, oI_s, oI_n, natF, natT, nltT, nltF, nleT, nleF, ↓reduceIte, lgc, not_true_eq_false, not_false_eq_true, or_false, false_or, or_true, true_or, and_true, true_and, and_false, false_and, ne_eq, eq_self, or_self, and_self]) (wpf (by simp (disch := first | omega | decide) only [↓neg1, nlit, rI, rL, rI2, rL1, nI_add, pk_mul, sbT, dvT, nmd, ixT, ↓ibT, ltT, ltF, leT, leF, eqT, eqF, nM_ltT, nM_ltF, nM_leT, nM_leF, nM_eqF, nM_eqF', nbT0, nbT1, oI_s, oI_n, natF, natT, nltT, nltF, nleT, nleF, ↓reduceIte, lgc, not_true_eq_false, not_false_eq_true, or_false, false_or, or_true, true_or, and_true, true_and, and_false, false_and, ne_eq, eq_self, or_self, and_self]) (wpf (by simp (disch := first | omega | decide) only [↓neg1, nlit, rI, rL, rI2, rL1, nI_add, pk_mul, sbT, dvT, nmd, ixT, ↓ibT, ltT, ltF, leT, leF, eqT, eqF, nM_ltT, nM_ltF, nM_leT, nM_leF, nM_eqF, nM_eqF', nbT0, nbT1, oI_s, oI_n, natF, natT, nltT, nltF, nleT, nleF, ↓reduceIte, lgc, not_true_eq_false, not_false_eq_true, or_false, false_or, or_true, true_or, and_true, true_and, and_false, false_and, ne_eq, eq_self, or_self, and_self]) (wpf (by simp (disch := first | omega | decide) only [↓neg1, nlit, rI, rL, rI2, rL1, nI_add, pk_mul, sbT, dvT, nmd, ixT, ↓ibT, ltT, ltF, leT, leF, eqT, eqF, nM_ltT, nM_ltF, nM_leT, nM_leF, nM_eqF, nM_eqF', nbT0, nbT1, oI_s, oI_n, natF, natT, nltT, nltF, nleT, nleF, ↓reduceIte, lgc, not_true_eq_false, not_false_eq_true, or_false, false_or, or_true, true_or, and_true, true_and, and_false, false_and, ne_eq, eq_self, or_self, and_self]) (wpf (by simp (disch := first | omega | decide) only [↓neg1, nlit, rI, rL, rI2, rL1, nI_add, pk_mul, sbT, dvT, nmd, ixT, ↓ibT, ltT, ltF, leT, leF, eqT, eqF, nM_ltT, nM_ltF, nM_leT, nM_leF, nM_eqF, nM_eqF', nbT0, nbT1, oI_s, oI_n, natF, natT, nltT, nltF, nleT, nleF, ↓reduceIte, lgc, not_true_eq_false, not_false_eq_true, or_false, false_or, or_true, true_or, and_true, true_and, and_false, false_and, ne_eq, eq_self, or_self, and_self]) (wpf (by simp (disch := first | omega | decide) only [↓neg1, nlit, rI, rL, rI2, rL1, nI_add, pk_mul, sbT, dvT, nmd, ixT, ↓ibT, ltT, ltF, leT, leF, eqT, eqF, nM_ltT, nM_ltF, nM_leT, nM_leF, nM_eqF, nM_eqF', nbT0, nbT1, oI_s, oI_n, natF, natT, nltT, nltF, nleT, nleF, ↓reduceIte, lgc, not_true_eq_false, not_false_eq_true, or_false, false_or, or_true, true_or, and_true, true_and, and_false, false_and, ne_eq, eq_self, or_self, and_self]) (wpf (by simp (disch := first | omega | decide) only [↓neg1, nlit, rI, rL, rI2, rL1, nI_add, pk_mul, sbT, dvT, nmd, ixT, ↓ibT, ltT, ltF, leT, leF, eqT, eqF, nM_ltT, nM_ltF, nM_leT, nM_leF, nM_eqF, nM_eqF', nbT0, nbT1, oI_s, oI_n, natF, natT, nltT, nltF, nleT, nleF, ↓reduceIte, lgc, not_true_eq_false, not_false_eq_true, or_false, false_or, or_true, true_or, and_true, true_and, and_false, false_and, ne_eq, eq_self, or_self, and_self]) (wpf (by simp (disch := first | omega | decide) only [↓neg1, nlit, rI, rL, rI2, rL1, nI_add, pk_mul, sbT, dvT, nmd, ixT, ↓ibT, ltT, ltF, leT, leF, eqT, eqF, nM_ltT, nM_ltF, nM_leT, nM_leF, nM_eqF, nM_eqF', nbT0, nbT1, oI_s, oI_n, natF, natT, nltT, nltF, nleT, nleF, ↓reduceIte, lgc, not_true_eq_false, not_false_eq_true, or_false, false_or, or_true, true_or, and_true, true_and, and_false, false_and, ne_eq, eq_self, or_self, and_self]) (wpf (by simp (disch := first | omega | decide) only [↓neg1, nlit, rI, rL, rI2, rL1, nI_add, pk_mul, sbT, dvT, nmd, ixT, ↓ibT, ltT, ltF, leT, leF, eqT, eqF, nM_ltT, nM_ltF, nM_leT, nM_leF, nM_eqF, nM_eqF', nbT0, nbT1, oI_s, oI_n, natF, natT, nltT, nltF, nleT, nleF, ↓reduceIte, lgc, not_true_eq_false, not_false_eq_true, or_false, false_or, or_true, true_or, and_true, true_and, and_false, false_and, ne_eq, eq_self, or_self, and_self]) (wpf (by simp (disch := first | omega | decide) only [↓neg1, nlit, rI, rL, rI2, rL1, nI_add, pk_mul, sbT, dvT, nmd, ixT, ↓ibT, ltT, ltF, leT, leF, eqT, eqF, nM_ltT, nM_ltF, nM_leT, nM_leF, nM_eqF, nM_eqF', nbT0, nbT1, oI_s, oI_n, natF, natT, nltT, nltF, nleT, nleF, ↓reduceIte, lgc, not_true_eq_false, not_false_eq_true, or_false, false_or, or_true, true_or, and_true, true_and, and_false, false_and, ne_eq, eq_self, or_self, and_self]) (wpf (by simp (disch := first | omega | decide) only [↓neg1, nlit, rI, rL, rI2, rL1, nI_add, pk_mul, sbT, dvT, nmd, ixT, ↓ibT, ltT, ltF, leT, leF, eqT, eqF, nM_ltT, nM_ltF, nM_leT, nM_leF, nM_eqF, nM_eqF', nbT0, nbT1, oI_s, oI_n, natF, natT, nltT, nltF, nleT, nleF, ↓reduceIte, lgc, not_true_eq_false, not_false_eq_true, or_false, false_or, or_true, true_or, and_true, true_and, and_false, false_and, ne_eq, eq_self, or_self, and_self]) (wpf (by simp (disch := first | omega | decide) only [↓neg1, nlit, rI, rL, rI2, rL1, nI_add, pk_mul, sbT, dvT, nmd, ixT, ↓ibT, ltT, ltF, leT, leF, eqT, eqF, nM_ltT, nM_ltF, nM_leT, nM_leF, nM_eqF, nM_eqF', nbT0, nbT1, oI_s, oI_n, natF, natT, nltT, nltF, nleT, nleF, ↓reduceIte, lgc, not_true_eq_false, not_false_eq_true, or_false, false_or, or_true, true_or, and_true, true_and, and_false, false_and, ne_eq, eq_self, or_self, and_self]) (wpt (by simp (disch := first | omega | decide) only [↓neg1, nlit, rI, rL, rI2, rL1, nI_add, pk_mul, sbT, dvT, nmd, ixT, ↓ibT, ltT, ltF, leT, leF, eqT, eqF, nM_ltT, nM_ltF, nM_leT, nM_leF, nM_eqF, nM_eqF', nbT0, nbT1, oI_s, oI_n, natF, natT, nltT, nltF, nleT, nleF, ↓reduceIte, lgc, not_true_eq_false, not_false_eq_true, or_false, false_or, or_true, true_or, and_true, true_and, and_false, false_and, ne_eq, eq_self, or_self, and_self]) (wpt (by simp (disch := first | omega | decide) only [↓neg1, nlit, rI, rL, rI2, rL1, nI_add, pk_mul, sbT, dvT, nmd, ixT, ↓ibT, ltT, ltF, leT, leF, eqT, eqF, nM_ltT, nM_ltF, nM_leT, nM_leF, nM_eqF, nM_eqF', nbT0, nbT1, oI_s, oI_n, natF, natT, nltT, nltF, nleT, nleF, ↓reduceIte, lgc, not_true_eq_false, not_false_eq_true, or_false, false_or, or_true, true_or, and_true, true_and, and_false, false_and, ne_eq, eq_self, or_self, and_self]) ?_)))))))))))))))
        rw [ix_n (by omega)]
        by_cases z : u.1 256 q = 0
        · exact wpt z (wpt (by simp (disch := first | omega | decide) only [↓neg1, nlit, rI, rL, rI2, rL1, nI_add, pk_mul, sbT, dvT, nmd, ixT, ↓ibT, ltT, ltF, leT, leF, eqT, eqF, nM_ltT, nM_ltF, nM_leT, nM_leF, nM_eqF, nM_eqF', nbT0, nbT1, oI_s, oI_n, natF, natT, nltT, nltF, nleT, nleF, ↓reduceIte, lgc, not_true_eq_false, not_false_eq_true, or_false, false_or, or_true, true_or, and_true, true_and, and_false, false_and, ne_eq, eq_self, or_self, and_self]) (wpl (go1 (by rw [hk]; exact decide_eq_true z))))
        · exact wpf z (go2 (by rw [hk, decide_eq_true_iff]; exact z))
      · have e9 : opn m (40 * M + i) = 29 := by omega
        have hx := hR.2.2.2.2.2.1 (by omega)
        have hel := OOS_el hO hx.1
        have hx1 := hx.1
        have hk : tkB m c u f M i = mBb m (xN m (40 * M + i)) (nbl (c.2 165 (16 * f + (8 + dpn m (40 * M + i)) - 1)) (8 + xN m (40 * M + i))) (yN m (40 * M + i)) := by
          unfold tkB
          rw [if_neg e7, if_neg e8]
        have u214 : u.1 214 (40 * M + i) = nI (xN m (40 * M + i)) := (hA.1 214 _ rfl).trans hx.2.2.1
        have u215 : u.1 215 (40 * M + i) = nI (yN m (40 * M + i)) := (hA.1 215 _ rfl).trans hx.2.2.2.1
        rw [u214, u215, show (4 : Int32) * nI (16 * f + (8 + dpn m (40 * M + i)) - 1) + nI (xN m (40 * M + i)) = nI (4 * (16 * f + (8 + dpn m (40 * M + i)) - 1) + xN m (40 * M + i)) by rw [show (4 : Int32) = nI 4 from rfl, pk_mul, nI_add]]
        (try dsimp only); repeat (first | with_reducible refine wpl ?_ | with_reducible refine wpj ?_ | with_reducible refine wpSl ?_ | with_reducible refine wpSr ?_ | with_reducible refine wpS ?_ | ((with_reducible refine wpt ?_ ?_); · simp (disch := first | omega | decide) only [↓neg1, nlit, rI, rL, rI2, rL1, nI_add, pk_mul, sbT, dvT, nmd, ixT, ↓ibT, ltT, ltF, leT, leF, eqT, eqF, nM_ltT, nM_ltF, nM_leT, nM_leF, nM_eqF, nM_eqF', nbT0, nbT1, oI_s, oI_n, natF, natT, nltT, nltF, nleT, nleF, ↓reduceIte, lgc, not_true_eq_false, not_false_eq_true, or_false, false_or, or_true, true_or, and_true, true_and, and_false, false_and, ne_eq, eq_self, or_self, and_self]; done) | ((with_reducible refine wpf ?_ ?_); · simp (disch := first | omega | decide) only [↓neg1, nlit, rI, rL, rI2, rL1, nI_add, pk_mul, sbT, dvT, nmd, ixT, ↓ibT, ltT, ltF, leT, leF, eqT, eqF, nM_ltT, nM_ltF, nM_leT, nM_leF, nM_eqF, nM_eqF', nbT0, nbT1, oI_s, oI_n, natF, natT, nltT, nltF, nleT, nleF, ↓reduceIte, lgc, not_true_eq_false, not_false_eq_true, or_false, false_or, or_true, true_or, and_true, true_and, and_false, false_and, ne_eq, eq_self, or_self, and_self]; done))
        rw [ix_n (by omega), show u.1 257 (4 * (16 * f + (8 + dpn m (40 * M + i)) - 1) + xN m (40 * M + i)) = _ from (s1.2 _ hx1).2]
        refine wpe (e387b hA hO hx1 (s1.2 _ hx1).1 hx.2.1) ?_
        by_cases z : mBb m (xN m (40 * M + i)) (nbl (c.2 165 (16 * f + (8 + dpn m (40 * M + i)) - 1)) (8 + xN m (40 * M + i))) (yN m (40 * M + i)) = true
        · rw [if_pos z]
          exact wpf (by decide) (wpt (by simp (disch := first | omega | decide) only [↓neg1, nlit, rI, rL, rI2, rL1, nI_add, pk_mul, sbT, dvT, nmd, ixT, ↓ibT, ltT, ltF, leT, leF, eqT, eqF, nM_ltT, nM_ltF, nM_leT, nM_leF, nM_eqF, nM_eqF', nbT0, nbT1, oI_s, oI_n, natF, natT, nltT, nltF, nleT, nleF, ↓reduceIte, lgc, not_true_eq_false, not_false_eq_true, or_false, false_or, or_true, true_or, and_true, true_and, and_false, false_and, ne_eq, eq_self, or_self, and_self]) (wpl (go1 (by rw [hk]; exact z))))
        · rw [if_neg z]
          exact wpt rfl (go2 (by rw [hk]; exact z))
  have := main _ rfl
  by_cases z : tkB m c u f M i = true
  · rw [if_pos z] at this ⊢
    exact this
  · rw [if_neg z] at this ⊢
    exact this
end BRA
