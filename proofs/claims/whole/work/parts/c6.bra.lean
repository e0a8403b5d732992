/-! RUN: `as`, and ACTS that branch -/
section OP3
variable {n f M i : Nat} {c m u : cS}
/-- whether a mark is low enough -/
theorem e305 {x : Int64} {o e : Nat} (hO : OOS c m) (ho : o < ocn m) (hx : nbl x (8 + o) < eln m o) (he : e < eln m o) : d_305 n x (nI o) (nI e) c = some (if mBb m o (nbl x (8 + o)) e = true then nI 1 else nI 0) := by
  have ho4 := hO.1
  have hel := OOS_el hO ho
  obtain ⟨t, t1, t2, t3⟩ := (OOS_at hO ho).2.2.2.2.1 _ hx
  have h12 : (2 : Nat) ^ eln m o ≤ 2 ^ 12 := Nat.pow_le_pow_right (by decide) hel.2.1
  unfold d_305
  refine eq_wp (wpt (by simp (disch := first | omega | decide) only [↓neg1, nlit, rI, rL, rI2, rL1, nI_add, pk_mul, sbT, dvT, nmd, ixT, ↓ibT, ltT, ltF, leT, leF, eqT, eqF, nM_ltT, nM_ltF, nM_leT, nM_leF, nM_eqF, nM_eqF', nbT0, nbT1, oI_s, oI_n, natF, natT, nltT, nltF, nleT, nleF, ↓reduceIte, lgc, not_true_eq_false, not_false_eq_true, or_false, false_or, or_true, true_or, and_true, true_and, and_false, false_and, ne_eq, eq_self, or_self, and_self]) ?_)
  rw [show (8 : Int32) + nI o = nI (8 + o) from nI_add 8 o, ix_n (by omega)]
  refine wpe (e355 (by omega)) (wpe (e237 (u := t) (by omega) (by omega) (by omega) t2) ?_)
  by_cases hb : mB m o (nbl x (8 + o)) e
  · rw [if_pos ((t3 e he).mpr hb), if_pos (mBb_t.mpr hb)]
    exact wpt (by decide) rfl
  · rw [if_neg (fun z => hb ((t3 e he).mp z)), if_neg (fun z => hb (mBb_t.mp z))]
    exact wpt (by decide) rfl
theorem go_30 (hn : 1000 ≤ n) (hT : TOP m c u f M i) (e : opn m (40 * M + i) = 30) : wp (d_313 n (nI (16 * f)) (nI (fa c M + i)) c) (fun d => wp (d_470 n (nI f) (nI (40 * M + i)) u) (fun w => PST m c u d w f M i (i + 1))) := by
  obtain ⟨a, ha, ha4, hb, c121, u211, c125, hR, hd8, htk, hgv, ho4, hl8, hop⟩ := TOP_x hT
  obtain ⟨hG, hA, hM, hi, hr, hf, h255, h254, hV⟩ := id hT
  rw [← ha]
  have t1 := tk_of e (by omega)
  rw [show TK 30 = 1 from rfl] at t1
  have hO := hG.1.1
  have hx := hR.2.2.2.2.2.1 (by omega)
  have hx1 := hx.1
  have hx2 := hx.2.1
  have hel := OOS_el hO hx1
  have hq1 : nI (16 * f + (8 + dpn m (40 * M + i))) - 1 = nI (16 * f + (8 + dpn m (40 * M + i)) - 1) := pk_sub (b := 1) (by omega)
  have s1 := hV.1 (16 * f + (8 + dpn m (40 * M + i)) - 1) (by omega)
  have i10 : ix (10 : Int32) = 10 := by decide
  have hq192 : 16 * f + (8 + dpn m (40 * M + i)) - 1 < 192 := by omega
  generalize hX : xN m (40 * M + i) = X at *
  generalize hY : yN m (40 * M + i) = Y at *
  have h305 := e305 (n := n) (x := c.2 165 (16 * f + (8 + dpn m (40 * M + i)) - 1)) hO hx1 (s1.2 X hx1).1 hx2
  have u214 : u.1 214 (40 * M + i) = nI X := (hA.1 214 _ rfl).trans hx.2.2.1
  have u215 : u.1 215 (40 * M + i) = nI Y := (hA.1 215 _ rfl).trans hx.2.2.2.1
  have h387 : d_387 n (nI X) (u.1 257 (4 * (16 * f + (8 + dpn m (40 * M + i)) - 1) + X)) (nI Y) u = some (if mBb m X (nbl (c.2 165 (16 * f + (8 + dpn m (40 * M + i)) - 1)) (8 + X)) Y = true then nI 1 else nI 0) := by
    rw [show u.1 257 (4 * (16 * f + (8 + dpn m (40 * M + i)) - 1) + X) = _ from (s1.2 X hx1).2]
    exact e387b hA hO hx1 (s1.2 X hx1).1 hx2
  have hS' : ∀ w : cS, w.1 256 (16 * f + (8 + dpn m (40 * M + i)) - 1) = u.1 256 (16 * f + (8 + dpn m (40 * M + i)) - 1) → (∀ o, o < ocn m → w.1 257 (4 * (16 * f + (8 + dpn m (40 * M + i)) - 1) + o) = if o = X then nI Y else u.1 257 (4 * (16 * f + (8 + dpn m (40 * M + i)) - 1) + o)) → SL m (wn (c.2 165 (16 * f + (8 + dpn m (40 * M + i)) - 1)) (8 + X) Y) (w.1 256 (16 * f + (8 + dpn m (40 * M + i)) - 1)) (fun o => w.1 257 (4 * (16 * f + (8 + dpn m (40 * M + i)) - 1) + o)) := by
    intro w w1 w2
    refine ⟨by rw [wn_32 (by omega) (by omega) (by omega), w1]; exact s1.1, fun o ho => ?_⟩
    dsimp only
    rw [nbl_wn (by omega) (by omega) (by omega), w2 o ho]
    by_cases eo : o = X
    · subst eo
      rw [if_pos rfl, if_pos rfl]
      exact ⟨hx2, rfl⟩
    · rw [if_neg (by omega), if_neg eo]
      exact s1.2 o ho
  generalize hqq : 16 * f + (8 + dpn m (40 * M + i)) = q at *
  unfold d_313
  refine wpt (by simp (disch := first | omega | decide) only [↓neg1, nlit, rI, rL, rI2, rL1, nI_add, pk_mul, sbT, dvT, nmd, ixT, ↓ibT, ltT, ltF, leT, leF, eqT, eqF, nM_ltT, nM_ltF, nM_leT, nM_leF, nM_eqF, nM_eqF', nbT0, nbT1, oI_s, oI_n, natF, natT, nltT, nltF, nleT, nleF, ↓reduceIte, lgc, not_true_eq_false, not_false_eq_true, or_false, false_or, or_true, true_or, and_true, true_and, and_false, false_and, ne_eq, eq_self, or_self, and_self]) ?_
  rw [ix_n (by omega), c125, show nI (16 * f) + 8 + nI (dpn m (40 * M + i)) = nI q by rw [show (8 : Int32) = nI 8 from rfl, nI_add, nI_add, ← hqq]; exact congrArg nI (by omega), c121, hx.2.2.2.2.1, hx.2.2.2.2.2]
  refine wpl (wpt (by simp (disch := first | omega | decide) only [↓neg1, nlit, rI, rL, rI2, rL1, nI_add, pk_mul, sbT, dvT, nmd, ixT, ↓ibT, ltT, ltF, leT, leF, eqT, eqF, nM_ltT, nM_ltF, nM_leT, nM_leF, nM_eqF, nM_eqF', nbT0, nbT1, oI_s, oI_n, natF, natT, nltT, nltF, nleT, nleF, ↓reduceIte, lgc, not_true_eq_false, not_false_eq_true, or_false, false_or, or_true, true_or, and_true, true_and, and_false, false_and, ne_eq, eq_self, or_self, and_self]) (wpl (wpt (by simp (disch := first | omega | decide) only [↓neg1, nlit, rI, rL, rI2, rL1, nI_add, pk_mul, sbT, dvT, nmd, ixT, ↓ibT, ltT, ltF, leT, leF, eqT, eqF, nM_ltT, nM_ltF, nM_leT, nM_leF, nM_eqF, nM_eqF', nbT0, nbT1, oI_s, oI_n, natF, natT, nltT, nltF, nleT, nleF, ↓reduceIte, lgc, not_true_eq_false, not_false_eq_true, or_false, false_or, or_true, true_or, and_true, true_and, and_false, false_and, ne_eq, eq_self, or_self, and_self]) ?_)))
  rw [hq1]
  (try dsimp only); repeat (first | with_reducible refine wpl ?_ | with_reducible refine wpj ?_ | with_reducible refine wpSl ?_ | with_reducible refine wpSr ?_ | with_reducible refine wpS ?_ | ((with_reducible refine wpt ?_ ?_); · simp (disch := first | omega | decide) only [↓neg1, nlit, rI, rL, rI2, rL1, nI_add, pk_mul, sbT, dvT, nmd, ixT, ↓ibT, ltT, ltF, leT, leF, eqT, eqF, nM_ltT, nM_ltF, nM_leT, nM_leF, nM_eqF, nM_eqF', nbT0, nbT1, oI_s, oI_n, natF, natT, nltT, nltF, nleT, nleF, ↓reduceIte, lgc, not_true_eq_false, not_false_eq_true, or_false, false_or, or_true, true_or, and_true, true_and, and_false, false_and, ne_eq, eq_self, or_self, and_self]; done) | ((with_reducible refine wpf ?_ ?_); · simp (disch := first | omega | decide) only [↓neg1, nlit, rI, rL, rI2, rL1, nI_add, pk_mul, sbT, dvT, nmd, ixT, ↓ibT, ltT, ltF, leT, leF, eqT, eqF, nM_ltT, nM_ltF, nM_leT, nM_leF, nM_eqF, nM_eqF', nbT0, nbT1, oI_s, oI_n, natF, natT, nltT, nltF, nleT, nleF, ↓reduceIte, lgc, not_true_eq_false, not_false_eq_true, or_false, false_or, or_true, true_or, and_true, true_and, and_false, false_and, ne_eq, eq_self, or_self, and_self]; done))
  rw [ix_n (by omega)]
  refine wpe h305 ?_
  -- both ends
  have fin : ∀ (p : Int32) (d : cS), d = pL (pI c 162 10 (c.1 162 10 + p)) 165 (q - 1) (wn (c.2 165 (q - 1)) (8 + X) Y) → (∀ w : cS, w.1 256 (q - 1) = u.1 256 (q - 1) → (∀ o, o < ocn m → w.1 257 (4 * (q - 1) + o) = if o = X then nI Y else u.1 257 (4 * (q - 1) + o)) → w.1 174 128 = u.1 174 128 + p → w.2 = u.2 → sx (fun a i => decide ((a = 174 ∧ i = 128) ∨ (a = 257 ∧ 4 * (q - 1) ≤ i ∧ i < 4 * (q - 1) + 4))) u w → VAL m d w (16 * (f + 1))) := by
    intro p d hd w w1 w2 w3 w22 w4
    have hV1 : VAL m (pI c 162 10 (c.1 162 10 + p)) (pI u 174 128 (u.1 174 128 + p)) (16 * (f + 1)) := by
      obtain ⟨v1, v2, v3, v4⟩ := hV
      refine ⟨fun q hq => SL_cg (v1 q hq) rfl (by rw [rI, if_neg (by omega)]) (fun o ho => by rw [rI, if_neg (by omega)]), fun x y hx hy => SL_cg (v2 x y hx hy) rfl (by rw [rI, if_neg (by omega)]) (fun o ho => by rw [rI, if_neg (by omega)]), ?_, JI_sx (r := fun a i => decide (a = 162)) (q := fun a i => decide (a = 174 ∧ i = 128)) v4 (sx_pI sx_rfl rfl) (sx_pI sx_rfl rfl) rfl (fun i => rfl) rfl (fun i => rfl)⟩
      rw [rI, if_pos ⟨rfl, rfl⟩, rI, if_pos ⟨rfl, rfl⟩, v3]
    refine VAL_slot hV1 ho4 hd ⟨fun a i z => ?_, fun a i z => ?_⟩ (hS' w w1 w2)
    · have z := of_decide_eq_false z
      rw [rI]
      by_cases e1 : a = 174 ∧ i = 128
      · rw [if_pos e1, e1.1, e1.2, w3]
      · rw [if_neg e1]
        exact w4.1 a i (decide_eq_false (by omega))
    · show w.2 a i = u.2 a i
      rw [w22]
  refine wpjQ (fun p : Int32 => p = if mBb m X (nbl (c.2 165 (q - 1)) (8 + X)) Y = true then nI 0 else nI 1) ?_ ?_
  · intro p hp
    refine wpt (by decide) ?_
    rw [i10]
    refine wpl (wpt (by simp (disch := first | omega | decide) only [↓neg1, nlit, rI, rL, rI2, rL1, nI_add, pk_mul, sbT, dvT, nmd, ixT, ↓ibT, ltT, ltF, leT, leF, eqT, eqF, nM_ltT, nM_ltF, nM_leT, nM_leF, nM_eqF, nM_eqF', nbT0, nbT1, oI_s, oI_n, natF, natT, nltT, nltF, nleT, nleF, ↓reduceIte, lgc, not_true_eq_false, not_false_eq_true, or_false, false_or, or_true, true_or, and_true, true_and, and_false, false_and, ne_eq, eq_self, or_self, and_self]) (wpt (by simp (disch := first | omega | decide) only [↓neg1, nlit, rI, rL, rI2, rL1, nI_add, pk_mul, sbT, dvT, nmd, ixT, ↓ibT, ltT, ltF, leT, leF, eqT, eqF, nM_ltT, nM_ltF, nM_leT, nM_leF, nM_eqF, nM_eqF', nbT0, nbT1, oI_s, oI_n, natF, natT, nltT, nltF, nleT, nleF, ↓reduceIte, lgc, not_true_eq_false, not_false_eq_true, or_false, false_or, or_true, true_or, and_true, true_and, and_false, false_and, ne_eq, eq_self, or_self, and_self]) ?_))
    rw [show (pI c 162 10 (c.1 162 10 + p)).1 123 a = nI X by rw [rI, if_neg (by omega)]; exact hx.2.2.2.2.1, show (8 : Int32) + nI X = nI (8 + X) from nI_add 8 X]
    refine wpe (show d_356 n ((pI c 162 10 (c.1 162 10 + p)).2 165 (q - 1)) (nI (8 + X)) (nI Y) = some (wn (c.2 165 (q - 1)) (8 + X) Y) from e356 (by omega) (by omega)) (wpt (by simp (disch := first | omega | decide) only [↓neg1, nlit, rI, rL, rI2, rL1, nI_add, pk_mul, sbT, dvT, nmd, ixT, ↓ibT, ltT, ltF, leT, leF, eqT, eqF, nM_ltT, nM_ltF, nM_leT, nM_leF, nM_eqF, nM_eqF', nbT0, nbT1, oI_s, oI_n, natF, natT, nltT, nltF, nleT, nleF, ↓reduceIte, lgc, not_true_eq_false, not_false_eq_true, or_false, false_or, or_true, true_or, and_true, true_and, and_false, false_and, ne_eq, eq_self, or_self, and_self]) (wpl ?_))
    have hcd : sx qPc c (pL (pI c 162 10 (c.1 162 10 + p)) 165 (q - 1) (wn (c.2 165 (q - 1)) (8 + X) Y)) := sx_pL (sx_pI sx_rfl rfl) (decide_eq_true (by omega))
    have hfin := fin p _ rfl
    refine ref_pl (t := none) hT (by omega) (by omega) (fun k hk => by cases hk) hcd (fun Q' k' hk' => ?_)
    unfold op470
    rw [hqq, u211, hq1, u214, u215, show (4 : Int32) * nI (q - 1) + nI X = nI (4 * (q - 1) + X) by rw [show (4 : Int32) = nI 4 from rfl, pk_mul, nI_add]]
    (try dsimp only); repeat (first | with_reducible refine wpl ?_ | with_reducible refine wpj ?_ | with_reducible refine wpSl ?_ | with_reducible refine wpSr ?_ | with_reducible refine wpS ?_ | ((with_reducible refine wpt ?_ ?_); · simp (disch := first | omega | decide) only [↓neg1, nlit, rI, rL, rI2, rL1, nI_add, pk_mul, sbT, dvT, nmd, ixT, ↓ibT, ltT, ltF, leT, leF, eqT, eqF, nM_ltT, nM_ltF, nM_leT, nM_leF, nM_eqF, nM_eqF', nbT0, nbT1, oI_s, oI_n, natF, natT, nltT, nltF, nleT, nleF, ↓reduceIte, lgc, not_true_eq_false, not_false_eq_true, or_false, false_or, or_true, true_or, and_true, true_and, and_false, false_and, ne_eq, eq_self, or_self, and_self]; done) | ((with_reducible refine wpf ?_ ?_); · simp (disch := first | omega | decide) only [↓neg1, nlit, rI, rL, rI2, rL1, nI_add, pk_mul, sbT, dvT, nmd, ixT, ↓ibT, ltT, ltF, leT, leF, eqT, eqF, nM_ltT, nM_ltF, nM_leT, nM_leF, nM_eqF, nM_eqF', nbT0, nbT1, oI_s, oI_n, natF, natT, nltT, nltF, nleT, nleF, ↓reduceIte, lgc, not_true_eq_false, not_false_eq_true, or_false, false_or, or_true, true_or, and_true, true_and, and_false, false_and, ne_eq, eq_self, or_self, and_self]; done))
    rw [ix_n (by omega)]
    refine wpe h387 ?_
    have step : ∀ (y : cS), y = u ∨ y = pI u 174 128 (u.1 174 128 + 1) → y.1 174 128 = u.1 174 128 + p → wp (if ib (nI (40 * M + i)) 3840 then if ib (nI (40 * M + i)) 3840 then if ib (4 * nI (q - 1) + y.1 214 (40 * M + i)) 768 then lt (pI y 257 (ix (4 * nI (q - 1) + y.1 214 (40 * M + i))) (y.1 215 (40 * M + i))) (fun c156 => k' ((-1), c156)) else none else none else none) Q' := by
      intro y hy h128
      have ysx : sx (fun a i => decide (a = 174 ∧ i = 128)) u y := by
        rcases hy with rfl | rfl
        · exact sx_rfl
        · exact sx_pI sx_rfl rfl
      have y2 : y.2 = u.2 := by
        rcases hy with rfl | rfl
        · rfl
        · rfl
      rw [ysx.1 214 _ rfl, ysx.1 215 _ rfl, u214, u215, show (4 : Int32) * nI (q - 1) + nI X = nI (4 * (q - 1) + X) by rw [show (4 : Int32) = nI 4 from rfl, pk_mul, nI_add]]
      refine wpt (by simp (disch := first | omega | decide) only [↓neg1, nlit, rI, rL, rI2, rL1, nI_add, pk_mul, sbT, dvT, nmd, ixT, ↓ibT, ltT, ltF, leT, leF, eqT, eqF, nM_ltT, nM_ltF, nM_leT, nM_leF, nM_eqF, nM_eqF', nbT0, nbT1, oI_s, oI_n, natF, natT, nltT, nltF, nleT, nleF, ↓reduceIte, lgc, not_true_eq_false, not_false_eq_true, or_false, false_or, or_true, true_or, and_true, true_and, and_false, false_and, ne_eq, eq_self, or_self, and_self]) (wpt (by simp (disch := first | omega | decide) only [↓neg1, nlit, rI, rL, rI2, rL1, nI_add, pk_mul, sbT, dvT, nmd, ixT, ↓ibT, ltT, ltF, leT, leF, eqT, eqF, nM_ltT, nM_ltF, nM_leT, nM_leF, nM_eqF, nM_eqF', nbT0, nbT1, oI_s, oI_n, natF, natT, nltT, nltF, nleT, nleF, ↓reduceIte, lgc, not_true_eq_false, not_false_eq_true, or_false, false_or, or_true, true_or, and_true, true_and, and_false, false_and, ne_eq, eq_self, or_self, and_self]) (wpt (by simp (disch := first | omega | decide) only [↓neg1, nlit, rI, rL, rI2, rL1, nI_add, pk_mul, sbT, dvT, nmd, ixT, ↓ibT, ltT, ltF, leT, leF, eqT, eqF, nM_ltT, nM_ltF, nM_leT, nM_leF, nM_eqF, nM_eqF', nbT0, nbT1, oI_s, oI_n, natF, natT, nltT, nltF, nleT, nleF, ↓reduceIte, lgc, not_true_eq_false, not_false_eq_true, or_false, false_or, or_true, true_or, and_true, true_and, and_false, false_and, ne_eq, eq_self, or_self, and_self]) ?_))
      rw [ix_n (by omega)]
      have w4 : sx (fun a i => decide ((a = 174 ∧ i = 128) ∨ (a = 257 ∧ 4 * (q - 1) ≤ i ∧ i < 4 * (q - 1) + 4))) u (pI y 257 (4 * (q - 1) + X) (nI Y)) := sx_pI (sx_wide ysx (fun a i z => by
        have := of_decide_eq_false z
        exact decide_eq_false (by omega))) (decide_eq_true (by omega))
      refine wpl (hk' _ ⟨rfl, sx_wide w4 (fun a i z => ?_), hfin _ ?_ (fun o ho => ?_) ?_ y2 w4⟩)
      · have := of_decide_eq_false z
        exact decide_eq_false (by omega)
      · exact w4.1 256 _ (decide_eq_false (by omega))
      · dsimp only
        rw [rI]
        by_cases eo : o = X
        · rw [if_pos ⟨rfl, by omega⟩, if_pos eo]
        · rw [if_neg (by omega), if_neg eo]
          exact ysx.1 257 _ rfl
      · dsimp only
        rw [rI, if_neg (by omega)]
        exact h128
    by_cases hb2 : mBb m X (nbl (c.2 165 (q - 1)) (8 + X)) Y = true
    · rw [if_pos hb2] at hp
      rw [if_pos hb2]
      refine wpj (wpf (by decide) (step u (Or.inl rfl) ?_))
      rw [hp]
      exact (Int32.add_zero _).symm
    · rw [if_neg hb2] at hp
      rw [if_neg hb2]
      refine wpj (wpt rfl (wpl (step _ (Or.inr rfl) ?_)))
      rw [rI, if_pos ⟨rfl, rfl⟩, hp]
      rfl
  · intro Q' k' hk'
    by_cases hb2 : mBb m X (nbl (c.2 165 (q - 1)) (8 + X)) Y = true
    · rw [if_pos hb2] at hk' ⊢
      exact wpf (by decide) (hk' _ rfl)
    · rw [if_neg hb2] at hk' ⊢
      exact wpt rfl (hk' _ rfl)
end OP3
