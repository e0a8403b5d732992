/-! RUN: a return to a caller -/
section RT1
variable {n fr : Nat} {c m u : cS} {Mf If : Nat → Nat}
theorem ret_1 (hG : PG c m) (hA : AG m u) (hJ : JI c u) (hn : 1000 ≤ n) (h : RN m c u 1 fr Mf If) (h2 : 2 ≤ fr) (e : opn m (40 * Mf (fr - 1) + If (fr - 1)) = 21) : wp (d_311 n (nI (fr - 1)) (nI (fa c (Mf (fr - 1)) + If (fr - 1))) c) (fun d => wp (d_470 n (nI (fr - 1)) (nI (40 * Mf (fr - 1) + If (fr - 1))) u) (fun w => RN m d w 1 (fr - 1) Mf (upF1 If (fr - 2) (If (fr - 2) + 1)) ∧ JI d w ∧ sx (fun a i => decide ((a = 159 ∧ i = 10) ∨ a = 165 ∨ a = 164)) c d ∧ sx (fun a i => decide ((a = 174 ∧ i = 113) ∨ (254 ≤ a ∧ a ≤ 257))) u w)) := by
  have hT := RN_TOP hG hA hJ h
  obtain ⟨a, ha, ha4, hb, c121, u211, c125, hR, hd8, htk, hgv, ho4, hl8, hop⟩ := TOP_x hT
  obtain ⟨-, -, hM, hi, hr, hf0, h255, h254, hV⟩ := id hT
  obtain ⟨a1, ⟨f1, f2⟩, a3, a4, a5, a6, a7, ⟨t1, t2, t3, t4, t5, t6, t7, t8⟩, hF, hS, hfl, a12, a13⟩ := h
  have hO := hG.1.1
  have hC := hG.1.2.2.1
  have tk := tk_of e (by omega)
  rw [show TK 21 = 1 from rfl] at tk
  -- the caller
  obtain ⟨m1, m2, m3, m4, m5, m6, m7, m8, m9⟩ := hF (fr - 2) (by omega)
  rw [if_neg (by omega)] at m8
  have hop' := m9 (by omega)
  have hM96 := isMt_lt hC m1
  have hmt' := (hG.2.2.2.1 _ m1).1
  have hF1 := hmt'.2.2.2.2.2.2.2.2
  have h119 := hmt'.2.2.2.2.2.2.2.1
  have hac' := MTS_ac hG.2.2 m1 m2
  obtain ⟨r1, r2, r3, r4⟩ := id m3
  have hgv' := gv_of hop'
  rw [show GT 20 = 1 from rfl] at hgv'
  have hnx := RCH_nx hG.2.2 m1 m2 m3 (show goesN m (40 * Mf (fr - 2) + If (fr - 2)) from ⟨by omega, by omega⟩)
  have c125' : c.1 125 (fa c (Mf (fr - 2)) + If (fr - 2)) = nI (dpn m (40 * Mf (fr - 2) + If (fr - 2))) := hac'.2.2.2.2.2.1.trans r1
  have hdpb : dpb m (40 * Mf (fr - 2) + If (fr - 2)) = dpn m (40 * Mf (fr - 2) + If (fr - 2)) - tkn m (40 * Mf (fr - 2) + If (fr - 2)) + 1 := by
    unfold dpb
    rw [hgv']
  have h165 : ∀ {y : cS}, (∀ A j, A ≠ 159 → y.1 A j = c.1 A j) → d_165 n (nI (fa c (Mf (fr - 2)) + If (fr - 2))) y = some (nI (tkn m (40 * Mf (fr - 2) + If (fr - 2)))) := fun hy => e165 (fun z => (hy 122 _ (by decide)).trans ((hac'.2.2.2.2.2.2.1.2.2.2.2.1 z).2.2.2.2.2.1)) ((hy 121 _ (by decide)).trans hac'.2.2.1) (by omega) hop'
  rw [← ha]
  generalize hMm : Mf (fr - 1) = M at *
  generalize hI : If (fr - 1) = i at *
  generalize hM2 : Mf (fr - 2) = M' at *
  generalize hI2 : If (fr - 2) = i' at *
  generalize hb2 : 40 * M' + i' = b' at *
  have hq16 : 16 * (fr - 1) + (8 + dpn m (40 * M + i)) - 1 < 16 * fr := by omega
  have s1 := hV.1 (16 * (fr - 1) + (8 + dpn m (40 * M + i)) - 1) (by omega)
  have hfr1 : nI (fr - 1) - 1 = nI (fr - 2) := by
    rw [show nI (fr - 1) - 1 = nI (fr - 1 - 1) from pk_sub (b := 1) (by omega)]
    exact congrArg nI (by omega)
  have htgt : 16 * (fr - 2) + (8 + dpn m b' - tkn m b') < 16 * (fr - 1) := by omega
  unfold d_311
  refine wpt (by simp (disch := first | omega | decide) only [↓neg1, nlit, rI, rL, rI2, rL1, nI_add, pk_mul, sbT, dvT, nmd, ixT, ↓ibT, ltT, ltF, leT, leF, eqT, eqF, nM_ltT, nM_ltF, nM_leT, nM_leF, nM_eqF, nM_eqF', nbT0, nbT1, oI_s, oI_n, natF, natT, nltT, nltF, nleT, nleF, ↓reduceIte, lgc, not_true_eq_false, not_false_eq_true, or_false, false_or, or_true, true_or, and_true, true_and, and_false, false_and, ne_eq, eq_self, or_self, and_self]) ?_
  rw [ix_n (by omega), c125, show nI (fr - 1) * 16 + 8 + nI (dpn m (40 * M + i)) - 1 = nI (16 * (fr - 1) + (8 + dpn m (40 * M + i)) - 1) by
    rw [show (16 : Int32) = nI 16 from rfl, pk_mul, show (8 : Int32) = nI 8 from rfl, nI_add, nI_add, show (1 : Int32) = nI 1 from rfl, pk_sub (by omega)]
    exact congrArg nI (by omega)]
  refine wpt (by simp (disch := first | omega | decide) only [↓neg1, nlit, rI, rL, rI2, rL1, nI_add, pk_mul, sbT, dvT, nmd, ixT, ↓ibT, ltT, ltF, leT, leF, eqT, eqF, nM_ltT, nM_ltF, nM_leT, nM_leF, nM_eqF, nM_eqF', nbT0, nbT1, oI_s, oI_n, natF, natT, nltT, nltF, nleT, nleF, ↓reduceIte, lgc, not_true_eq_false, not_false_eq_true, or_false, false_or, or_true, true_or, and_true, true_and, and_false, false_and, ne_eq, eq_self, or_self, and_self]) ?_
  rw [ix_n (by omega), a5, show nI fr - 1 = nI (fr - 1) from pk_sub (b := 1) (by omega), hfr1]
  refine wpl (wpf (fun z => by
    have := (nI_eq (by omega) (by decide)).mp (show nI (fr - 1) = nI 0 from z)
    omega) (wpl (wpl (wpt (by simp (disch := first | omega | decide) only [↓neg1, nlit, rI, rL, rI2, rL1, nI_add, pk_mul, sbT, dvT, nmd, ixT, ↓ibT, ltT, ltF, leT, leF, eqT, eqF, nM_ltT, nM_ltF, nM_leT, nM_leF, nM_eqF, nM_eqF', nbT0, nbT1, oI_s, oI_n, natF, natT, nltT, nltF, nleT, nleF, ↓reduceIte, lgc, not_true_eq_false, not_false_eq_true, or_false, false_or, or_true, true_or, and_true, true_and, and_false, false_and, ne_eq, eq_self, or_self, and_self]) ?_))))
  have e6 : ∀ A j, A ≠ 159 → (pI c 159 10 (nI (fr - 1))).1 A j = c.1 A j := fun A j z => by rw [rI, if_neg (by omega)]
  have e610 : (pI c 159 10 (nI (fr - 1))).1 159 10 = nI (fr - 1) := by rw [rI, if_pos ⟨rfl, rfl⟩]
  have e612 : (pI c 159 10 (nI (fr - 1))).1 159 12 = c.1 159 12 := by rw [rI, if_neg (by omega)]
  have e62 : (pI c 159 10 (nI (fr - 1))).2 = c.2 := rfl
  have s6 : sx (fun a i => decide ((a = 159 ∧ i = 10) ∨ a = 165 ∨ a = 164)) c (pI c 159 10 (nI (fr - 1))) := sx_pI sx_rfl rfl
  generalize pI c 159 10 (nI (fr - 1)) = c6 at *
  rw [ix_n (by omega), e6 163 _ (by decide), m4]
  refine wpt (by simp (disch := first | omega | decide) only [↓neg1, nlit, rI, rL, rI2, rL1, nI_add, pk_mul, sbT, dvT, nmd, ixT, ↓ibT, ltT, ltF, leT, leF, eqT, eqF, nM_ltT, nM_ltF, nM_leT, nM_leF, nM_eqF, nM_eqF', nbT0, nbT1, oI_s, oI_n, natF, natT, nltT, nltF, nleT, nleF, ↓reduceIte, lgc, not_true_eq_false, not_false_eq_true, or_false, false_or, or_true, true_or, and_true, true_and, and_false, false_and, ne_eq, eq_self, or_self, and_self]) (wpt (by simp (disch := first | omega | decide) only [↓neg1, nlit, rI, rL, rI2, rL1, nI_add, pk_mul, sbT, dvT, nmd, ixT, ↓ibT, ltT, ltF, leT, leF, eqT, eqF, nM_ltT, nM_ltF, nM_leT, nM_leF, nM_eqF, nM_eqF', nbT0, nbT1, oI_s, oI_n, natF, natT, nltT, nltF, nleT, nleF, ↓reduceIte, lgc, not_true_eq_false, not_false_eq_true, or_false, false_or, or_true, true_or, and_true, true_and, and_false, false_and, ne_eq, eq_self, or_self, and_self]) ?_)
  rw [ix_n (by omega), e6 119 _ (by decide), h119, e6 164 _ (by decide), m6, nI_add]
  refine wpl (wpt (by simp (disch := first | omega | decide) only [↓neg1, nlit, rI, rL, rI2, rL1, nI_add, pk_mul, sbT, dvT, nmd, ixT, ↓ibT, ltT, ltF, leT, leF, eqT, eqF, nM_ltT, nM_ltF, nM_leT, nM_leF, nM_eqF, nM_eqF', nbT0, nbT1, oI_s, oI_n, natF, natT, nltT, nltF, nleT, nleF, ↓reduceIte, lgc, not_true_eq_false, not_false_eq_true, or_false, false_or, or_true, true_or, and_true, true_and, and_false, false_and, ne_eq, eq_self, or_self, and_self]) (wpe (h165 e6) ?_))
  rw [ix_n (by omega), e6 125 _ (by decide), c125', show nI (fr - 2) * 16 + 8 + nI (dpn m b') - nI (tkn m b') = nI (16 * (fr - 2) + (8 + dpn m b' - tkn m b')) by
    rw [show (16 : Int32) = nI 16 from rfl, pk_mul, show (8 : Int32) = nI 8 from rfl, nI_add, nI_add, pk_sub (by omega)]
    exact congrArg nI (by omega)]
  refine wpt (by simp (disch := first | omega | decide) only [↓neg1, nlit, rI, rL, rI2, rL1, nI_add, pk_mul, sbT, dvT, nmd, ixT, ↓ibT, ltT, ltF, leT, leF, eqT, eqF, nM_ltT, nM_ltF, nM_leT, nM_leF, nM_eqF, nM_eqF', nbT0, nbT1, oI_s, oI_n, natF, natT, nltT, nltF, nleT, nleF, ↓reduceIte, lgc, not_true_eq_false, not_false_eq_true, or_false, false_or, or_true, true_or, and_true, true_and, and_false, false_and, ne_eq, eq_self, or_self, and_self]) ?_
  rw [ix_n (by omega)]
  refine wpl (wpt (by simp (disch := first | omega | decide) only [↓neg1, nlit, rI, rL, rI2, rL1, nI_add, pk_mul, sbT, dvT, nmd, ixT, ↓ibT, ltT, ltF, leT, leF, eqT, eqF, nM_ltT, nM_ltF, nM_leT, nM_leF, nM_eqF, nM_eqF', nbT0, nbT1, oI_s, oI_n, natF, natT, nltT, nltF, nleT, nleF, ↓reduceIte, lgc, not_true_eq_false, not_false_eq_true, or_false, false_or, or_true, true_or, and_true, true_and, and_false, false_and, ne_eq, eq_self, or_self, and_self]) (wpt (by simp (disch := first | omega | decide) only [↓neg1, nlit, rI, rL, rI2, rL1, nI_add, pk_mul, sbT, dvT, nmd, ixT, ↓ibT, ltT, ltF, leT, leF, eqT, eqF, nM_ltT, nM_ltF, nM_leT, nM_leF, nM_eqF, nM_eqF', nbT0, nbT1, oI_s, oI_n, natF, natT, nltT, nltF, nleT, nleF, ↓reduceIte, lgc, not_true_eq_false, not_false_eq_true, or_false, false_or, or_true, true_or, and_true, true_and, and_false, false_and, ne_eq, eq_self, or_self, and_self]) ?_))
  generalize hq : 16 * (fr - 1) + (8 + dpn m (40 * M + i)) - 1 = q at *
  generalize htg : 16 * (fr - 2) + (8 + dpn m b' - tkn m b') = tg at *
  rw [show (pL c6 165 tg (c.2 165 q)).1 164 (fr - 2) = nI i' from (e6 164 _ (by decide)).trans m6, nI_1]
  refine wpl ?_
  generalize eD : pI (pL c6 165 tg (c.2 165 q)) 164 (fr - 2) (nI (i' + 1)) = d
  have D1 : ∀ A j, A ≠ 159 → ¬ (A = 164 ∧ j = fr - 2) → d.1 A j = c.1 A j := fun A j z1 z2 => by
    rw [← eD, rI, if_neg z2]
    exact e6 A j z1
  have D10 : d.1 159 10 = nI (fr - 1) := by
    rw [← eD, rI, if_neg (by omega)]
    exact e610
  have D12 : d.1 159 12 = c.1 159 12 := by
    rw [← eD, rI, if_neg (by omega)]
    exact e612
  have D164 : d.1 164 (fr - 2) = nI (i' + 1) := by
    rw [← eD, rI, if_pos ⟨rfl, rfl⟩]
  have D2 : ∀ A j, d.2 A j = if A = 165 ∧ j = tg then c.2 165 q else c.2 A j := fun A j => by
    rw [← eD]
    show (pL c6 165 tg (c.2 165 q)).2 A j = _
    rw [rL, e62]
  have sd : sx (fun a i => decide ((a = 159 ∧ i = 10) ∨ a = 165 ∨ a = 164)) c d := by
    rw [← eD]
    exact sx_pI (sx_pL s6 rfl) rfl
  clear eD
  show wp (d_470 n (nI (fr - 1)) (nI (40 * M + i)) u) _
  unfold d_470
  rw [show (16 : Int32) * nI (fr - 1) = nI (16 * (fr - 1)) by rw [show (16 : Int32) = nI 16 from rfl, pk_mul]]
  refine wpl (wpt (by simp (disch := first | omega | decide) only [↓neg1, nlit, rI, rL, rI2, rL1, nI_add, pk_mul, sbT, dvT, nmd, ixT, ↓ibT, ltT, ltF, leT, leF, eqT, eqF, nM_ltT, nM_ltF, nM_leT, nM_leF, nM_eqF, nM_eqF', nbT0, nbT1, oI_s, oI_n, natF, natT, nltT, nltF, nleT, nleF, ↓reduceIte, lgc, not_true_eq_false, not_false_eq_true, or_false, false_or, or_true, true_or, and_true, true_and, and_false, false_and, ne_eq, eq_self, or_self, and_self]) ?_)
  rw [ix_n (by omega), h255, nI_add]
  refine wpl (wpt (by simp (disch := first | omega | decide) only [↓neg1, nlit, rI, rL, rI2, rL1, nI_add, pk_mul, sbT, dvT, nmd, ixT, ↓ibT, ltT, ltF, leT, leF, eqT, eqF, nM_ltT, nM_ltF, nM_leT, nM_leF, nM_eqF, nM_eqF', nbT0, nbT1, oI_s, oI_n, natF, natT, nltT, nltF, nleT, nleF, ↓reduceIte, lgc, not_true_eq_false, not_false_eq_true, or_false, false_or, or_true, true_or, and_true, true_and, and_false, false_and, ne_eq, eq_self, or_self, and_self]) ?_)
  rw [ix_n (by omega)]
  refine wpjQ (fun y : Int32 × cS => y = (nM, u)) ?_ ?_
  · rintro y rfl
    dsimp only
    rw [show nI (16 * (fr - 1) + (8 + dpn m (40 * M + i))) - 1 = nI q by rw [← hq]; exact pk_sub (b := 1) (by omega)]
    refine wpt (by simp (disch := first | omega | decide) only [↓neg1, nlit, rI, rL, rI2, rL1, nI_add, pk_mul, sbT, dvT, nmd, ixT, ↓ibT, ltT, ltF, leT, leF, eqT, eqF, nM_ltT, nM_ltF, nM_leT, nM_leF, nM_eqF, nM_eqF', nbT0, nbT1, oI_s, oI_n, natF, natT, nltT, nltF, nleT, nleF, ↓reduceIte, lgc, not_true_eq_false, not_false_eq_true, or_false, false_or, or_true, true_or, and_true, true_and, and_false, false_and, ne_eq, eq_self, or_self, and_self]) (wpf (by rw [u211, e]; decide) (wpt (by simp (disch := first | omega | decide) only [↓neg1, nlit, rI, rL, rI2, rL1, nI_add, pk_mul, sbT, dvT, nmd, ixT, ↓ibT, ltT, ltF, leT, leF, eqT, eqF, nM_ltT, nM_ltF, nM_leT, nM_leF, nM_eqF, nM_eqF', nbT0, nbT1, oI_s, oI_n, natF, natT, nltT, nltF, nleT, nleF, ↓reduceIte, lgc, not_true_eq_false, not_false_eq_true, or_false, false_or, or_true, true_or, and_true, true_and, and_false, false_and, ne_eq, eq_self, or_self, and_self]) (wpt (by rw [u211, e]; rfl) ?_)))
    have h473 : wp (d_473 n (nI (fr - 1)) (nI q) u) (fun w => w.1 174 113 = nI (fr - 1) ∧ w.1 255 (fr - 2) = nI (8 + dpn m b' - tkn m b' + 1) ∧ w.1 254 (fr - 2) = nI (i' + 1) ∧ w.1 256 tg = u.1 256 q ∧ (∀ o, o < ocn m → w.1 257 (4 * tg + o) = u.1 257 (4 * q + o)) ∧ sx (fun A j => decide ((A = 174 ∧ j = 113) ∨ (A = 254 ∧ j = fr - 2) ∨ (A = 255 ∧ j = fr - 2) ∨ (A = 256 ∧ j = tg) ∨ (A = 257 ∧ 4 * tg ≤ j ∧ j < 4 * tg + 4))) u w) := by
      unfold d_473
      refine wpf (fun z => by
        have := (nI_eq (by omega) (by decide)).mp (show nI (fr - 1) = nI 0 from z)
        omega) ?_
      rw [a6, show nI fr - 1 = nI (fr - 1) from pk_sub (b := 1) (by omega), hfr1]
      refine wpl (wpl (wpt (by simp (disch := first | omega | decide) only [↓neg1, nlit, rI, rL, rI2, rL1, nI_add, pk_mul, sbT, dvT, nmd, ixT, ↓ibT, ltT, ltF, leT, leF, eqT, eqF, nM_ltT, nM_ltF, nM_leT, nM_leF, nM_eqF, nM_eqF', nbT0, nbT1, oI_s, oI_n, natF, natT, nltT, nltF, nleT, nleF, ↓reduceIte, lgc, not_true_eq_false, not_false_eq_true, or_false, false_or, or_true, true_or, and_true, true_and, and_false, false_and, ne_eq, eq_self, or_self, and_self]) ?_))
      have g1 : ∀ A j, A ≠ 174 → (pI u 174 113 (nI (fr - 1))).1 A j = u.1 A j := fun A j z => by rw [rI, if_neg (by omega)]
      have g113 : (pI u 174 113 (nI (fr - 1))).1 174 113 = nI (fr - 1) := by rw [rI, if_pos ⟨rfl, rfl⟩]
      have gs : sx (fun A j => decide ((A = 174 ∧ j = 113) ∨ (A = 254 ∧ j = fr - 2) ∨ (A = 255 ∧ j = fr - 2) ∨ (A = 256 ∧ j = tg) ∨ (A = 257 ∧ 4 * tg ≤ j ∧ j < 4 * tg + 4))) u (pI u 174 113 (nI (fr - 1))) := sx_pI sx_rfl (decide_eq_true (by omega))
      have hA1 : AG m (pI u 174 113 (nI (fr - 1))) := AG_sx (r := qF2 0) hA (sx_pI sx_rfl (decide_eq_true (by omega))) nP_F2
      generalize pI u 174 113 (nI (fr - 1)) = u1 at *
      rw [ix_n (by omega), g1 255 _ (by decide), m8, show (16 : Int32) * nI (fr - 2) + nI (8 + dpn m b' - tkn m b') = nI tg by rw [show (16 : Int32) = nI 16 from rfl, pk_mul, nI_add, htg]]
      refine wpc (e467 hn (by omega) (by omega) hA1 hO) (fun x hx => wpt (by simp (disch := first | omega | decide) only [↓neg1, nlit, rI, rL, rI2, rL1, nI_add, pk_mul, sbT, dvT, nmd, ixT, ↓ibT, ltT, ltF, leT, leF, eqT, eqF, nM_ltT, nM_ltF, nM_leT, nM_leF, nM_eqF, nM_eqF', nbT0, nbT1, oI_s, oI_n, natF, natT, nltT, nltF, nleT, nleF, ↓reduceIte, lgc, not_true_eq_false, not_false_eq_true, or_false, false_or, or_true, true_or, and_true, true_and, and_false, false_and, ne_eq, eq_self, or_self, and_self]) (wpt (by simp (disch := first | omega | decide) only [↓neg1, nlit, rI, rL, rI2, rL1, nI_add, pk_mul, sbT, dvT, nmd, ixT, ↓ibT, ltT, ltF, leT, leF, eqT, eqF, nM_ltT, nM_ltF, nM_leT, nM_leF, nM_eqF, nM_eqF', nbT0, nbT1, oI_s, oI_n, natF, natT, nltT, nltF, nleT, nleF, ↓reduceIte, lgc, not_true_eq_false, not_false_eq_true, or_false, false_or, or_true, true_or, and_true, true_and, and_false, false_and, ne_eq, eq_self, or_self, and_self]) ?_))
      obtain ⟨x1, x2, x3⟩ := hx
      rw [x3.1 255 (fr - 2) (decide_eq_false (by omega)), g1 255 _ (by decide), m8, nI_1]
      refine wpl (wpt (by simp (disch := first | omega | decide) only [↓neg1, nlit, rI, rL, rI2, rL1, nI_add, pk_mul, sbT, dvT, nmd, ixT, ↓ibT, ltT, ltF, leT, leF, eqT, eqF, nM_ltT, nM_ltF, nM_leT, nM_leF, nM_eqF, nM_eqF', nbT0, nbT1, oI_s, oI_n, natF, natT, nltT, nltF, nleT, nleF, ↓reduceIte, lgc, not_true_eq_false, not_false_eq_true, or_false, false_or, or_true, true_or, and_true, true_and, and_false, false_and, ne_eq, eq_self, or_self, and_self]) (wpt (by simp (disch := first | omega | decide) only [↓neg1, nlit, rI, rL, rI2, rL1, nI_add, pk_mul, sbT, dvT, nmd, ixT, ↓ibT, ltT, ltF, leT, leF, eqT, eqF, nM_ltT, nM_ltF, nM_leT, nM_leF, nM_eqF, nM_eqF', nbT0, nbT1, oI_s, oI_n, natF, natT, nltT, nltF, nleT, nleF, ↓reduceIte, lgc, not_true_eq_false, not_false_eq_true, or_false, false_or, or_true, true_or, and_true, true_and, and_false, false_and, ne_eq, eq_self, or_self, and_self]) ?_))
      rw [show (pI x 255 (fr - 2) (nI (8 + dpn m b' - tkn m b' + 1))).1 254 (fr - 2) = nI i' by
        rw [rI, if_neg (by omega), x3.1 254 (fr - 2) (decide_eq_false (by omega)), g1 254 _ (by decide)]
        exact m7, nI_1]
      refine wpl ⟨?_, ?_, ?_, ?_, fun o ho => ?_, ?_⟩
      · rw [rI, if_neg (by omega), rI, if_neg (by omega), x3.1 174 113 (decide_eq_false (by omega))]
        exact g113
      · rw [rI, if_neg (by omega), rI, if_pos ⟨rfl, rfl⟩]
      · rw [rI, if_pos ⟨rfl, rfl⟩]
      · rw [rI, if_neg (by omega), rI, if_neg (by omega), x1]
        exact g1 256 _ (by decide)
      · rw [rI, if_neg (by omega), rI, if_neg (by omega), x2 o ho]
        exact g1 257 _ (by decide)
      · exact sx_pI (sx_pI (sx_trans gs (sx_wide x3 (fun a i z => by
          have := of_decide_eq_false z
          exact decide_eq_false (by omega)))) (decide_eq_true (by omega))) (decide_eq_true (by omega))
    refine wpc h473 (fun w hw => ?_)
    obtain ⟨w1, w2, w3, w4, w5, w6⟩ := hw
    have U1 : ∀ A j, ¬ ((A = 174 ∧ j = 113) ∨ (A = 254 ∧ j = fr - 2) ∨ (A = 255 ∧ j = fr - 2) ∨ (A = 256 ∧ j = tg) ∨ (A = 257 ∧ 4 * tg ≤ j ∧ j < 4 * tg + 4)) → w.1 A j = u.1 A j := fun A j z => w6.1 A j (decide_eq_false z)
    refine ⟨⟨a1, ⟨by omega, by omega⟩, (D1 162 0 (by decide) (by omega)).trans a3, (U1 174 111 (by omega)).trans a4, D10, w1, ?_, ⟨?_, ?_, ?_, ?_, ?_, ?_, ?_, ?_⟩, fun j hj => ?_, fun p hp => ?_, fun x y hx hy => ?_, (fun z => by cases z), ?_⟩, ?_, sd, sx_wide w6 (fun a i z => ?_)⟩
    · rw [D12, U1 174 112 (by omega)]
      exact a7
    · rw [D1 162 1 (by decide) (by omega)]
      rw [if_neg (by decide)] at t1 ⊢
      exact t1
    · rw [D1 162 2 (by decide) (by omega), U1 174 123 (by omega)]
      exact t2
    · rw [D1 162 6 (by decide) (by omega), U1 174 124 (by omega)]
      exact t3
    · rw [D1 162 7 (by decide) (by omega), U1 174 125 (by omega)]
      exact t4
    · rw [D1 162 8 (by decide) (by omega), U1 174 126 (by omega)]
      exact t5
    · rw [D1 162 9 (by decide) (by omega), U1 174 127 (by omega)]
      exact t6
    · rw [D1 162 10 (by decide) (by omega), U1 174 128 (by omega)]
      exact t7
    · rw [D1 162 11 (by decide) (by omega), U1 174 129 (by omega)]
      exact t8
    · unfold FRM
      by_cases e1 : j = fr - 2
      · subst e1
        rw [up_eq, hM2]
        refine ⟨m1, hnx.1, hnx.2.1, (D1 163 _ (by decide) (by omega)).trans m4, (U1 253 _ (by omega)).trans m5, D164, w3, ?_, fun z => by omega⟩
        rw [if_pos (by omega), w2, hnx.2.2, hdpb]
        exact congrArg nI (by omega)
      · obtain ⟨k1, k2, k3, k4, k5, k6, k7, k8, k9⟩ := hF j (by omega)
        rw [up_ne e1]
        refine ⟨k1, k2, k3, (D1 163 _ (by decide) (by omega)).trans k4, (U1 253 _ (by omega)).trans k5, (D1 164 _ (by decide) (by omega)).trans k6, (U1 254 _ (by omega)).trans k7, ?_, fun z => k9 (by omega)⟩
        rw [if_neg (by omega)] at k8 ⊢
        exact (U1 255 _ (by omega)).trans k8
    · unfold SLq
      by_cases e1 : p = tg
      · subst e1
        rw [D2, if_pos ⟨rfl, rfl⟩]
        exact SL_cg s1 rfl w4 w5
      · rw [D2, if_neg (by omega)]
        exact SL_cg (hS p (by omega)) rfl (U1 256 _ (by omega)) (fun o ho => U1 257 _ (by omega))
    · unfold SLf
      rw [D2, if_neg (by omega)]
      exact SL_cg (hfl x y hx hy) rfl (U1 258 _ (by omega)) (fun o ho => U1 259 _ (by omega))
    · unfold BLK
      rw [D2, if_neg (by omega)]
      exact a13
    · exact JI_sx hJ sd w6 (decide_eq_false (by omega)) (fun i => decide_eq_false (by omega)) (decide_eq_false (by omega)) (fun i => decide_eq_false (by omega))
    · have := of_decide_eq_false z
      exact decide_eq_false (by omega)
  · intro Q' k' hk'
    rw [u211]
    (try dsimp only); repeat (first | with_reducible refine wpl ?_ | with_reducible refine wpj ?_ | with_reducible refine wpSl ?_ | with_reducible refine wpSr ?_ | with_reducible refine wpS ?_ | ((with_reducible refine wpt ?_ ?_); · simp (disch := first | omega | decide) only [↓neg1, nlit, rI, rL, rI2, rL1, nI_add, pk_mul, sbT, dvT, nmd, ixT, ↓ibT, ltT, ltF, leT, leF, eqT, eqF, nM_ltT, nM_ltF, nM_leT, nM_leF, nM_eqF, nM_eqF', nbT0, nbT1, oI_s, oI_n, natF, natT, nltT, nltF, nleT, nleF, ↓reduceIte, lgc, not_true_eq_false, not_false_eq_true, or_false, false_or, or_true, true_or, and_true, true_and, and_false, false_and, ne_eq, eq_self, or_self, and_self]; done) | ((with_reducible refine wpf ?_ ?_); · simp (disch := first | omega | decide) only [↓neg1, nlit, rI, rL, rI2, rL1, nI_add, pk_mul, sbT, dvT, nmd, ixT, ↓ibT, ltT, ltF, leT, leF, eqT, eqF, nM_ltT, nM_ltF, nM_leT, nM_leF, nM_eqF, nM_eqF', nbT0, nbT1, oI_s, oI_n, natF, natT, nltT, nltF, nleT, nleF, ↓reduceIte, lgc, not_true_eq_false, not_false_eq_true, or_false, false_or, or_true, true_or, and_true, true_and, and_false, false_and, ne_eq, eq_self, or_self, and_self]; done))
    exact hk' _ rfl
end RT1
