/-! RUN: calls and returns, both -/
section RT
variable {n fr : Nat} {c m u : cS} {Mf If : Nat → Nat}
theorem up_eq {F : Nat → Nat} {p v : Nat} : upF1 F p v p = v := if_pos rfl
theorem up_ne {F : Nat → Nat} {p v q : Nat} (h : q ≠ p) : upF1 F p v q = F q := if_neg h
theorem call_go (hn : 10000 ≤ n) (hG : PG c m) (hA : AG m u) (hJ : JI c u) (h : RN m c u 1 fr Mf If) (h12 : fr < 12) (e : opn m (40 * Mf (fr - 1) + If (fr - 1)) = 20) : wp (d_310 n (nI (fr - 1)) (nI (fa c (Mf (fr - 1)) + If (fr - 1))) c) (fun d => wp (d_470 n (nI (fr - 1)) (nI (40 * Mf (fr - 1) + If (fr - 1))) u) (fun w => RN m d w 1 (fr + 1) (upF1 Mf fr (8 * xN m (40 * Mf (fr - 1) + If (fr - 1)) + yN m (40 * Mf (fr - 1) + If (fr - 1)))) (upF1 If fr 0) ∧ JI d w ∧ sx (qF1 fr) c d ∧ sx (qCr (fr - 1)) u w)) := by
  have hT := RN_TOP hG hA hJ h
  obtain ⟨a, ha, ha4, hb, c121, u211, c125, hR, hd8, htk, hgv, ho4, hl8, hop⟩ := TOP_x hT
  obtain ⟨a1, ⟨f1, f2⟩, a3, a4, a5, a6, a7, ⟨t1, t2, t3, t4, t5, t6, t7, t8⟩, hF, hS, hfl, a12, a13⟩ := h
  have hf : fr - 1 + 1 = fr := by omega
  have h1 := e310 (n := n) hn hT e (by omega) (by rw [hf]; exact a5)
  have h2 := call_r (n := n) (by omega) hT e (by omega) (by rw [hf]; exact a6)
  have hO := hG.1.1
  have hC := hG.1.2.2.1
  have hx := hR.2.2.2.2.1 e
  rw [hf] at h1 h2
  generalize hM : Mf (fr - 1) = M at *
  generalize hI : If (fr - 1) = i at *
  have hM' : isMt m (8 * xN m (40 * M + i) + yN m (40 * M + i)) := by
    have hq8 := (hC.1.2.2.2.2.1 _ hx.1).1
    have hx2 := hx.2.1
    refine ⟨?_, ?_⟩
    · rw [show (8 * xN m (40 * M + i) + yN m (40 * M + i)) / 8 = xN m (40 * M + i) by omega]
      exact hx.1
    · rw [show (8 * xN m (40 * M + i) + yN m (40 * M + i)) / 8 = xN m (40 * M + i) by omega, show (8 * xN m (40 * M + i) + yN m (40 * M + i)) % 8 = yN m (40 * M + i) by omega]
      exact hx.2.1
  generalize 8 * xN m (40 * M + i) + yN m (40 * M + i) = M' at *
  obtain ⟨r1, r2⟩ := RCH_0 hG.2.2 hM'
  have hn1 := ((hG.2.2.2.1 M' hM').1).1.1
  refine wp_mono h1 (fun d hd => wp_mono h2 (fun w hw => ?_))
  obtain ⟨d1, d2, d3, d4, d5⟩ := hd
  obtain ⟨w1, w2, w3, w4, w5, w6, w7⟩ := hw
  have C1 : ∀ A j, ¬ ((A = 163 ∧ j = fr) ∨ (A = 164 ∧ j = fr) ∨ (A = 165 ∧ 16 * fr ≤ j ∧ j < 16 * fr + 16) ∨ (A = 159 ∧ j = 10)) → d.1 A j = c.1 A j := fun A j z => d5.1 A j (decide_eq_false z)
  have C2 : ∀ A j, ¬ ((A = 163 ∧ j = fr) ∨ (A = 164 ∧ j = fr) ∨ (A = 165 ∧ 16 * fr ≤ j ∧ j < 16 * fr + 16) ∨ (A = 159 ∧ j = 10)) → d.2 A j = c.2 A j := fun A j z => d5.2 A j (decide_eq_false z)
  have U1 : ∀ A j, ¬ ((A = 255 ∧ j = fr - 1) ∨ (253 ≤ A ∧ A ≤ 255 ∧ j = fr) ∨ (A = 256 ∧ 16 * fr ≤ j ∧ j < 16 * fr + 16) ∨ (A = 257 ∧ 64 * fr ≤ j ∧ j < 64 * fr + 64) ∨ (A = 174 ∧ j = 113)) → w.1 A j = u.1 A j := fun A j z => w7.1 A j (decide_eq_false (by rw [hf]; exact z))
  refine ⟨⟨a1, ⟨by omega, by omega⟩, (C1 162 0 (by omega)).trans a3, (U1 174 111 (by omega)).trans a4, ?_, ?_, ?_, ⟨?_, ?_, ?_, ?_, ?_, ?_, ?_, ?_⟩, fun j hj => ?_, fun q hq => ?_, fun x y hx hy => ?_, (fun z => by cases z), ?_⟩, ?_, d5, w7⟩
  · rw [d3]
    exact congrArg nI (by omega)
  · rw [w5]
    exact congrArg nI (by omega)
  · rw [C1 159 12 (by omega), U1 174 112 (by omega)]
    exact a7
  · rw [C1 162 1 (by omega)]
    rw [if_neg (by decide)] at t1 ⊢
    exact t1
  · rw [C1 162 2 (by omega), U1 174 123 (by omega)]
    exact t2
  · rw [C1 162 6 (by omega), U1 174 124 (by omega)]
    exact t3
  · rw [C1 162 7 (by omega), U1 174 125 (by omega)]
    exact t4
  · rw [C1 162 8 (by omega), U1 174 126 (by omega)]
    exact t5
  · rw [C1 162 9 (by omega), U1 174 127 (by omega)]
    exact t6
  · rw [C1 162 10 (by omega), U1 174 128 (by omega)]
    exact t7
  · rw [C1 162 11 (by omega), U1 174 129 (by omega)]
    exact t8
  · unfold FRM
    by_cases e1 : j = fr
    · subst e1
      rw [up_eq, up_eq]
      refine ⟨hM', by omega, r1, d1, w1, d2, w2, ?_, fun z => by omega⟩
      rw [if_pos rfl, w3, r2]
    · obtain ⟨m1, m2, m3, m4, m5, m6, m7, m8, m9⟩ := hF j (by omega)
      rw [up_ne e1, up_ne e1]
      refine ⟨m1, m2, m3, (C1 163 _ (by omega)).trans m4, (U1 253 _ (by omega)).trans m5, (C1 164 _ (by omega)).trans m6, (U1 254 _ (by omega)).trans m7, ?_, fun _ => ?_⟩
      · rw [if_neg (by omega)]
        by_cases e2 : j = fr - 1
        · subst e2
          rw [hM, hI]
          exact w4
        · rw [if_neg (by omega)] at m8
          exact (U1 255 _ (by omega)).trans m8
      · by_cases e2 : j = fr - 1
        · subst e2
          rw [hM, hI]
          exact e
        · exact m9 (by omega)
  · unfold SLq
    by_cases e1 : q < 16 * fr
    · refine SL_cg (hS q e1) (C2 165 _ (by omega)) (U1 256 _ (by omega)) (fun o ho => U1 257 _ (by omega))
    · have hs := d4 (q - 16 * fr) (by omega)
      have hw := w6 (q - 16 * fr) (by omega)
      rw [show 16 * fr + (q - 16 * fr) = q by omega] at hs hw
      by_cases e2 : q - 16 * fr < tkn m (40 * M + i)
      · rw [if_pos e2] at hs hw
        exact SL_cg (hS _ (by omega)) hs hw.1 hw.2
      · rw [if_neg e2] at hs hw
        rw [hs, hw.1]
        exact SL_bl rfl a13.1 a13.2 (fun o ho => ⟨(bot_lt hO ho).1, (bot_lt hO ho).2.1⟩) hw.2
  · exact SL_cg (hfl x y hx hy) (C2 166 _ (by omega)) (U1 258 _ (by omega)) (fun o ho => U1 259 _ (by omega))
  · unfold BLK
    rw [C2 159 14 (by omega)]
    exact a13
  · exact JI_sx hJ d5 w7 (decide_eq_false (by omega)) (fun i => decide_eq_false (by omega)) (decide_eq_false (by omega)) (fun i => decide_eq_false (by omega))
/-- the class leaves a METHOD -/
theorem ret_0 (hG : PG c m) (hA : AG m u) (hJ : JI c u) (hn : 1000 ≤ n) (h : RN m c u 1 1 Mf If) (e : opn m (40 * Mf 0 + If 0) = 21) : wp (d_311 n (nI 0) (nI (fa c (Mf 0) + If 0)) c) (fun d => wp (d_470 n (nI 0) (nI (40 * Mf 0 + If 0)) u) (fun w => RN m d w 2 1 Mf If ∧ JI d w ∧ sx (fun a i => decide ((a = 162 ∧ i ≤ 1) ∨ (a = 159 ∧ i = 13))) c d ∧ sx (fun a i => decide ((a = 174 ∧ (i = 111 ∨ i = 121)) ∨ a = 260)) u w)) := by
  have hT : TOP m c u 0 (Mf 0) (If 0) := RN_TOP hG hA hJ h
  obtain ⟨a, ha, ha4, hb, c121, u211, c125, hR, hd8, htk, hgv, ho4, hl8, hop⟩ := TOP_x hT
  obtain ⟨-, -, hM, hi, hr, hf0, h255, h254, hV⟩ := id hT
  obtain ⟨a1, ⟨f1, f2⟩, a3, a4, a5, a6, a7, ⟨t1, t2, t3, t4, t5, t6, t7, t8⟩, hF, hS, hfl, a12, a13⟩ := h
  have hO := hG.1.1
  have tk := tk_of e (by omega)
  rw [show TK 21 = 1 from rfl] at tk
  have h15 : u.1 174 15 = nI (ocn m) := (hA.2.2.1 15 rfl).trans hO.2.2.1
  rw [← ha]
  generalize hMm : Mf 0 = M at *
  generalize hI : If 0 = i at *
  have s1 := hV.1 (8 + dpn m (40 * M + i) - 1) (by omega)
  have i0 : ix (0 : Int32) = 0 := by decide
  have i1 : ix (1 : Int32) = 1 := by decide
  have z0 : (0 : Int32) = nI 0 := rfl
  unfold d_311
  refine wpt (by simp (disch := first | omega | decide) only [↓neg1, nlit, rI, rL, rI2, rL1, nI_add, pk_mul, sbT, dvT, nmd, ixT, ↓ibT, ltT, ltF, leT, leF, eqT, eqF, nM_ltT, nM_ltF, nM_leT, nM_leF, nM_eqF, nM_eqF', nbT0, nbT1, oI_s, oI_n, natF, natT, nltT, nltF, nleT, nleF, ↓reduceIte, lgc, not_true_eq_false, not_false_eq_true, or_false, false_or, or_true, true_or, and_true, true_and, and_false, false_and, ne_eq, eq_self, or_self, and_self]) ?_
  rw [ix_n (by omega), c125, show nI 0 * 16 + 8 + nI (dpn m (40 * M + i)) - 1 = nI (8 + dpn m (40 * M + i) - 1) by
    rw [show nI 0 * 16 + 8 = nI 8 by decide, nI_add]
    exact pk_sub (b := 1) (by omega)]
  refine wpt (by simp (disch := first | omega | decide) only [↓neg1, nlit, rI, rL, rI2, rL1, nI_add, pk_mul, sbT, dvT, nmd, ixT, ↓ibT, ltT, ltF, leT, leF, eqT, eqF, nM_ltT, nM_ltF, nM_leT, nM_leF, nM_eqF, nM_eqF', nbT0, nbT1, oI_s, oI_n, natF, natT, nltT, nltF, nleT, nleF, ↓reduceIte, lgc, not_true_eq_false, not_false_eq_true, or_false, false_or, or_true, true_or, and_true, true_and, and_false, false_and, ne_eq, eq_self, or_self, and_self]) ?_
  rw [ix_n (by omega)]
  refine wpl (wpt rfl (wpt (by decide) (wpl (wpt (by decide) (wpl (wpl ?_))))))
  rw [i0, i1]
  generalize hq : 8 + dpn m (40 * M + i) - 1 = q at *
  have hq16 : q < 16 := by omega
  generalize eD : pL (pI (pI c 162 0 2) 162 1 (c.2 165 q).toInt32) 159 13 (c.2 165 q) = d
  have C1 : ∀ A j, ¬ (A = 162 ∧ j ≤ 1) → d.1 A j = c.1 A j := fun A j z => by
    rw [← eD]
    show (pI (pI c 162 0 2) 162 1 (c.2 165 q).toInt32).1 A j = _
    rw [rI, if_neg (by omega), rI, if_neg (by omega)]
  have C2 : ∀ A j, ¬ (A = 159 ∧ j = 13) → d.2 A j = c.2 A j := fun A j z => by
    rw [← eD, rL, if_neg z]
    rfl
  have d0 : d.1 162 0 = nI 2 := by
    rw [← eD]
    show (pI (pI c 162 0 2) 162 1 (c.2 165 q).toInt32).1 162 0 = _
    rw [rI, if_neg (by omega), rI, if_pos ⟨rfl, rfl⟩]
    rfl
  have d1 : d.1 162 1 = (c.2 165 q).toInt32 := by
    rw [← eD]
    show (pI (pI c 162 0 2) 162 1 (c.2 165 q).toInt32).1 162 1 = _
    rw [rI, if_pos ⟨rfl, rfl⟩]
  have d13 : d.2 159 13 = c.2 165 q := by
    rw [← eD, rL, if_pos ⟨rfl, rfl⟩]
  have sd : sx (fun a i => decide ((a = 162 ∧ i ≤ 1) ∨ (a = 159 ∧ i = 13))) c d := by
    rw [← eD]
    exact sx_pL (sx_pI (sx_pI sx_rfl rfl) rfl) rfl
  clear eD
  show wp (d_470 n (nI 0) (nI (40 * M + i)) u) _
  unfold d_470
  rw [show (16 : Int32) * nI 0 = nI 0 by decide]
  refine wpl (wpt (by decide) ?_)
  rw [show ix (nI 0) = 0 by decide, h255, show nI 0 + nI (8 + dpn m (40 * M + i)) = nI (8 + dpn m (40 * M + i)) by rw [nI_add]; exact congrArg nI (by omega)]
  refine wpl (wpt (by simp (disch := first | omega | decide) only [↓neg1, nlit, rI, rL, rI2, rL1, nI_add, pk_mul, sbT, dvT, nmd, ixT, ↓ibT, ltT, ltF, leT, leF, eqT, eqF, nM_ltT, nM_ltF, nM_leT, nM_leF, nM_eqF, nM_eqF', nbT0, nbT1, oI_s, oI_n, natF, natT, nltT, nltF, nleT, nleF, ↓reduceIte, lgc, not_true_eq_false, not_false_eq_true, or_false, false_or, or_true, true_or, and_true, true_and, and_false, false_and, ne_eq, eq_self, or_self, and_self]) ?_)
  rw [ix_n (by omega)]
  refine wpjQ (fun y : Int32 × cS => y = (nM, u)) ?_ ?_
  · rintro y rfl
    dsimp only
    rw [show nI (8 + dpn m (40 * M + i)) - 1 = nI q by rw [← hq]; exact pk_sub (b := 1) (by omega)]
    refine wpt (by simp (disch := first | omega | decide) only [↓neg1, nlit, rI, rL, rI2, rL1, nI_add, pk_mul, sbT, dvT, nmd, ixT, ↓ibT, ltT, ltF, leT, leF, eqT, eqF, nM_ltT, nM_ltF, nM_leT, nM_leF, nM_eqF, nM_eqF', nbT0, nbT1, oI_s, oI_n, natF, natT, nltT, nltF, nleT, nleF, ↓reduceIte, lgc, not_true_eq_false, not_false_eq_true, or_false, false_or, or_true, true_or, and_true, true_and, and_false, false_and, ne_eq, eq_self, or_self, and_self]) (wpf (by rw [u211, e]; decide) (wpt (by simp (disch := first | omega | decide) only [↓neg1, nlit, rI, rL, rI2, rL1, nI_add, pk_mul, sbT, dvT, nmd, ixT, ↓ibT, ltT, ltF, leT, leF, eqT, eqF, nM_ltT, nM_ltF, nM_leT, nM_leF, nM_eqF, nM_eqF', nbT0, nbT1, oI_s, oI_n, natF, natT, nltT, nltF, nleT, nleF, ↓reduceIte, lgc, not_true_eq_false, not_false_eq_true, or_false, false_or, or_true, true_or, and_true, true_and, and_false, false_and, ne_eq, eq_self, or_self, and_self]) (wpt (by rw [u211, e]; rfl) ?_)))
    have h473 : wp (d_473 n (nI 0) (nI q) u) (fun w => w.1 174 111 = nI 2 ∧ w.1 174 121 = u.1 256 q ∧ (∀ o, o < ocn m → w.1 260 o = u.1 257 (4 * q + o)) ∧ sx (fun a i => decide ((a = 174 ∧ (i = 111 ∨ i = 121)) ∨ a = 260)) u w) := by
      unfold d_473
      refine wpt rfl (wpl (wpt (by simp (disch := first | omega | decide) only [↓neg1, nlit, rI, rL, rI2, rL1, nI_add, pk_mul, sbT, dvT, nmd, ixT, ↓ibT, ltT, ltF, leT, leF, eqT, eqF, nM_ltT, nM_ltF, nM_leT, nM_leF, nM_eqF, nM_eqF', nbT0, nbT1, oI_s, oI_n, natF, natT, nltT, nltF, nleT, nleF, ↓reduceIte, lgc, not_true_eq_false, not_false_eq_true, or_false, false_or, or_true, true_or, and_true, true_and, and_false, false_and, ne_eq, eq_self, or_self, and_self]) ?_))
      rw [ix_n (by omega), show (pI u 174 111 2).1 256 q = u.1 256 q by rw [rI, if_neg (by omega)]]
      refine wpl ?_
      have g111 : (pI (pI u 174 111 2) 174 121 (u.1 256 q)).1 174 111 = nI 2 := by
        rw [rI, if_neg (by omega), rI, if_pos ⟨rfl, rfl⟩]
        rfl
      have g121 : (pI (pI u 174 111 2) 174 121 (u.1 256 q)).1 174 121 = u.1 256 q := by
        rw [rI, if_pos ⟨rfl, rfl⟩]
      have gs : sx (fun a i => decide ((a = 174 ∧ (i = 111 ∨ i = 121)) ∨ a = 260)) u (pI (pI u 174 111 2) 174 121 (u.1 256 q)) := sx_pI (sx_pI sx_rfl rfl) rfl
      generalize pI (pI u 174 111 2) 174 121 (u.1 256 q) = u1 at *
      refine wpc (K' := fun w : cS => (∀ o, o < ocn m → w.1 260 o = u.1 257 (4 * q + o)) ∧ sx (fun a i => decide (a = 260)) u1 w) (whl_cnt (fun o (st : Int32 × cS) => st.1 = nI o ∧ (∀ o', o' < o → st.2.1 260 o' = u.1 257 (4 * q + o')) ∧ sx (fun a i => decide (a = 260)) u1 st.2) (ocn m) ?_ ?_ (by omega) ⟨rfl, fun o ho => by omega, sx_rfl⟩) (fun w hw => ⟨(hw.2.1 174 111 rfl).trans g111, (hw.2.1 174 121 rfl).trans g121, hw.1, sx_trans gs (sx_wide hw.2 (fun a i z => ?_))⟩)
      · rintro o ⟨o0, w⟩ ho ⟨k1, k2, k3⟩
        dsimp only at k1 k2 k3
        subst k1
        dsimp only
        rw [(k3.1 174 15 rfl).trans ((gs.1 174 15 rfl).trans h15), show (4 : Int32) * nI q + nI o = nI (4 * q + o) by rw [show (4 : Int32) = nI 4 from rfl, pk_mul, nI_add]]
        refine wpf (by simp (disch := first | omega | decide) only [↓neg1, nlit, rI, rL, rI2, rL1, nI_add, pk_mul, sbT, dvT, nmd, ixT, ↓ibT, ltT, ltF, leT, leF, eqT, eqF, nM_ltT, nM_ltF, nM_leT, nM_leF, nM_eqF, nM_eqF', nbT0, nbT1, oI_s, oI_n, natF, natT, nltT, nltF, nleT, nleF, ↓reduceIte, lgc, not_true_eq_false, not_false_eq_true, or_false, false_or, or_true, true_or, and_true, true_and, and_false, false_and, ne_eq, eq_self, or_self, and_self]) (wpt (by simp (disch := first | omega | decide) only [↓neg1, nlit, rI, rL, rI2, rL1, nI_add, pk_mul, sbT, dvT, nmd, ixT, ↓ibT, ltT, ltF, leT, leF, eqT, eqF, nM_ltT, nM_ltF, nM_leT, nM_leF, nM_eqF, nM_eqF', nbT0, nbT1, oI_s, oI_n, natF, natT, nltT, nltF, nleT, nleF, ↓reduceIte, lgc, not_true_eq_false, not_false_eq_true, or_false, false_or, or_true, true_or, and_true, true_and, and_false, false_and, ne_eq, eq_self, or_self, and_self]) (wpt (by simp (disch := first | omega | decide) only [↓neg1, nlit, rI, rL, rI2, rL1, nI_add, pk_mul, sbT, dvT, nmd, ixT, ↓ibT, ltT, ltF, leT, leF, eqT, eqF, nM_ltT, nM_ltF, nM_leT, nM_leF, nM_eqF, nM_eqF', nbT0, nbT1, oI_s, oI_n, natF, natT, nltT, nltF, nleT, nleF, ↓reduceIte, lgc, not_true_eq_false, not_false_eq_true, or_false, false_or, or_true, true_or, and_true, true_and, and_false, false_and, ne_eq, eq_self, or_self, and_self]) ?_))
        rw [ix_n (by omega), ix_n (by omega), (k3.1 257 _ rfl).trans (gs.1 257 _ rfl)]
        refine wpl (wpl ⟨nI_1 _, fun o' ho' => ?_, sx_pI k3 rfl⟩)
        dsimp only
        rw [rI]
        by_cases eo : o' = o
        · rw [if_pos ⟨rfl, eo⟩, eo]
        · rw [if_neg (fun z => eo z.2)]
          exact k2 o' (by omega)
      · rintro ⟨o0, w⟩ ⟨k1, k2, k3⟩
        dsimp only at k1 k2 k3
        subst k1
        dsimp only
        rw [(k3.1 174 15 rfl).trans ((gs.1 174 15 rfl).trans h15)]
        exact wpt (by simp (disch := first | omega | decide) only [↓neg1, nlit, rI, rL, rI2, rL1, nI_add, pk_mul, sbT, dvT, nmd, ixT, ↓ibT, ltT, ltF, leT, leF, eqT, eqF, nM_ltT, nM_ltF, nM_leT, nM_leF, nM_eqF, nM_eqF', nbT0, nbT1, oI_s, oI_n, natF, natT, nltT, nltF, nleT, nleF, ↓reduceIte, lgc, not_true_eq_false, not_false_eq_true, or_false, false_or, or_true, true_or, and_true, true_and, and_false, false_and, ne_eq, eq_self, or_self, and_self]) ⟨k2, k3⟩
      · have := of_decide_eq_false z
        exact decide_eq_false (by omega)
    refine wpc h473 (fun w hw => ?_)
    obtain ⟨w1, w2, w3, w4⟩ := hw
    have U1 : ∀ A j, ¬ ((A = 174 ∧ (j = 111 ∨ j = 121)) ∨ A = 260) → w.1 A j = u.1 A j := fun A j z => w4.1 A j (decide_eq_false z)
    refine ⟨⟨⟨by decide, by decide⟩, ⟨f1, f2⟩, d0, w1, (C1 159 10 (by omega)).trans a5, (U1 174 113 (by omega)).trans a6, ?_, ⟨?_, ?_, ?_, ?_, ?_, ?_, ?_, ?_⟩, fun j hj => ?_, fun p hp => ?_, fun x y hx hy => ?_, fun _ o ho => ?_, ?_⟩, ?_, sd, w4⟩
    · rw [C1 159 12 (by omega), U1 174 112 (by omega)]
      exact a7
    · rw [if_pos rfl, d1, w2]
      exact s1.1
    · rw [C1 162 2 (by omega), U1 174 123 (by omega)]
      exact t2
    · rw [C1 162 6 (by omega), U1 174 124 (by omega)]
      exact t3
    · rw [C1 162 7 (by omega), U1 174 125 (by omega)]
      exact t4
    · rw [C1 162 8 (by omega), U1 174 126 (by omega)]
      exact t5
    · rw [C1 162 9 (by omega), U1 174 127 (by omega)]
      exact t6
    · rw [C1 162 10 (by omega), U1 174 128 (by omega)]
      exact t7
    · rw [C1 162 11 (by omega), U1 174 129 (by omega)]
      exact t8
    · obtain ⟨m1, m2, m3, m4, m5, m6, m7, m8, m9⟩ := hF j hj
      exact ⟨m1, m2, m3, (C1 163 _ (by omega)).trans m4, (U1 253 _ (by omega)).trans m5, (C1 164 _ (by omega)).trans m6, (U1 254 _ (by omega)).trans m7, (U1 255 _ (by omega)).trans m8, m9⟩
    · exact SL_cg (hS p hp) (C2 165 _ (by omega)) (U1 256 _ (by omega)) (fun o ho => U1 257 _ (by omega))
    · exact SL_cg (hfl x y hx hy) (C2 166 _ (by omega)) (U1 258 _ (by omega)) (fun o ho => U1 259 _ (by omega))
    · rw [w3 o ho, d13]
      exact (s1.2 o ho).2
    · unfold BLK
      rw [C2 159 14 (by omega)]
      exact a13
    · exact JI_sx hJ sd w4 (decide_eq_false (by omega)) (fun i => decide_eq_false (by omega)) (decide_eq_false (by omega)) (fun i => decide_eq_false (by omega))
  · intro Q' k' hk'
    rw [u211]
    (try dsimp only); repeat (first | with_reducible refine wpl ?_ | with_reducible refine wpj ?_ | with_reducible refine wpSl ?_ | with_reducible refine wpSr ?_ | with_reducible refine wpS ?_ | ((with_reducible refine wpt ?_ ?_); · simp (disch := first | omega | decide) only [↓neg1, nlit, rI, rL, rI2, rL1, nI_add, pk_mul, sbT, dvT, nmd, ixT, ↓ibT, ltT, ltF, leT, leF, eqT, eqF, nM_ltT, nM_ltF, nM_leT, nM_leF, nM_eqF, nM_eqF', nbT0, nbT1, oI_s, oI_n, natF, natT, nltT, nltF, nleT, nleF, ↓reduceIte, lgc, not_true_eq_false, not_false_eq_true, or_false, false_or, or_true, true_or, and_true, true_and, and_false, false_and, ne_eq, eq_self, or_self, and_self]; done) | ((with_reducible refine wpf ?_ ?_); · simp (disch := first | omega | decide) only [↓neg1, nlit, rI, rL, rI2, rL1, nI_add, pk_mul, sbT, dvT, nmd, ixT, ↓ibT, ltT, ltF, leT, leF, eqT, eqF, nM_ltT, nM_ltF, nM_leT, nM_leF, nM_eqF, nM_eqF', nbT0, nbT1, oI_s, oI_n, natF, natT, nltT, nltF, nleT, nleF, ↓reduceIte, lgc, not_true_eq_false, not_false_eq_true, or_false, false_or, or_true, true_or, and_true, true_and, and_false, false_and, ne_eq, eq_self, or_self, and_self]; done))
    exact hk' _ rfl
end RT
