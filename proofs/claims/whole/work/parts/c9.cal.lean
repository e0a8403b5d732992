/-! RUN: calls -/
section CAL
variable {n f M i : Nat} {c m u : cS}
/-- the class enters a METHOD -/
theorem e310 (hn : 10000 ≤ n) (hT : TOP m c u f M i) (e : opn m (40 * M + i) = 20) (hf : f + 1 < 12) (h10 : c.1 159 10 = nI (f + 1)) : wp (d_310 n (nI f) (nI (fa c M + i)) c) (fun d => d.1 163 (f + 1) = nI (8 * xN m (40 * M + i) + yN m (40 * M + i)) ∧ d.1 164 (f + 1) = nI 0 ∧ d.1 159 10 = nI (f + 2) ∧ (∀ s, s < 16 → d.2 165 (16 * (f + 1) + s) = if s < tkn m (40 * M + i) then c.2 165 (16 * f + (8 + dpn m (40 * M + i)) - tkn m (40 * M + i) + s) else c.2 159 14) ∧ sx (qF1 (f + 1)) c d) := by
  obtain ⟨a, ha, ha4, hb, c121, u211, c125, hR, hd8, htk, hgv, ho4, hl8, hop⟩ := TOP_x hT
  obtain ⟨hG, hA, hM, hi, hr, hf0, h255, h254, hV⟩ := id hT
  rw [← ha]
  have hC := hG.1.2.2.1
  have hcc := (CCS_p hC).1
  have hx := hR.2.2.2.2.1 e
  have hx1 := hx.1
  have hx2 := hx.2.1
  have hq8 := (hC.1.2.2.2.2.1 _ hx1).1
  have h165 := e165 (n := n) (M := M) (i := i) (fun z => (hR.2.2.2.2.1 z).2.2.2.2.2.1) c121 ha4 e
  have h22 := e22 (n := n) (p := 100 * xN m (40 * M + i) + 20 + 10 * yN m (40 * M + i)) (by omega) (by omega)
  rw [show 8 * ((100 * xN m (40 * M + i) + 20 + 10 * yN m (40 * M + i)) / 100) + ((100 * xN m (40 * M + i) + 20 + 10 * yN m (40 * M + i)) % 100 - 20) / 10 = 8 * xN m (40 * M + i) + yN m (40 * M + i) by omega] at h22
  unfold d_310
  refine wpe h165 (wpt (by simp (disch := first | omega | decide) only [↓neg1, nlit, rI, rL, rI2, rL1, nI_add, pk_mul, sbT, dvT, nmd, ixT, ↓ibT, ltT, ltF, leT, leF, eqT, eqF, nM_ltT, nM_ltF, nM_leT, nM_leF, nM_eqF, nM_eqF', nbT0, nbT1, oI_s, oI_n, natF, natT, nltT, nltF, nleT, nleF, ↓reduceIte, lgc, not_true_eq_false, not_false_eq_true, or_false, false_or, or_true, true_or, and_true, true_and, and_false, false_and, ne_eq, eq_self, or_self, and_self]) ?_)
  rw [ix_n (by omega), c125, show nI f * 16 + 8 + nI (dpn m (40 * M + i)) - nI (tkn m (40 * M + i)) = nI (16 * f + (8 + dpn m (40 * M + i)) - tkn m (40 * M + i)) by
    rw [show (16 : Int32) = nI 16 from rfl, pk_mul, show (8 : Int32) = nI 8 from rfl, nI_add, nI_add, pk_sub (by omega)]
    exact congrArg nI (by omega), show nI f * 16 + 16 = nI (16 * (f + 1)) by
    rw [show (16 : Int32) = nI 16 from rfl, pk_mul, nI_add]
    exact congrArg nI (by omega), hx.2.2.2.2.1]
  refine wpl (wpt (by simp (disch := first | omega | decide) only [↓neg1, nlit, rI, rL, rI2, rL1, nI_add, pk_mul, sbT, dvT, nmd, ixT, ↓ibT, ltT, ltF, leT, leF, eqT, eqF, nM_ltT, nM_ltF, nM_leT, nM_leF, nM_eqF, nM_eqF', nbT0, nbT1, oI_s, oI_n, natF, natT, nltT, nltF, nleT, nleF, ↓reduceIte, lgc, not_true_eq_false, not_false_eq_true, or_false, false_or, or_true, true_or, and_true, true_and, and_false, false_and, ne_eq, eq_self, or_self, and_self]) (wpe h22 (wpc (e301 hn hf h10) (fun d hd => ?_))))
  obtain ⟨d1, d2, d3, d4, d5⟩ := hd
  generalize hsrc : 16 * f + (8 + dpn m (40 * M + i)) - tkn m (40 * M + i) = src at *
  have htk8 : tkn m (40 * M + i) ≤ 8 := by omega
  refine wpt (cg_ok (by omega) (by omega) (by decide) (by decide)) (wpl ⟨d1, d2, d4, fun s hs => ?_, ?_⟩)
  · show va_cpy (d.2 165) (d.2 165) (ix (nI src)) (ix (nI (16 * (f + 1)))) (ix (nI (tkn m (40 * M + i)))) (16 * (f + 1) + s) = _
    rw [ix_n (by omega), ix_n (by omega), ix_n (by omega)]
    unfold va_cpy
    by_cases es : s < tkn m (40 * M + i)
    · rw [if_pos (by omega), if_pos es, show src + (16 * (f + 1) + s - 16 * (f + 1)) = src + s by omega]
      exact d5.2 165 _ (decide_eq_false (by omega))
    · rw [if_neg (by omega), if_neg es]
      exact d3 s hs
  · refine ⟨d5.1, fun A j z => ?_⟩
    have z' := of_decide_eq_false z
    show (if A = 165 then va_cpy (d.2 165) (d.2 165) (ix (nI src)) (ix (nI (16 * (f + 1)))) (ix (nI (tkn m (40 * M + i)))) else d.2 A) j = _
    by_cases ea : A = 165
    · rw [if_pos ea, ix_n (by omega), ix_n (by omega), ix_n (by omega)]
      unfold va_cpy
      rw [if_neg (by omega), ea]
      rw [ea] at z
      exact d5.2 165 j z
    · rw [if_neg ea]
      exact d5.2 A j z
/-- the reference calls -/
def qCr (f : Nat) (A i : Nat) : Bool := decide ((A = 255 ∧ i = f) ∨ (253 ≤ A ∧ A ≤ 255 ∧ i = f + 1) ∨ (A = 256 ∧ 16 * (f + 1) ≤ i ∧ i < 16 * (f + 1) + 16) ∨ (A = 257 ∧ 64 * (f + 1) ≤ i ∧ i < 64 * (f + 1) + 64) ∨ (A = 174 ∧ i = 113))
theorem nP_Cr : nP (qCr f) := by
  refine ⟨fun a i h => ?_, fun i h => ?_, fun i h => ?_, fun a i h1 h2 h3 => ?_, fun a i h1 h2 h3 => ?_⟩
  · have := PA_of h
    exact decide_eq_false (by omega)
  · have := PF_of h
    exact decide_eq_false (by omega)
  · exact decide_eq_false (by omega)
  · exact decide_eq_false (by omega)
  · exact decide_eq_false (by omega)
theorem call_r (hn : 1000 ≤ n) (hT : TOP m c u f M i) (e : opn m (40 * M + i) = 20) (hf : f + 1 < 12) (h113 : u.1 174 113 = nI (f + 1)) : wp (d_470 n (nI f) (nI (40 * M + i)) u) (fun w => w.1 253 (f + 1) = nI (8 * xN m (40 * M + i) + yN m (40 * M + i)) ∧ w.1 254 (f + 1) = nI 0 ∧ w.1 255 (f + 1) = nI 8 ∧ w.1 255 f = nI (8 + dpn m (40 * M + i) - tkn m (40 * M + i)) ∧ w.1 174 113 = nI (f + 2) ∧ (∀ s, s < 16 → if s < tkn m (40 * M + i) then (w.1 256 (16 * (f + 1) + s) = u.1 256 (16 * f + (8 + dpn m (40 * M + i)) - tkn m (40 * M + i) + s) ∧ ∀ o, o < ocn m → w.1 257 (4 * (16 * (f + 1) + s) + o) = u.1 257 (4 * (16 * f + (8 + dpn m (40 * M + i)) - tkn m (40 * M + i) + s) + o)) else (w.1 256 (16 * (f + 1) + s) = 0 ∧ ∀ o, o < ocn m → w.1 257 (4 * (16 * (f + 1) + s) + o) = m.1 188 o)) ∧ sx (qCr f) u w) := by
  obtain ⟨a, ha, ha4, hb, c121, u211, c125, hR, hd8, htk, hgv, ho4, hl8, hop⟩ := TOP_x hT
  obtain ⟨hG, hA, hM, hi, hr, hf0, h255, h254, hV⟩ := id hT
  have hC := hG.1.2.2.1
  have hcc := (CCS_p hC).1
  have hO := hG.1.1
  have hx := hR.2.2.2.2.1 e
  have hx1 := hx.1
  have hx2 := hx.2.1
  have hq8 := (hC.1.2.2.2.2.1 _ hx1).1
  have u214 : u.1 214 (40 * M + i) = nI (xN m (40 * M + i)) := (hA.1 214 _ rfl).trans hx.2.2.1
  have u215 : u.1 215 (40 * M + i) = nI (yN m (40 * M + i)) := (hA.1 215 _ rfl).trans hx.2.2.2.1
  have hpp := hC.1.2.2.2.2.2 _ _ hx1 hx2
  have u207 : u.1 207 (8 * xN m (40 * M + i) + yN m (40 * M + i)) = nI (tkn m (40 * M + i)) := by
    rw [tk_20 e]
    exact (hA.1 207 _ rfl).trans hpp.2.2
  unfold d_470
  rw [show (16 : Int32) * nI f = nI (16 * f) by rw [show (16 : Int32) = nI 16 from rfl, pk_mul]]
  refine wpl (wpt (by simp (disch := first | omega | decide) only [↓neg1, nlit, rI, rL, rI2, rL1, nI_add, pk_mul, sbT, dvT, nmd, ixT, ↓ibT, ltT, ltF, leT, leF, eqT, eqF, nM_ltT, nM_ltF, nM_leT, nM_leF, nM_eqF, nM_eqF', nbT0, nbT1, oI_s, oI_n, natF, natT, nltT, nltF, nleT, nleF, ↓reduceIte, lgc, not_true_eq_false, not_false_eq_true, or_false, false_or, or_true, true_or, and_true, true_and, and_false, false_and, ne_eq, eq_self, or_self, and_self]) ?_)
  rw [ix_n (by omega), h255, nI_add]
  refine wpl (wpt (by simp (disch := first | omega | decide) only [↓neg1, nlit, rI, rL, rI2, rL1, nI_add, pk_mul, sbT, dvT, nmd, ixT, ↓ibT, ltT, ltF, leT, leF, eqT, eqF, nM_ltT, nM_ltF, nM_leT, nM_leF, nM_eqF, nM_eqF', nbT0, nbT1, oI_s, oI_n, natF, natT, nltT, nltF, nleT, nleF, ↓reduceIte, lgc, not_true_eq_false, not_false_eq_true, or_false, false_or, or_true, true_or, and_true, true_and, and_false, false_and, ne_eq, eq_self, or_self, and_self]) ?_)
  rw [ix_n (by omega)]
  refine wpjQ (fun y : Int32 × cS => y = (nM, u)) ?_ ?_
  · rintro y rfl
    dsimp only
    refine wpt (by simp (disch := first | omega | decide) only [↓neg1, nlit, rI, rL, rI2, rL1, nI_add, pk_mul, sbT, dvT, nmd, ixT, ↓ibT, ltT, ltF, leT, leF, eqT, eqF, nM_ltT, nM_ltF, nM_leT, nM_leF, nM_eqF, nM_eqF', nbT0, nbT1, oI_s, oI_n, natF, natT, nltT, nltF, nleT, nleF, ↓reduceIte, lgc, not_true_eq_false, not_false_eq_true, or_false, false_or, or_true, true_or, and_true, true_and, and_false, false_and, ne_eq, eq_self, or_self, and_self]) (wpt (by rw [u211, e]; rfl) ?_)
    have h472 : wp (d_472 n (nI f) (nI (40 * M + i)) u) (fun w => w.1 253 (f + 1) = nI (8 * xN m (40 * M + i) + yN m (40 * M + i)) ∧ w.1 254 (f + 1) = nI 0 ∧ w.1 255 (f + 1) = nI 8 ∧ w.1 255 f = nI (8 + dpn m (40 * M + i) - tkn m (40 * M + i)) ∧ w.1 174 113 = nI (f + 2) ∧ (∀ s, s < 16 → if s < tkn m (40 * M + i) then (w.1 256 (16 * (f + 1) + s) = u.1 256 (16 * f + (8 + dpn m (40 * M + i)) - tkn m (40 * M + i) + s) ∧ ∀ o, o < ocn m → w.1 257 (4 * (16 * (f + 1) + s) + o) = u.1 257 (4 * (16 * f + (8 + dpn m (40 * M + i)) - tkn m (40 * M + i) + s) + o)) else (w.1 256 (16 * (f + 1) + s) = 0 ∧ ∀ o, o < ocn m → w.1 257 (4 * (16 * (f + 1) + s) + o) = m.1 188 o)) ∧ sx (qCr f) u w) := by
      unfold d_472
      rw [ix_n (by omega), u214, u215, show (8 : Int32) * nI (xN m (40 * M + i)) + nI (yN m (40 * M + i)) = nI (8 * xN m (40 * M + i) + yN m (40 * M + i)) by rw [show (8 : Int32) = nI 8 from rfl, pk_mul, nI_add]]
      refine wpt (by simp (disch := first | omega | decide) only [↓neg1, nlit, rI, rL, rI2, rL1, nI_add, pk_mul, sbT, dvT, nmd, ixT, ↓ibT, ltT, ltF, leT, leF, eqT, eqF, nM_ltT, nM_ltF, nM_leT, nM_leF, nM_eqF, nM_eqF', nbT0, nbT1, oI_s, oI_n, natF, natT, nltT, nltF, nleT, nleF, ↓reduceIte, lgc, not_true_eq_false, not_false_eq_true, or_false, false_or, or_true, true_or, and_true, true_and, and_false, false_and, ne_eq, eq_self, or_self, and_self]) (wpt (by simp (disch := first | omega | decide) only [↓neg1, nlit, rI, rL, rI2, rL1, nI_add, pk_mul, sbT, dvT, nmd, ixT, ↓ibT, ltT, ltF, leT, leF, eqT, eqF, nM_ltT, nM_ltF, nM_leT, nM_leF, nM_eqF, nM_eqF', nbT0, nbT1, oI_s, oI_n, natF, natT, nltT, nltF, nleT, nleF, ↓reduceIte, lgc, not_true_eq_false, not_false_eq_true, or_false, false_or, or_true, true_or, and_true, true_and, and_false, false_and, ne_eq, eq_self, or_self, and_self]) (wpl (wpt (by simp (disch := first | omega | decide) only [↓neg1, nlit, rI, rL, rI2, rL1, nI_add, pk_mul, sbT, dvT, nmd, ixT, ↓ibT, ltT, ltF, leT, leF, eqT, eqF, nM_ltT, nM_ltF, nM_leT, nM_leF, nM_eqF, nM_eqF', nbT0, nbT1, oI_s, oI_n, natF, natT, nltT, nltF, nleT, nleF, ↓reduceIte, lgc, not_true_eq_false, not_false_eq_true, or_false, false_or, or_true, true_or, and_true, true_and, and_false, false_and, ne_eq, eq_self, or_self, and_self]) ?_)))
      rw [ix_n (by omega), u207]
      refine wpl (wpt (by simp (disch := first | omega | decide) only [↓neg1, nlit, rI, rL, rI2, rL1, nI_add, pk_mul, sbT, dvT, nmd, ixT, ↓ibT, ltT, ltF, leT, leF, eqT, eqF, nM_ltT, nM_ltF, nM_leT, nM_leF, nM_eqF, nM_eqF', nbT0, nbT1, oI_s, oI_n, natF, natT, nltT, nltF, nleT, nleF, ↓reduceIte, lgc, not_true_eq_false, not_false_eq_true, or_false, false_or, or_true, true_or, and_true, true_and, and_false, false_and, ne_eq, eq_self, or_self, and_self]) (wpt (by simp (disch := first | omega | decide) only [↓neg1, nlit, rI, rL, rI2, rL1, nI_add, pk_mul, sbT, dvT, nmd, ixT, ↓ibT, ltT, ltF, leT, leF, eqT, eqF, nM_ltT, nM_ltF, nM_leT, nM_leF, nM_eqF, nM_eqF', nbT0, nbT1, oI_s, oI_n, natF, natT, nltT, nltF, nleT, nleF, ↓reduceIte, lgc, not_true_eq_false, not_false_eq_true, or_false, false_or, or_true, true_or, and_true, true_and, and_false, false_and, ne_eq, eq_self, or_self, and_self]) ?_))
      rw [ix_n (by omega), h255, pk_sub (by omega)]
      refine wpl ?_
      have s1 : sx (qCr f) u (pI u 255 f (nI (8 + dpn m (40 * M + i) - tkn m (40 * M + i)))) := sx_pI sx_rfl (decide_eq_true (by omega))
      have h1 : (pI u 255 f (nI (8 + dpn m (40 * M + i) - tkn m (40 * M + i)))).1 255 f = nI (8 + dpn m (40 * M + i) - tkn m (40 * M + i)) := by
        rw [rI, if_pos ⟨rfl, rfl⟩]
      have h2 : ∀ A j, A ≠ 255 → (pI u 255 f (nI (8 + dpn m (40 * M + i) - tkn m (40 * M + i)))).1 A j = u.1 A j := fun A j z => by rw [rI, if_neg (by omega)]
      generalize pI u 255 f (nI (8 + dpn m (40 * M + i) - tkn m (40 * M + i))) = u1 at *
      refine wpc (e466 hn hf (AG_sx hA s1 nP_Cr) hO ((h2 174 113 (by decide)).trans h113)) (fun w0 hw0 => ?_)
      obtain ⟨w1, w2, w3, w4, w5, w6⟩ := hw0
      have sw0 : sx (qCr f) u w0 := sx_trans s1 (sx_wide w6 (fun a i z => by
        have := of_decide_eq_false z
        exact decide_eq_false (by omega)))
      have hw255 : ∀ {y : cS}, sx (fun A j => decide ((A = 256 ∧ 16 * (f + 1) ≤ j ∧ j < 16 * (f + 1) + 16) ∨ (A = 257 ∧ 64 * (f + 1) ≤ j ∧ j < 64 * (f + 1) + 64))) w0 y → y.1 255 f = nI (8 + dpn m (40 * M + i) - tkn m (40 * M + i)) := fun hy => (hy.1 255 f (decide_eq_false (by omega))).trans ((w6.1 255 f (decide_eq_false (by omega))).trans h1)
      generalize hsrc : 16 * f + (8 + dpn m (40 * M + i)) - tkn m (40 * M + i) = src at *
      refine wpc (K' := fun w : cS => (∀ s, s < 16 → if s < tkn m (40 * M + i) then (w.1 256 (16 * (f + 1) + s) = u.1 256 (src + s) ∧ ∀ o, o < ocn m → w.1 257 (4 * (16 * (f + 1) + s) + o) = u.1 257 (4 * (src + s) + o)) else (w.1 256 (16 * (f + 1) + s) = 0 ∧ ∀ o, o < ocn m → w.1 257 (4 * (16 * (f + 1) + s) + o) = m.1 188 o)) ∧ sx (fun A j => decide ((A = 256 ∧ 16 * (f + 1) ≤ j ∧ j < 16 * (f + 1) + 16) ∨ (A = 257 ∧ 64 * (f + 1) ≤ j ∧ j < 64 * (f + 1) + 64))) w0 w) (whl_cnt (fun k (st : Int32 × cS) => st.1 = nI k ∧ (∀ s, s < 16 → if s < k then (st.2.1 256 (16 * (f + 1) + s) = u.1 256 (src + s) ∧ ∀ o, o < ocn m → st.2.1 257 (4 * (16 * (f + 1) + s) + o) = u.1 257 (4 * (src + s) + o)) else (st.2.1 256 (16 * (f + 1) + s) = 0 ∧ ∀ o, o < ocn m → st.2.1 257 (4 * (16 * (f + 1) + s) + o) = m.1 188 o)) ∧ sx (fun A j => decide ((A = 256 ∧ 16 * (f + 1) ≤ j ∧ j < 16 * (f + 1) + 16) ∨ (A = 257 ∧ 64 * (f + 1) ≤ j ∧ j < 64 * (f + 1) + 64))) w0 st.2) (tkn m (40 * M + i)) ?_ ?_ (by omega) ⟨rfl, fun s hs => by rw [if_neg (by omega)]; exact w4 s hs, sx_rfl⟩) (fun w hw => ⟨(hw.2.1 253 _ (decide_eq_false (by omega))).trans w1, (hw.2.1 254 _ (decide_eq_false (by omega))).trans w2, (hw.2.1 255 _ (decide_eq_false (by omega))).trans w3, hw255 hw.2, (hw.2.1 174 113 (decide_eq_false (by omega))).trans w5, hw.1, sx_trans sw0 (sx_wide hw.2 (fun a i z => ?_))⟩)
      · rintro k ⟨k0, y⟩ hk ⟨g1, g2, g3⟩
        dsimp only at g1 g2 g3
        subst g1
        dsimp only
        have sy : sx (qCr f) u y := sx_trans sw0 (sx_wide g3 (fun a i z => by
          have := of_decide_eq_false z
          exact decide_eq_false (by omega)))
        refine wpf (by simp (disch := first | omega | decide) only [↓neg1, nlit, rI, rL, rI2, rL1, nI_add, pk_mul, sbT, dvT, nmd, ixT, ↓ibT, ltT, ltF, leT, leF, eqT, eqF, nM_ltT, nM_ltF, nM_leT, nM_leF, nM_eqF, nM_eqF', nbT0, nbT1, oI_s, oI_n, natF, natT, nltT, nltF, nleT, nleF, ↓reduceIte, lgc, not_true_eq_false, not_false_eq_true, or_false, false_or, or_true, true_or, and_true, true_and, and_false, false_and, ne_eq, eq_self, or_self, and_self]) (wpt (by simp (disch := first | omega | decide) only [↓neg1, nlit, rI, rL, rI2, rL1, nI_add, pk_mul, sbT, dvT, nmd, ixT, ↓ibT, ltT, ltF, leT, leF, eqT, eqF, nM_ltT, nM_ltF, nM_leT, nM_leF, nM_eqF, nM_eqF', nbT0, nbT1, oI_s, oI_n, natF, natT, nltT, nltF, nleT, nleF, ↓reduceIte, lgc, not_true_eq_false, not_false_eq_true, or_false, false_or, or_true, true_or, and_true, true_and, and_false, false_and, ne_eq, eq_self, or_self, and_self]) ?_)
        rw [hw255 g3, show (16 : Int32) * (nI f + 1) + nI k = nI (16 * (f + 1) + k) by rw [nI_1, show (16 : Int32) = nI 16 from rfl, pk_mul, nI_add], show (16 : Int32) * nI f + nI (8 + dpn m (40 * M + i) - tkn m (40 * M + i)) + nI k = nI (src + k) by
          rw [show (16 : Int32) = nI 16 from rfl, pk_mul, nI_add, nI_add]
          exact congrArg nI (by omega)]
        refine wpc (e467 hn (by omega) (by omega) (AG_sx hA sy nP_Cr) hO) (fun v hv => wpl ⟨nI_1 _, fun s hs => ?_, sx_trans g3 (sx_wide hv.2.2 (fun a i z => ?_))⟩)
        · dsimp only
          by_cases es : s = k
          · subst es
            rw [if_pos (by omega)]
            refine ⟨hv.1.trans (sy.1 256 _ (decide_eq_false (by omega))), fun o ho => (hv.2.1 o ho).trans (sy.1 257 _ (decide_eq_false (by omega)))⟩
          · have := g2 s hs
            by_cases e2 : s < k
            · rw [if_pos e2] at this
              rw [if_pos (by omega)]
              exact ⟨(hv.2.2.1 256 _ (decide_eq_false (by omega))).trans this.1, fun o ho => (hv.2.2.1 257 _ (decide_eq_false (by omega))).trans (this.2 o ho)⟩
            · rw [if_neg e2] at this
              rw [if_neg (by omega)]
              exact ⟨(hv.2.2.1 256 _ (decide_eq_false (by omega))).trans this.1, fun o ho => (hv.2.2.1 257 _ (decide_eq_false (by omega))).trans (this.2 o ho)⟩
        · have := of_decide_eq_false z
          exact decide_eq_false (by omega)
      · rintro ⟨k0, y⟩ ⟨g1, g2, g3⟩
        dsimp only at g1 g2 g3
        subst g1
        dsimp only
        exact wpt (by simp (disch := first | omega | decide) only [↓neg1, nlit, rI, rL, rI2, rL1, nI_add, pk_mul, sbT, dvT, nmd, ixT, ↓ibT, ltT, ltF, leT, leF, eqT, eqF, nM_ltT, nM_ltF, nM_leT, nM_leF, nM_eqF, nM_eqF', nbT0, nbT1, oI_s, oI_n, natF, natT, nltT, nltF, nleT, nleF, ↓reduceIte, lgc, not_true_eq_false, not_false_eq_true, or_false, false_or, or_true, true_or, and_true, true_and, and_false, false_and, ne_eq, eq_self, or_self, and_self]) ⟨g2, g3⟩
      · have := of_decide_eq_false z
        exact decide_eq_false (by omega)
    exact wpc h472 (fun w hw => hw)
  · intro Q' k' hk'
    rw [u211]
    (try dsimp only); repeat (first | with_reducible refine wpl ?_ | with_reducible refine wpj ?_ | with_reducible refine wpSl ?_ | with_reducible refine wpSr ?_ | with_reducible refine wpS ?_ | ((with_reducible refine wpt ?_ ?_); · simp (disch := first | omega | decide) only [↓neg1, nlit, rI, rL, rI2, rL1, nI_add, pk_mul, sbT, dvT, nmd, ixT, ↓ibT, ltT, ltF, leT, leF, eqT, eqF, nM_ltT, nM_ltF, nM_leT, nM_leF, nM_eqF, nM_eqF', nbT0, nbT1, oI_s, oI_n, natF, natT, nltT, nltF, nleT, nleF, ↓reduceIte, lgc, not_true_eq_false, not_false_eq_true, or_false, false_or, or_true, true_or, and_true, true_and, and_false, false_and, ne_eq, eq_self, or_self, and_self]; done) | ((with_reducible refine wpf ?_ ?_); · simp (disch := first | omega | decide) only [↓neg1, nlit, rI, rL, rI2, rL1, nI_add, pk_mul, sbT, dvT, nmd, ixT, ↓ibT, ltT, ltF, leT, leF, eqT, eqF, nM_ltT, nM_ltF, nM_leT, nM_leF, nM_eqF, nM_eqF', nbT0, nbT1, oI_s, oI_n, natF, natT, nltT, nltF, nleT, nleF, ↓reduceIte, lgc, not_true_eq_false, not_false_eq_true, or_false, false_or, or_true, true_or, and_true, true_and, and_false, false_and, ne_eq, eq_self, or_self, and_self]; done))
    exact hk' _ rfl
end CAL
