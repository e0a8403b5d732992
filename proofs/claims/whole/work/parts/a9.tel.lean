/-! CLASSES told by the reference; the call tell -/
theorem e446 {n k : Nat} {c m u : cS} {L : List Nat} (hn : 2000 ≤ n) (hA : AG m u) (hG : PG c m) (hk : k < ccn m) (h : OG u L) : wp (d_446 n (nI k) u) (fun d => OG d (puts L (clT m k)) ∧ sx pTl u d) := by
  have hE := hG.1
  have hC := hE.2.2.1
  have hcc := (CCS_p hC).1
  have A' : ∀ {d : cS}, sx pTl u d → AG m d := fun h => AG_pTl hA h
  have hff := hC.1.2.2.2.1 k hk
  have hqq := hC.1.2.2.2.2.1 k hk
  have row : ∀ {d : cS} {p s : Nat} {L : List Nat}, L ≠ [] → sx pTl u d → isP m p s → OG d L → wp (d_442 n (nI p) d) (fun e => OG e (puts L (rwT m p (mz m p))) ∧ sx pTl u e) := fun hL hs hp ho => wp_mono (e442 hn (A' hs) hE (RT_P (hE.2.2.2 _ _ hp) (EC_row hE hp).1) hL ho) (fun e he => ⟨he.1, sx_trans hs he.2⟩)
  have say : ∀ {d : cS} {j : Nat} {t L : List Nat}, sx pTl u d → j < 58 → 2 ≤ j → wb j = t → OG d L → wp (d_362 n j d) (fun e => OG e (put L t) ∧ sx pTl u e) := fun hs h1 h2 ht ho => wp_mono (e362w hn h1 h2 ho) (fun e he => ⟨by rw [← ht]; exact he.1, sx_trans hs (pG_T he.2)⟩)
  have nam : ∀ {d : cS} {v : Int64} {L : List Nat}, L ≠ [] → sx pTl u d → OG d L → wp (d_363 n v d) (fun e => OG e (put L (sg v)) ∧ sx pTl u e) := fun hL hs ho => wp_mono (e363 (by omega) hL ho) (fun e he => ⟨he.1, sx_trans hs (pG_T he.2)⟩)
  unfold clT chT
  rw [puts_app, puts_app, puts_1, puts_app, puts_1, puts_app, puts_app, puts_app, puts_1, puts_app, puts_1]
  unfold d_446
  refine wpc (say sx_rfl (by decide) (by decide) rfl h) (fun d1 h1 => wpt (by simp (disch := first | omega | decide) only [↓neg1, nlit, rI, rL, rI2, rL1, nI_add, pk_mul, sbT, dvT, nmd, ixT, ↓ibT, ltT, ltF, leT, leF, eqT, eqF, nM_ltT, nM_ltF, nM_leT, nM_leF, nM_eqF, nM_eqF', nbT0, nbT1, oI_s, oI_n, natF, natT, nltT, nltF, nleT, nleF, ↓reduceIte, lgc, not_true_eq_false, not_false_eq_true, or_false, false_or, or_true, true_or, and_true, true_and, and_false, false_and, ne_eq, eq_self, or_self, and_self]) ?_)
  have hL1 : put L (wb 4) ≠ [] := put_ne (Or.inr (wb_ne (by decide) (by decide)))
  try rw [ix_n (by omega)]
  rw [(A' h1.2).2.1 200 _ rfl]
  refine wpc (nam hL1 h1.2 h1.1) (fun d2 h2 => wpt (by simp (disch := first | omega | decide) only [↓neg1, nlit, rI, rL, rI2, rL1, nI_add, pk_mul, sbT, dvT, nmd, ixT, ↓ibT, ltT, ltF, leT, leF, eqT, eqF, nM_ltT, nM_ltF, nM_leT, nM_leF, nM_eqF, nM_eqF', nbT0, nbT1, oI_s, oI_n, natF, natT, nltT, nltF, nleT, nleF, ↓reduceIte, lgc, not_true_eq_false, not_false_eq_true, or_false, false_or, or_true, true_or, and_true, true_and, and_false, false_and, ne_eq, eq_self, or_self, and_self]) ?_)
  have s2 := h2.2
  have hO2 := h2.1
  have hL2 : put (put L (wb 4)) (sg (m.2 200 k)) ≠ [] := put_ne (Or.inl hL1)
  generalize put (put L (wb 4)) (sg (m.2 200 k)) = L2 at *
  rw [(A' s2).1 201 _ rfl]
  refine wpjQ (fun z : cS => OG z (puts L2 (if m.1 201 k < 0 then [] else [[58], sg (m.2 200 (ix (m.1 201 k)))])) ∧ sx pTl u z) ?_ ?_
  · rintro z ⟨z1, z2⟩
    have hL3 := puts_ne hL2 (if m.1 201 k < 0 then [] else [[58], sg (m.2 200 (ix (m.1 201 k)))])
    generalize puts L2 (if m.1 201 k < 0 then [] else [[58], sg (m.2 200 (ix (m.1 201 k)))]) = L3 at *
    rw [show (100 : Int32) * nI k = nI (100 * k) by rw [show (100 : Int32) = nI 100 from rfl, pk_mul], show (8 : Int32) * nI k = nI (8 * k) by rw [show (8 : Int32) = nI 8 from rfl, pk_mul]]
    refine wpc (row hL3 z2 (isP_c0 hk) z1) (fun d3 h3 => wpc (say h3.2 (by decide) (by decide) wbq.2.2.2.2.2.2.1 h3.1) (fun d4 h4 => ?_))
    have s4 := h4.2
    have hO4 := h4.1
    have hL4 : put (puts L3 (rwT m (100 * k) (mz m (100 * k)))) [123] ≠ [] := put_ne (Or.inr (by simp))
    generalize put (puts L3 (rwT m (100 * k) (mz m (100 * k)))) [123] = L4 at *
    refine wpc (K' := fun d : cS => OG d (puts L4 (fiT m k (fM m k))) ∧ sx pTl u d) (whl_cnt (fun j (st : Int32 × cS) => st.1 = nI j ∧ OG st.2 (puts L4 (fiT m k j)) ∧ sx pTl u st.2) (fM m k) ?_ ?_ (by omega) ⟨rfl, hO4, s4⟩) ?_
    · rintro j ⟨j0, w⟩ hj ⟨g1, g2, g3⟩
      dsimp only at g1 g2 g3
      subst g1
      dsimp only
      refine wpt (by simp (disch := first | omega | decide) only [↓neg1, nlit, rI, rL, rI2, rL1, nI_add, pk_mul, sbT, dvT, nmd, ixT, ↓ibT, ltT, ltF, leT, leF, eqT, eqF, nM_ltT, nM_ltF, nM_leT, nM_leF, nM_eqF, nM_eqF', nbT0, nbT1, oI_s, oI_n, natF, natT, nltT, nltF, nleT, nleF, ↓reduceIte, lgc, not_true_eq_false, not_false_eq_true, or_false, false_or, or_true, true_or, and_true, true_and, and_false, false_and, ne_eq, eq_self, or_self, and_self]) ?_
      rw [((A' g3).1 202 _ rfl).trans hff.2.2]
      refine wpf (by simp (disch := first | omega | decide) only [↓neg1, nlit, rI, rL, rI2, rL1, nI_add, pk_mul, sbT, dvT, nmd, ixT, ↓ibT, ltT, ltF, leT, leF, eqT, eqF, nM_ltT, nM_ltF, nM_leT, nM_leF, nM_eqF, nM_eqF', nbT0, nbT1, oI_s, oI_n, natF, natT, nltT, nltF, nleT, nleF, ↓reduceIte, lgc, not_true_eq_false, not_false_eq_true, or_false, false_or, or_true, true_or, and_true, true_and, and_false, false_and, ne_eq, eq_self, or_self, and_self]) (wpc (say g3 (by decide) (by decide) rfl g2) (fun y1 f1 => ?_))
      have t1 := f1.2
      have hn1 : put (puts L4 (fiT m k j)) (wb 5) ≠ [] := put_ne (Or.inr (wb_ne (by decide) (by decide)))
      rw [nI_add]
      refine wpt (by simp (disch := first | omega | decide) only [↓neg1, nlit, rI, rL, rI2, rL1, nI_add, pk_mul, sbT, dvT, nmd, ixT, ↓ibT, ltT, ltF, leT, leF, eqT, eqF, nM_ltT, nM_ltF, nM_leT, nM_leF, nM_eqF, nM_eqF', nbT0, nbT1, oI_s, oI_n, natF, natT, nltT, nltF, nleT, nleF, ↓reduceIte, lgc, not_true_eq_false, not_false_eq_true, or_false, false_or, or_true, true_or, and_true, true_and, and_false, false_and, ne_eq, eq_self, or_self, and_self]) ?_
      try rw [ix_n (by omega)]
      rw [(A' t1).2.1 204 _ rfl]
      refine wpc (nam hn1 t1 f1.1) (fun y2 f2 => ?_)
      have t2 := f2.2
      rw [show nI (100 * k) + 1 + nI j = nI (100 * k + 1 + j) by rw [show (1 : Int32) = nI 1 from rfl, nI_add, nI_add]]
      refine wpc (row (put_ne (Or.inl hn1)) t2 (place_f hC hk hj) f2.1) (fun y3 f3 => wpt (by simp (disch := first | omega | decide) only [↓neg1, nlit, rI, rL, rI2, rL1, nI_add, pk_mul, sbT, dvT, nmd, ixT, ↓ibT, ltT, ltF, leT, leF, eqT, eqF, nM_ltT, nM_ltF, nM_leT, nM_leF, nM_eqF, nM_eqF', nbT0, nbT1, oI_s, oI_n, natF, natT, nltT, nltF, nleT, nleF, ↓reduceIte, lgc, not_true_eq_false, not_false_eq_true, or_false, false_or, or_true, true_or, and_true, true_and, and_false, false_and, ne_eq, eq_self, or_self, and_self]) ?_)
      rw [(A' f3.2).1 205 _ rfl]
      have hfi : fiT m k (j + 1) = fiT m k j ++ ([wb 5] ++ ([sg (m.2 204 (8 * k + j))] ++ (rwT m (100 * k + 1 + j) (mz m (100 * k + 1 + j)) ++ ((if m.1 205 (8 * k + j) = 0 then [] else [[61]] ++ nt (m.1 205 (8 * k + j))) ++ [[59]])))) := rfl
      have f31 := f3.1
      refine wpjQ (fun z : cS => OG z (puts (puts (put (put (puts L4 (fiT m k j)) (wb 5)) (sg (m.2 204 (8 * k + j)))) (rwT m (100 * k + 1 + j) (mz m (100 * k + 1 + j)))) (if m.1 205 (8 * k + j) = 0 then [] else [[61]] ++ nt (m.1 205 (8 * k + j)))) ∧ sx pTl u z) (fun z hz => wpc (say hz.2 (by decide) (by decide) wbs.1 hz.1) (fun d hd => wpl ⟨nI_1 _, ?_, hd.2⟩)) ?_
      · dsimp only
        rw [hfi, puts_app, puts_app, puts_1, puts_app, puts_1, puts_app, puts_app, puts_1]
        exact hd.1
      · intro Q' k' hk'
        by_cases e : m.1 205 (8 * k + j) = 0
        · rw [if_pos e] at hk'
          exact wpt e (hk' y3 ⟨f31, f3.2⟩)
        · rw [if_neg e, puts_app, puts_1] at hk'
          refine wpf e (wpc (say f3.2 (by decide) (by decide) wbq.2.2.2.1 f31) (fun y4 f4 => wpt (by simp (disch := first | omega | decide) only [↓neg1, nlit, rI, rL, rI2, rL1, nI_add, pk_mul, sbT, dvT, nmd, ixT, ↓ibT, ltT, ltF, leT, leF, eqT, eqF, nM_ltT, nM_ltF, nM_leT, nM_leF, nM_eqF, nM_eqF', nbT0, nbT1, oI_s, oI_n, natF, natT, nltT, nltF, nleT, nleF, ↓reduceIte, lgc, not_true_eq_false, not_false_eq_true, or_false, false_or, or_true, true_or, and_true, true_and, and_false, false_and, ne_eq, eq_self, or_self, and_self]) ?_))
          rw [(A' f4.2).1 205 _ rfl]
          exact wpc (e365 hn (put_ne (Or.inr (by simp))) f4.1) (fun y5 f5 => hk' y5 ⟨f5.1, sx_trans f4.2 (pG_T f5.2)⟩)
    · rintro ⟨j0, w⟩ ⟨g1, g2, g3⟩
      dsimp only at g1 g2 g3
      subst g1
      dsimp only
      refine wpt (by simp (disch := first | omega | decide) only [↓neg1, nlit, rI, rL, rI2, rL1, nI_add, pk_mul, sbT, dvT, nmd, ixT, ↓ibT, ltT, ltF, leT, leF, eqT, eqF, nM_ltT, nM_ltF, nM_leT, nM_leF, nM_eqF, nM_eqF', nbT0, nbT1, oI_s, oI_n, natF, natT, nltT, nltF, nleT, nleF, ↓reduceIte, lgc, not_true_eq_false, not_false_eq_true, or_false, false_or, or_true, true_or, and_true, true_and, and_false, false_and, ne_eq, eq_self, or_self, and_self]) ?_
      rw [((A' g3).1 202 _ rfl).trans hff.2.2]
      exact wpt (by simp (disch := first | omega | decide) only [↓neg1, nlit, rI, rL, rI2, rL1, nI_add, pk_mul, sbT, dvT, nmd, ixT, ↓ibT, ltT, ltF, leT, leF, eqT, eqF, nM_ltT, nM_ltF, nM_leT, nM_leF, nM_eqF, nM_eqF', nbT0, nbT1, oI_s, oI_n, natF, natT, nltT, nltF, nleT, nleF, ↓reduceIte, lgc, not_true_eq_false, not_false_eq_true, or_false, false_or, or_true, true_or, and_true, true_and, and_false, false_and, ne_eq, eq_self, or_self, and_self]) ⟨g2, g3⟩
    · rintro x ⟨x1, x2⟩
      have hL5 := puts_ne hL4 (fiT m k (fM m k))
      generalize puts L4 (fiT m k (fM m k)) = L5 at *
      refine wpl ?_
      refine wpc (K' := fun d : cS => OG d (puts L5 (mtT m k (qM m k))) ∧ sx pTl u d) (whl_cnt (fun j (st : Int32 × cS) => st.1 = nI (8 * k + j) ∧ OG st.2 (puts L5 (mtT m k j)) ∧ sx pTl u st.2) (qM m k) ?_ ?_ (by omega) ⟨rfl, x1, x2⟩) (fun y hy => wpc (say hy.2 (by decide) (by decide) wbq.2.2.2.2.2.2.2 hy.1) (fun d hd => hd))
      · rintro j ⟨j0, w⟩ hj ⟨g1, g2, g3⟩
        dsimp only at g1 g2 g3
        subst g1
        dsimp only
        have hpp := hC.1.2.2.2.2.2 k j hk hj
        have hM : isMt m (8 * k + j) := ⟨by rw [show (8 * k + j) / 8 = k by omega]; exact hk, by rw [show (8 * k + j) / 8 = k by omega, show (8 * k + j) % 8 = j by omega]; exact hj⟩
        have hmt := (hG.2.2.2.1 _ hM).1
        have hlc := hmt.2.2.2.1
        have hn40 := hmt.1.2
        have h422 : d_422 n (nI (8 * k + j)) = some (nI (100 * k + 20 + 10 * j)) := e422 (by omega) (by omega)
        refine wpt (by simp (disch := first | omega | decide) only [↓neg1, nlit, rI, rL, rI2, rL1, nI_add, pk_mul, sbT, dvT, nmd, ixT, ↓ibT, ltT, ltF, leT, leF, eqT, eqF, nM_ltT, nM_ltF, nM_leT, nM_leF, nM_eqF, nM_eqF', nbT0, nbT1, oI_s, oI_n, natF, natT, nltT, nltF, nleT, nleF, ↓reduceIte, lgc, not_true_eq_false, not_false_eq_true, or_false, false_or, or_true, true_or, and_true, true_and, and_false, false_and, ne_eq, eq_self, or_self, and_self]) ?_
        rw [((A' g3).1 203 _ rfl).trans hqq.2.2, nI_add]
        refine wpf (by simp (disch := first | omega | decide) only [↓neg1, nlit, rI, rL, rI2, rL1, nI_add, pk_mul, sbT, dvT, nmd, ixT, ↓ibT, ltT, ltF, leT, leF, eqT, eqF, nM_ltT, nM_ltF, nM_leT, nM_leF, nM_eqF, nM_eqF', nbT0, nbT1, oI_s, oI_n, natF, natT, nltT, nltF, nleT, nleF, ↓reduceIte, lgc, not_true_eq_false, not_false_eq_true, or_false, false_or, or_true, true_or, and_true, true_and, and_false, false_and, ne_eq, eq_self, or_self, and_self]) (wpc (say g3 (by decide) (by decide) rfl g2) (fun y1 f1 => wpt (by simp (disch := first | omega | decide) only [↓neg1, nlit, rI, rL, rI2, rL1, nI_add, pk_mul, sbT, dvT, nmd, ixT, ↓ibT, ltT, ltF, leT, leF, eqT, eqF, nM_ltT, nM_ltF, nM_leT, nM_leF, nM_eqF, nM_eqF', nbT0, nbT1, oI_s, oI_n, natF, natT, nltT, nltF, nleT, nleF, ↓reduceIte, lgc, not_true_eq_false, not_false_eq_true, or_false, false_or, or_true, true_or, and_true, true_and, and_false, false_and, ne_eq, eq_self, or_self, and_self]) ?_))
        have hn1 : put (puts L5 (mtT m k j)) (wb 6) ≠ [] := put_ne (Or.inr (wb_ne (by decide) (by decide)))
        try rw [ix_n (by omega)]
        rw [(A' f1.2).2.1 206 _ rfl]
        refine wpc (nam hn1 f1.2 f1.1) (fun y2 f2 => wpc (say f2.2 (by decide) (by decide) wbq.2.2.1 f2.1) (fun y3 f3 => ?_))
        have hmt1 : mtT m k (j + 1) = mtT m k j ++ (([wb 6] ++ ([sg (m.2 206 (8 * k + j))] ++ ([[40]] ++ (paT m k j (pM m (8 * k + j)) ++ ([[41]] ++ (rwT m (100 * k + 20 + 10 * j) (mz m (100 * k + 20 + 10 * j)) ++ [[123]])))))) ++ (acT m (8 * k + j) (acn m (8 * k + j)) ++ [[125]])) := rfl
        have fin : ∀ d, OG d (put (puts (put (puts (put (puts (put (put (put (puts L5 (mtT m k j)) (wb 6)) (sg (m.2 206 (8 * k + j)))) [40]) (paT m k j (pM m (8 * k + j)))) [41]) (rwT m (100 * k + 20 + 10 * j) (mz m (100 * k + 20 + 10 * j)))) [123]) (acT m (8 * k + j) (acn m (8 * k + j)))) [125]) → OG d (puts L5 (mtT m k (j + 1))) := by
          intro d hd
          rw [hmt1, puts_app, puts_app, puts_app, puts_1, puts_app, puts_1, puts_app, puts_1, puts_app, puts_app, puts_1, puts_app, puts_1, puts_app, puts_1]
          exact hd
        have s3 := f3.2
        have hO3 := f3.1
        have hLa : put (put (put (puts L5 (mtT m k j)) (wb 6)) (sg (m.2 206 (8 * k + j)))) [40] ≠ [] := put_ne (Or.inr (by simp))
        generalize put (put (put (puts L5 (mtT m k j)) (wb 6)) (sg (m.2 206 (8 * k + j)))) [40] = La at *
        refine wpc (K' := fun d : cS => OG d (puts La (paT m k j (pM m (8 * k + j)))) ∧ sx pTl u d) (whl_cnt (fun r (st : Int32 × cS) => st.1 = nI r ∧ OG st.2 (puts La (paT m k j r)) ∧ sx pTl u st.2) (pM m (8 * k + j)) ?_ ?_ (by omega) ⟨rfl, hO3, s3⟩) ?_
        · rintro r ⟨r0, w⟩ hr ⟨g1, g2, g3⟩
          dsimp only at g1 g2 g3
          subst g1
          dsimp only
          refine wpt (by simp (disch := first | omega | decide) only [↓neg1, nlit, rI, rL, rI2, rL1, nI_add, pk_mul, sbT, dvT, nmd, ixT, ↓ibT, ltT, ltF, leT, leF, eqT, eqF, nM_ltT, nM_ltF, nM_leT, nM_leF, nM_eqF, nM_eqF', nbT0, nbT1, oI_s, oI_n, natF, natT, nltT, nltF, nleT, nleF, ↓reduceIte, lgc, not_true_eq_false, not_false_eq_true, or_false, false_or, or_true, true_or, and_true, true_and, and_false, false_and, ne_eq, eq_self, or_self, and_self]) ?_
          rw [((A' g3).1 207 _ rfl).trans hpp.2.2]
          refine wpf (by simp (disch := first | omega | decide) only [↓neg1, nlit, rI, rL, rI2, rL1, nI_add, pk_mul, sbT, dvT, nmd, ixT, ↓ibT, ltT, ltF, leT, leF, eqT, eqF, nM_ltT, nM_ltF, nM_leT, nM_leF, nM_eqF, nM_eqF', nbT0, nbT1, oI_s, oI_n, natF, natT, nltT, nltF, nleT, nleF, ↓reduceIte, lgc, not_true_eq_false, not_false_eq_true, or_false, false_or, or_true, true_or, and_true, true_and, and_false, false_and, ne_eq, eq_self, or_self, and_self]) ?_
          have hpa : paT m k j (r + 1) = paT m k j r ++ ((if r = 0 then [] else [[44]]) ++ ([sg (m.2 209 (8 * (8 * k + j) + r))] ++ rwT m (100 * k + 20 + 10 * j + 1 + r) (mz m (100 * k + 20 + 10 * j + 1 + r)))) := rfl
          refine wpjQ (fun z : cS => OG z (puts (puts La (paT m k j r)) (if r = 0 then [] else [[44]])) ∧ sx pTl u z) ?_ ?_
          · rintro z ⟨z1, z2⟩
            have hLz := puts_ne (puts_ne hLa (paT m k j r)) (if r = 0 then [] else [[44]])
            rw [show (8 : Int32) * nI (8 * k + j) + nI r = nI (8 * (8 * k + j) + r) by rw [show (8 : Int32) = nI 8 from rfl, pk_mul, nI_add]]
            refine wpt (by simp (disch := first | omega | decide) only [↓neg1, nlit, rI, rL, rI2, rL1, nI_add, pk_mul, sbT, dvT, nmd, ixT, ↓ibT, ltT, ltF, leT, leF, eqT, eqF, nM_ltT, nM_ltF, nM_leT, nM_leF, nM_eqF, nM_eqF', nbT0, nbT1, oI_s, oI_n, natF, natT, nltT, nltF, nleT, nleF, ↓reduceIte, lgc, not_true_eq_false, not_false_eq_true, or_false, false_or, or_true, true_or, and_true, true_and, and_false, false_and, ne_eq, eq_self, or_self, and_self]) ?_
            try rw [ix_n (by omega)]
            rw [(A' z2).2.1 209 _ rfl]
            refine wpc (nam hLz z2 z1) (fun y2 f2 => wpe h422 ?_)
            rw [show nI (100 * k + 20 + 10 * j) + 1 + nI r = nI (100 * k + 20 + 10 * j + 1 + r) by rw [show (1 : Int32) = nI 1 from rfl, nI_add, nI_add]]
            refine wpc (row (put_ne (Or.inl hLz)) f2.2 (place_p hC hk hj hr) f2.1) (fun y3 f3 => wpl ⟨nI_1 _, ?_, f3.2⟩)
            dsimp only
            rw [hpa, puts_app, puts_app, puts_app, puts_1]
            exact f3.1
          · intro Q' k' hk'
            by_cases e : r = 0
            · rw [if_pos e] at hk'
              exact wpt (by rw [e]; decide) (hk' w ⟨g2, g3⟩)
            · rw [if_neg e, puts_1] at hk'
              exact wpf (fun z => by
                have := Int32.le_iff_toInt_le.mp z
                rw [nI_toInt (by omega), show (0 : Int32).toInt = 0 by decide] at this
                omega) (wpc (say g3 (by decide) (by decide) wbq.2.1 g2) (fun d hd => hk' d hd))
        · rintro ⟨r0, w⟩ ⟨g1, g2, g3⟩
          dsimp only at g1 g2 g3
          subst g1
          dsimp only
          refine wpt (by simp (disch := first | omega | decide) only [↓neg1, nlit, rI, rL, rI2, rL1, nI_add, pk_mul, sbT, dvT, nmd, ixT, ↓ibT, ltT, ltF, leT, leF, eqT, eqF, nM_ltT, nM_ltF, nM_leT, nM_leF, nM_eqF, nM_eqF', nbT0, nbT1, oI_s, oI_n, natF, natT, nltT, nltF, nleT, nleF, ↓reduceIte, lgc, not_true_eq_false, not_false_eq_true, or_false, false_or, or_true, true_or, and_true, true_and, and_false, false_and, ne_eq, eq_self, or_self, and_self]) ?_
          rw [((A' g3).1 207 _ rfl).trans hpp.2.2]
          exact wpt (by simp (disch := first | omega | decide) only [↓neg1, nlit, rI, rL, rI2, rL1, nI_add, pk_mul, sbT, dvT, nmd, ixT, ↓ibT, ltT, ltF, leT, leF, eqT, eqF, nM_ltT, nM_ltF, nM_leT, nM_leF, nM_eqF, nM_eqF', nbT0, nbT1, oI_s, oI_n, natF, natT, nltT, nltF, nleT, nleF, ↓reduceIte, lgc, not_true_eq_false, not_false_eq_true, or_false, false_or, or_true, true_or, and_true, true_and, and_false, false_and, ne_eq, eq_self, or_self, and_self]) ⟨g2, g3⟩
        · rintro x ⟨x1, x2⟩
          have hLb := puts_ne hLa (paT m k j (pM m (8 * k + j)))
          generalize puts La (paT m k j (pM m (8 * k + j))) = Lb at *
          refine wpc (say x2 (by decide) (by decide) wbq.2.2.2.2.1 x1) (fun y1 f1 => wpe h422 (wpc (row (put_ne (Or.inr (by simp))) f1.2 (place_m hC hk hj) f1.1) (fun y2 f2 => wpc (say f2.2 (by decide) (by decide) wbq.2.2.2.2.2.2.1 f2.1) (fun y3 f3 => ?_))))
          have s3 := f3.2
          have hO3 := f3.1
          have hLc : put (puts (put Lb [41]) (rwT m (100 * k + 20 + 10 * j) (mz m (100 * k + 20 + 10 * j)))) [123] ≠ [] := put_ne (Or.inr (by simp))
          generalize put (puts (put Lb [41]) (rwT m (100 * k + 20 + 10 * j) (mz m (100 * k + 20 + 10 * j)))) [123] = Lc at *
          refine wpc (K' := fun d : cS => OG d (puts Lc (acT m (8 * k + j) (acn m (8 * k + j)))) ∧ sx pTl u d) (whl_cnt (fun i (st : Int32 × cS) => st.1 = nI i ∧ OG st.2 (puts Lc (acT m (8 * k + j) i)) ∧ sx pTl u st.2) (acn m (8 * k + j)) ?_ ?_ (by omega) ⟨rfl, hO3, s3⟩) (fun d hd => wpc (say hd.2 (by decide) (by decide) wbq.2.2.2.2.2.2.2 hd.1) (fun e he => wpl ⟨?_, fin e he.1, he.2⟩))
          · rintro i ⟨i0, w⟩ hi ⟨g1, g2, g3⟩
            dsimp only at g1 g2 g3
            subst g1
            dsimp only
            refine wpt (by simp (disch := first | omega | decide) only [↓neg1, nlit, rI, rL, rI2, rL1, nI_add, pk_mul, sbT, dvT, nmd, ixT, ↓ibT, ltT, ltF, leT, leF, eqT, eqF, nM_ltT, nM_ltF, nM_leT, nM_leF, nM_eqF, nM_eqF', nbT0, nbT1, oI_s, oI_n, natF, natT, nltT, nltF, nleT, nleF, ↓reduceIte, lgc, not_true_eq_false, not_false_eq_true, or_false, false_or, or_true, true_or, and_true, true_and, and_false, false_and, ne_eq, eq_self, or_self, and_self]) ?_
            rw [((A' g3).1 210 _ rfl).trans hmt.2.1]
            refine wpf (by simp (disch := first | omega | decide) only [↓neg1, nlit, rI, rL, rI2, rL1, nI_add, pk_mul, sbT, dvT, nmd, ixT, ↓ibT, ltT, ltF, leT, leF, eqT, eqF, nM_ltT, nM_ltF, nM_leT, nM_leF, nM_eqF, nM_eqF', nbT0, nbT1, oI_s, oI_n, natF, natT, nltT, nltF, nleT, nleF, ↓reduceIte, lgc, not_true_eq_false, not_false_eq_true, or_false, false_or, or_true, true_or, and_true, true_and, and_false, false_and, ne_eq, eq_self, or_self, and_self]) (wpl ?_)
            rw [show (40 : Int32) * nI (8 * k + j) + nI i = nI (40 * (8 * k + j) + i) by rw [show (40 : Int32) = nI 40 from rfl, pk_mul, nI_add]]
            refine wpt (by simp (disch := first | omega | decide) only [↓neg1, nlit, rI, rL, rI2, rL1, nI_add, pk_mul, sbT, dvT, nmd, ixT, ↓ibT, ltT, ltF, leT, leF, eqT, eqF, nM_ltT, nM_ltF, nM_leT, nM_leF, nM_eqF, nM_eqF', nbT0, nbT1, oI_s, oI_n, natF, natT, nltT, nltF, nleT, nleF, ↓reduceIte, lgc, not_true_eq_false, not_false_eq_true, or_false, false_or, or_true, true_or, and_true, true_and, and_false, false_and, ne_eq, eq_self, or_self, and_self]) ?_
            try rw [ix_n (by omega)]
            rw [(A' g3).2.1 212 _ rfl]
            have hLn := puts_ne hLc (acT m (8 * k + j) i)
            refine wpjQ (fun z : cS => OG z (puts (puts Lc (acT m (8 * k + j) i)) (preT m (40 * (8 * k + j) + i) none)) ∧ sx pTl u z) ?_ ?_
            · rintro z ⟨z1, z2⟩
              have h447 := e447 (n := n) (t := none) (a4 := 0) hn (A' z2) hG hM hi (fun t ht => by cases ht) z1
              rw [show (if (none : Option Nat) = none then (0 : Int32) else 1) = 0 from rfl] at h447
              refine wpc h447 (fun y1 f1 => wpc (say (sx_trans z2 (pG_T f1.2)) (by decide) (by decide) wbs.1 f1.1) (fun y2 f2 => wpl ⟨nI_1 _, ?_, f2.2⟩))
              dsimp only
              show OG y2 (puts Lc (acT m (8 * k + j) i ++ (preT m (40 * (8 * k + j) + i) none ++ ([wb (2 + opn m (40 * (8 * k + j) + i))] ++ opT m (8 * k + j) (40 * (8 * k + j) + i) ++ lbK m (8 * k + j) (40 * (8 * k + j) + i) none ++ [[59]]))))
              rw [puts_app, puts_app, puts_app, puts_1]
              exact f2.1
            · intro Q' k' hk'
              by_cases e : m.2 212 (40 * (8 * k + j) + i) = 0
              · have hp : preT m (40 * (8 * k + j) + i) none = [] := if_neg (fun z => z.2 e)
                rw [hp] at hk'
                exact wpt (by simp (disch := first | omega | decide) only [↓neg1, nlit, rI, rL, rI2, rL1, nI_add, pk_mul, sbT, dvT, nmd, ixT, ↓ibT, ltT, ltF, leT, leF, eqT, eqF, nM_ltT, nM_ltF, nM_leT, nM_leF, nM_eqF, nM_eqF', nbT0, nbT1, oI_s, oI_n, natF, natT, nltT, nltF, nleT, nleF, ↓reduceIte, lgc, not_true_eq_false, not_false_eq_true, or_false, false_or, or_true, true_or, and_true, true_and, and_false, false_and, ne_eq, eq_self, or_self, and_self, e]) (hk' w ⟨g2, g3⟩)
              · have hp : preT m (40 * (8 * k + j) + i) none = [sg (m.2 212 (40 * (8 * k + j) + i)), [58]] := if_pos ⟨rfl, e⟩
                rw [hp] at hk'
                refine wpf (by simp (disch := first | omega | decide) only [↓neg1, nlit, rI, rL, rI2, rL1, nI_add, pk_mul, sbT, dvT, nmd, ixT, ↓ibT, ltT, ltF, leT, leF, eqT, eqF, nM_ltT, nM_ltF, nM_leT, nM_leF, nM_eqF, nM_eqF', nbT0, nbT1, oI_s, oI_n, natF, natT, nltT, nltF, nleT, nleF, ↓reduceIte, lgc, not_true_eq_false, not_false_eq_true, or_false, false_or, or_true, true_or, and_true, true_and, and_false, false_and, ne_eq, eq_self, or_self, and_self, e]) (wpt (by simp (disch := first | omega | decide) only [↓neg1, nlit, rI, rL, rI2, rL1, nI_add, pk_mul, sbT, dvT, nmd, ixT, ↓ibT, ltT, ltF, leT, leF, eqT, eqF, nM_ltT, nM_ltF, nM_leT, nM_leF, nM_eqF, nM_eqF', nbT0, nbT1, oI_s, oI_n, natF, natT, nltT, nltF, nleT, nleF, ↓reduceIte, lgc, not_true_eq_false, not_false_eq_true, or_false, false_or, or_true, true_or, and_true, true_and, and_false, false_and, ne_eq, eq_self, or_self, and_self]) (wpc (nam hLn g3 g2) (fun y1 f1 => wpc (say f1.2 (by decide) (by decide) wbq.1 f1.1) (fun y2 f2 => hk' y2 f2))))
          · rintro ⟨i0, w⟩ ⟨g1, g2, g3⟩
            dsimp only at g1 g2 g3
            subst g1
            dsimp only
            refine wpt (by simp (disch := first | omega | decide) only [↓neg1, nlit, rI, rL, rI2, rL1, nI_add, pk_mul, sbT, dvT, nmd, ixT, ↓ibT, ltT, ltF, leT, leF, eqT, eqF, nM_ltT, nM_ltF, nM_leT, nM_leF, nM_eqF, nM_eqF', nbT0, nbT1, oI_s, oI_n, natF, natT, nltT, nltF, nleT, nleF, ↓reduceIte, lgc, not_true_eq_false, not_false_eq_true, or_false, false_or, or_true, true_or, and_true, true_and, and_false, false_and, ne_eq, eq_self, or_self, and_self]) ?_
            rw [((A' g3).1 210 _ rfl).trans hmt.2.1]
            exact wpt (by simp (disch := first | omega | decide) only [↓neg1, nlit, rI, rL, rI2, rL1, nI_add, pk_mul, sbT, dvT, nmd, ixT, ↓ibT, ltT, ltF, leT, leF, eqT, eqF, nM_ltT, nM_ltF, nM_leT, nM_leF, nM_eqF, nM_eqF', nbT0, nbT1, oI_s, oI_n, natF, natT, nltT, nltF, nleT, nleF, ↓reduceIte, lgc, not_true_eq_false, not_false_eq_true, or_false, false_or, or_true, true_or, and_true, true_and, and_false, false_and, ne_eq, eq_self, or_self, and_self]) ⟨g2, g3⟩
          · exact nI_1 _
      · rintro ⟨j0, w⟩ ⟨g1, g2, g3⟩
        dsimp only at g1 g2 g3
        subst g1
        dsimp only
        have hq8 := hqq.1
        refine wpt (by simp (disch := first | omega | decide) only [↓neg1, nlit, rI, rL, rI2, rL1, nI_add, pk_mul, sbT, dvT, nmd, ixT, ↓ibT, ltT, ltF, leT, leF, eqT, eqF, nM_ltT, nM_ltF, nM_leT, nM_leF, nM_eqF, nM_eqF', nbT0, nbT1, oI_s, oI_n, natF, natT, nltT, nltF, nleT, nleF, ↓reduceIte, lgc, not_true_eq_false, not_false_eq_true, or_false, false_or, or_true, true_or, and_true, true_and, and_false, false_and, ne_eq, eq_self, or_self, and_self]) ?_
        rw [((A' g3).1 203 _ rfl).trans hqq.2.2, nI_add]
        exact wpt (by simp (disch := first | omega | decide) only [↓neg1, nlit, rI, rL, rI2, rL1, nI_add, pk_mul, sbT, dvT, nmd, ixT, ↓ibT, ltT, ltF, leT, leF, eqT, eqF, nM_ltT, nM_ltF, nM_leT, nM_leF, nM_eqF, nM_eqF', nbT0, nbT1, oI_s, oI_n, natF, natT, nltT, nltF, nleT, nleF, ↓reduceIte, lgc, not_true_eq_false, not_false_eq_true, or_false, false_or, or_true, true_or, and_true, true_and, and_false, false_and, ne_eq, eq_self, or_self, and_self]) ⟨g2, g3⟩
  · intro Q' k' hk'
    rcases par_cs hC hk with ⟨p1, p2⟩ | ⟨p1, d, p2, p3⟩
    · rw [if_pos p1] at hk'
      exact wpt p1 (hk' d2 ⟨hO2, s2⟩)
    · rw [if_neg p1] at hk'
      refine wpf p1 (wpc (say s2 (by decide) (by decide) wbq.1 hO2) (fun y1 f1 => wpt (by simp (disch := first | omega | decide) only [↓neg1, nlit, rI, rL, rI2, rL1, nI_add, pk_mul, sbT, dvT, nmd, ixT, ↓ibT, ltT, ltF, leT, leF, eqT, eqF, nM_ltT, nM_ltF, nM_leT, nM_leF, nM_eqF, nM_eqF', nbT0, nbT1, oI_s, oI_n, natF, natT, nltT, nltF, nleT, nleF, ↓reduceIte, lgc, not_true_eq_false, not_false_eq_true, or_false, false_or, or_true, true_or, and_true, true_and, and_false, false_and, ne_eq, eq_self, or_self, and_self]) ?_))
      rw [(A' f1.2).1 201 _ rfl, p3]
      rw [p3, ix_n (by omega)] at hk'
      refine wpt (by simp (disch := first | omega | decide) only [↓neg1, nlit, rI, rL, rI2, rL1, nI_add, pk_mul, sbT, dvT, nmd, ixT, ↓ibT, ltT, ltF, leT, leF, eqT, eqF, nM_ltT, nM_ltF, nM_leT, nM_leF, nM_eqF, nM_eqF', nbT0, nbT1, oI_s, oI_n, natF, natT, nltT, nltF, nleT, nleF, ↓reduceIte, lgc, not_true_eq_false, not_false_eq_true, or_false, false_or, or_true, true_or, and_true, true_and, and_false, false_and, ne_eq, eq_self, or_self, and_self]) ?_
      try rw [ix_n (by omega)]
      rw [(A' f1.2).2.1 200 _ rfl]
      exact wpc (nam (put_ne (Or.inr (by simp))) f1.2 f1.1) (fun y2 f2 => hk' y2 f2)
/-- a PROGRAM in TOKENS -/
def catT (f : Nat → List (List Nat)) : Nat → List (List Nat)
  | 0 => []
  | k + 1 => catT f k ++ f k
def prT (m : cS) : List (List Nat) := catT (orT m) (ocn m) ++ (catT (kiT m) (kcn m) ++ (catT (maT m) (mcn m) ++ catT (clT m) (ccn m)))
theorem catT_1 {f : Nat → List (List Nat)} {k : Nat} : catT f (k + 1) = catT f k ++ f k := rfl
theorem e324 {n : Nat} {c m : cS} (hn : 1000 ≤ n) (hW : WT c) (hG : PG c m) : wp (d_324 n c) (fun r => r.1 = nI (min (puts [] (prT m)).length 8000) ∧ OC r.2 (puts [] (prT m)) ∧ sx qO c r.2) := by
  have hE := hG.1
  have hC := hE.2.2.1
  have hcc := (CCS_p hC).1
  have ho4 := hE.1.1
  have hk12 := hE.2.1.1
  have hm6 := hG.2.1.1
  have CA' : ∀ {d : cS}, sx qO c d → CA c d := fun h => CA_sx h nC_qO
  have W' : ∀ {d : cS}, sx qO c d → WT d := fun h => WT_sx hW h (fun i => qO_no (by omega))
  have R1 : ∀ {y : cS}, sx qO c y → ∀ A i, A ≠ 172 → A ≠ 173 → y.1 A i = c.1 A i := fun hy A i h1 h2 => hy.1 A i (qO_no (by omega))
  have R2 : ∀ {y : cS}, sx qO c y → ∀ A i, A ≠ 172 → A ≠ 173 → y.2 A i = c.2 A i := fun hy A i h1 h2 => hy.2 A i (qO_no (by omega))
  unfold prT
  rw [puts_app, puts_app, puts_app]
  unfold d_324
  refine wpl ?_
  have s0 : sx qO c (pI c 172 1 0) := sx_pI sx_rfl rfl
  have o0 : OC (pI c 172 1 0) [] := OC_nil (by rw [rI, if_pos ⟨rfl, rfl⟩]; rfl)
  refine wpc (K' := fun d : cS => OC d (puts [] (catT (orT m) (ocn m))) ∧ sx qO c d) (whl_cnt (fun o (st : Int32 × cS) => st.1 = nI o ∧ OC st.2 (puts [] (catT (orT m) o)) ∧ sx qO c st.2) (ocn m) ?_ ?_ (by omega) ⟨rfl, o0, s0⟩) ?_
  · rintro o ⟨i0, w⟩ hi ⟨g1, g2, g3⟩
    dsimp only at g1 g2 g3
    subst g1
    dsimp only
    rw [R1 g3 7 2 (by decide) (by decide), hE.1.2.1]
    refine wpf (by simp (disch := first | omega | decide) only [↓neg1, nlit, rI, rL, rI2, rL1, nI_add, pk_mul, sbT, dvT, nmd, ixT, ↓ibT, ltT, ltF, leT, leF, eqT, eqF, nM_ltT, nM_ltF, nM_leT, nM_leF, nM_eqF, nM_eqF', nbT0, nbT1, oI_s, oI_n, natF, natT, nltT, nltF, nleT, nleF, ↓reduceIte, lgc, not_true_eq_false, not_false_eq_true, or_false, false_or, or_true, true_or, and_true, true_and, and_false, false_and, ne_eq, eq_self, or_self, and_self]) (wpt (by simp (disch := first | omega | decide) only [↓neg1, nlit, rI, rL, rI2, rL1, nI_add, pk_mul, sbT, dvT, nmd, ixT, ↓ibT, ltT, ltF, leT, leF, eqT, eqF, nM_ltT, nM_ltF, nM_leT, nM_leF, nM_eqF, nM_eqF', nbT0, nbT1, oI_s, oI_n, natF, natT, nltT, nltF, nleT, nleF, ↓reduceIte, lgc, not_true_eq_false, not_false_eq_true, or_false, false_or, or_true, true_or, and_true, true_and, and_false, false_and, ne_eq, eq_self, or_self, and_self]) ?_)
    rw [ix_n (by omega)]
    refine wpc (e325 hn (W' g3) (OOS_CA (CA' g3) hE.1) hi g2) (fun d hd => wpl ⟨nI_1 _, ?_, sx_trans g3 hd.2⟩)
    dsimp only
    rw [catT_1, puts_app]
    exact hd.1
  · rintro ⟨i0, w⟩ ⟨g1, g2, g3⟩
    dsimp only at g1 g2 g3
    subst g1
    dsimp only
    rw [R1 g3 7 2 (by decide) (by decide), hE.1.2.1]
    exact wpt (by simp (disch := first | omega | decide) only [↓neg1, nlit, rI, rL, rI2, rL1, nI_add, pk_mul, sbT, dvT, nmd, ixT, ↓ibT, ltT, ltF, leT, leF, eqT, eqF, nM_ltT, nM_ltF, nM_leT, nM_leF, nM_eqF, nM_eqF', nbT0, nbT1, oI_s, oI_n, natF, natT, nltT, nltF, nleT, nleF, ↓reduceIte, lgc, not_true_eq_false, not_false_eq_true, or_false, false_or, or_true, true_or, and_true, true_and, and_false, false_and, ne_eq, eq_self, or_self, and_self]) ⟨g2, g3⟩
  rintro x ⟨x1, x2⟩
  generalize puts [] (catT (orT m) (ocn m)) = L1 at *
  refine wpc (K' := fun d : cS => OC d (puts L1 (catT (kiT m) (kcn m))) ∧ sx qO c d) (whl_cnt (fun o (st : Int32 × cS) => st.1 = nI o ∧ OC st.2 (puts L1 (catT (kiT m) o)) ∧ sx qO c st.2) (kcn m) ?_ ?_ (by omega) ⟨rfl, x1, x2⟩) ?_
  · rintro o ⟨i0, w⟩ hi ⟨g1, g2, g3⟩
    dsimp only at g1 g2 g3
    subst g1
    dsimp only
    rw [R1 g3 7 4 (by decide) (by decide), hE.2.1.2.1]
    refine wpf (by simp (disch := first | omega | decide) only [↓neg1, nlit, rI, rL, rI2, rL1, nI_add, pk_mul, sbT, dvT, nmd, ixT, ↓ibT, ltT, ltF, leT, leF, eqT, eqF, nM_ltT, nM_ltF, nM_leT, nM_leF, nM_eqF, nM_eqF', nbT0, nbT1, oI_s, oI_n, natF, natT, nltT, nltF, nleT, nleF, ↓reduceIte, lgc, not_true_eq_false, not_false_eq_true, or_false, false_or, or_true, true_or, and_true, true_and, and_false, false_and, ne_eq, eq_self, or_self, and_self]) (wpt (by simp (disch := first | omega | decide) only [↓neg1, nlit, rI, rL, rI2, rL1, nI_add, pk_mul, sbT, dvT, nmd, ixT, ↓ibT, ltT, ltF, leT, leF, eqT, eqF, nM_ltT, nM_ltF, nM_leT, nM_leF, nM_eqF, nM_eqF', nbT0, nbT1, oI_s, oI_n, natF, natT, nltT, nltF, nleT, nleF, ↓reduceIte, lgc, not_true_eq_false, not_false_eq_true, or_false, false_or, or_true, true_or, and_true, true_and, and_false, false_and, ne_eq, eq_self, or_self, and_self]) ?_)
    rw [ix_n (by omega)]
    refine wpc (e326 hn (W' g3) (EC_CA (CA' g3) hE) hi g2) (fun d hd => wpl ⟨nI_1 _, ?_, sx_trans g3 hd.2⟩)
    dsimp only
    rw [catT_1, puts_app]
    exact hd.1
  · rintro ⟨i0, w⟩ ⟨g1, g2, g3⟩
    dsimp only at g1 g2 g3
    subst g1
    dsimp only
    rw [R1 g3 7 4 (by decide) (by decide), hE.2.1.2.1]
    exact wpt (by simp (disch := first | omega | decide) only [↓neg1, nlit, rI, rL, rI2, rL1, nI_add, pk_mul, sbT, dvT, nmd, ixT, ↓ibT, ltT, ltF, leT, leF, eqT, eqF, nM_ltT, nM_ltF, nM_leT, nM_leF, nM_eqF, nM_eqF', nbT0, nbT1, oI_s, oI_n, natF, natT, nltT, nltF, nleT, nleF, ↓reduceIte, lgc, not_true_eq_false, not_false_eq_true, or_false, false_or, or_true, true_or, and_true, true_and, and_false, false_and, ne_eq, eq_self, or_self, and_self]) ⟨g2, g3⟩
  rintro y ⟨y1, y2⟩
  generalize puts L1 (catT (kiT m) (kcn m)) = L2 at *
  refine wpc (K' := fun d : cS => OC d (puts L2 (catT (maT m) (mcn m))) ∧ sx qO c d) (whl_cnt (fun o (st : Int32 × cS) => st.1 = nI o ∧ OC st.2 (puts L2 (catT (maT m) o)) ∧ sx qO c st.2) (mcn m) ?_ ?_ (by omega) ⟨rfl, y1, y2⟩) ?_
  · rintro o ⟨i0, w⟩ hi ⟨g1, g2, g3⟩
    dsimp only at g1 g2 g3
    subst g1
    dsimp only
    obtain ⟨q1, ⟨dd, q2, q3, q4⟩, q5⟩ := hG.2.1.2.2.2 o hi
    rw [R1 g3 7 7 (by decide) (by decide), hG.2.1.2.1]
    refine wpf (by simp (disch := first | omega | decide) only [↓neg1, nlit, rI, rL, rI2, rL1, nI_add, pk_mul, sbT, dvT, nmd, ixT, ↓ibT, ltT, ltF, leT, leF, eqT, eqF, nM_ltT, nM_ltF, nM_leT, nM_leF, nM_eqF, nM_eqF', nbT0, nbT1, oI_s, oI_n, natF, natT, nltT, nltF, nleT, nleF, ↓reduceIte, lgc, not_true_eq_false, not_false_eq_true, or_false, false_or, or_true, true_or, and_true, true_and, and_false, false_and, ne_eq, eq_self, or_self, and_self]) (wpc (e321 (i := 6) hn (W' g3) (by decide) g2) (fun d1 h1 => wpt (by simp (disch := first | omega | decide) only [↓neg1, nlit, rI, rL, rI2, rL1, nI_add, pk_mul, sbT, dvT, nmd, ixT, ↓ibT, ltT, ltF, leT, leF, eqT, eqF, nM_ltT, nM_ltF, nM_leT, nM_leF, nM_eqF, nM_eqF', nbT0, nbT1, oI_s, oI_n, natF, natT, nltT, nltF, nleT, nleF, ↓reduceIte, lgc, not_true_eq_false, not_false_eq_true, or_false, false_or, or_true, true_or, and_true, true_and, and_false, false_and, ne_eq, eq_self, or_self, and_self]) ?_))
    have t1 := sx_trans g3 h1.2
    try rw [ix_n (by omega)]
    rw [R2 t1 10 _ (by decide) (by decide), q1]
    refine wpc (e320 hn h1.1) (fun d2 h2 => wpc (e322 (b := 58) (by decide) h2.1) (fun d3 h3 => wpt (by simp (disch := first | omega | decide) only [↓neg1, nlit, rI, rL, rI2, rL1, nI_add, pk_mul, sbT, dvT, nmd, ixT, ↓ibT, ltT, ltF, leT, leF, eqT, eqF, nM_ltT, nM_ltF, nM_leT, nM_leF, nM_eqF, nM_eqF', nbT0, nbT1, oI_s, oI_n, natF, natT, nltT, nltF, nleT, nleF, ↓reduceIte, lgc, not_true_eq_false, not_false_eq_true, or_false, false_or, or_true, true_or, and_true, true_and, and_false, false_and, ne_eq, eq_self, or_self, and_self]) ?_))
    have t3 := sx_trans t1 (sx_trans h2.2 h3.2)
    rw [R1 t3 11 _ (by decide) (by decide), q3]
    refine wpt (by simp (disch := first | omega | decide) only [↓neg1, nlit, rI, rL, rI2, rL1, nI_add, pk_mul, sbT, dvT, nmd, ixT, ↓ibT, ltT, ltF, leT, leF, eqT, eqF, nM_ltT, nM_ltF, nM_leT, nM_leF, nM_eqF, nM_eqF', nbT0, nbT1, oI_s, oI_n, natF, natT, nltT, nltF, nleT, nleF, ↓reduceIte, lgc, not_true_eq_false, not_false_eq_true, or_false, false_or, or_true, true_or, and_true, true_and, and_false, false_and, ne_eq, eq_self, or_self, and_self]) ?_
    try rw [ix_n (by omega)]
    rw [(RK_CA (CA' t3) (by omega) (hE.2.1.2.2.2.1 dd q2)).1]
    refine wpc (e320 hn h3.1) (fun d4 h4 => ?_)
    have t4 := sx_trans t3 h4.2
    refine wpc (e321 (i := 7) hn (W' t4) (by decide) h4.1) (fun d5 h5 => ?_)
    have t5 := sx_trans t4 h5.2
    rw [show (1212 : Int32) + nI o = nI (1212 + o) from nI_add 1212 o]
    refine wpc (e330 hn (W' t5) (EC_CA (CA' t5) hE) (RT_Q (RQ_CA (CA' t5) q5) (by omega) (by omega)) h5.1) (fun d6 h6 => wpc (e322 (b := 59) (by decide) h6.1) (fun d7 h7 => wpl ⟨nI_1 _, ?_, sx_trans t5 (sx_trans h6.2 h7.2)⟩))
    dsimp only
    rw [catT_1, puts_app]
    unfold maT
    rw [puts_app, puts_1, puts_app, puts_1, puts_app, puts_1, puts_app, puts_1, puts_app, puts_1, puts_app, puts_1, q4, ix_n (by omega)]
    exact h7.1
  · rintro ⟨i0, w⟩ ⟨g1, g2, g3⟩
    dsimp only at g1 g2 g3
    subst g1
    dsimp only
    rw [R1 g3 7 7 (by decide) (by decide), hG.2.1.2.1]
    exact wpt (by simp (disch := first | omega | decide) only [↓neg1, nlit, rI, rL, rI2, rL1, nI_add, pk_mul, sbT, dvT, nmd, ixT, ↓ibT, ltT, ltF, leT, leF, eqT, eqF, nM_ltT, nM_ltF, nM_leT, nM_leF, nM_eqF, nM_eqF', nbT0, nbT1, oI_s, oI_n, natF, natT, nltT, nltF, nleT, nleF, ↓reduceIte, lgc, not_true_eq_false, not_false_eq_true, or_false, false_or, or_true, true_or, and_true, true_and, and_false, false_and, ne_eq, eq_self, or_self, and_self]) ⟨g2, g3⟩
  rintro z ⟨z1, z2⟩
  generalize puts L2 (catT (maT m) (mcn m)) = L3 at *
  refine wpc (K' := fun d : cS => OC d (puts L3 (catT (clT m) (ccn m))) ∧ sx qO c d) (whl_cnt (fun k (st : Int32 × cS) => st.1 = nI k ∧ OC st.2 (puts L3 (catT (clT m) k)) ∧ sx qO c st.2) (ccn m) ?_ ?_ (by omega) ⟨rfl, z1, z2⟩) (fun d hd => ⟨hd.1.1, hd.1, hd.2⟩)
  · rintro k ⟨i0, w⟩ hk ⟨g1, g2, g3⟩
    dsimp only at g1 g2 g3
    subst g1
    dsimp only
    have hqq := hC.1.2.2.2.2.1 k hk
    rw [R1 g3 7 10 (by decide) (by decide), hC.1.2.1]
    refine wpf (by simp (disch := first | omega | decide) only [↓neg1, nlit, rI, rL, rI2, rL1, nI_add, pk_mul, sbT, dvT, nmd, ixT, ↓ibT, ltT, ltF, leT, leF, eqT, eqF, nM_ltT, nM_ltF, nM_leT, nM_leF, nM_eqF, nM_eqF', nbT0, nbT1, oI_s, oI_n, natF, natT, nltT, nltF, nleT, nleF, ↓reduceIte, lgc, not_true_eq_false, not_false_eq_true, or_false, false_or, or_true, true_or, and_true, true_and, and_false, false_and, ne_eq, eq_self, or_self, and_self]) (wpc (e328 hn (W' g3) (EC_CA (CA' g3) hE) hk g2) (fun d1 h1 => ?_))
    have t1 := sx_trans g3 h1.2
    have h11 := h1.1
    have hcl : catT (clT m) (k + 1) = catT (clT m) k ++ (chT m k ++ (mtT m k (qM m k) ++ [[125]])) := rfl
    refine wpc (K' := fun d : cS => OC d (puts (puts (puts L3 (catT (clT m) k)) (chT m k)) (mtT m k (qM m k))) ∧ sx qO c d) (whl_cnt (fun j (st : Int32 × cS) => st.1 = nI j ∧ OC st.2 (puts (puts (puts L3 (catT (clT m) k)) (chT m k)) (mtT m k j)) ∧ sx qO c st.2) (qM m k) ?_ ?_ (by omega) ⟨rfl, h11, t1⟩) (fun d hd => wpc (e322 (b := 125) (by decide) hd.1) (fun e he => wpl ⟨nI_1 _, ?_, sx_trans hd.2 he.2⟩))
    · generalize puts (puts L3 (catT (clT m) k)) (chT m k) = L4 at *
      rintro j ⟨j0, w⟩ hj ⟨g1, g2, g3⟩
      dsimp only at g1 g2 g3
      subst g1
      dsimp only
      have hM : isMt m (8 * k + j) := ⟨by rw [show (8 * k + j) / 8 = k by omega]; exact hk, by rw [show (8 * k + j) / 8 = k by omega, show (8 * k + j) % 8 = j by omega]; exact hj⟩
      have hmt := (hG.2.2.2.1 _ hM).1
      have hn40 := hmt.1.2
      have hq8 := hqq.1
      refine wpt (by simp (disch := first | omega | decide) only [↓neg1, nlit, rI, rL, rI2, rL1, nI_add, pk_mul, sbT, dvT, nmd, ixT, ↓ibT, ltT, ltF, leT, leF, eqT, eqF, nM_ltT, nM_ltF, nM_leT, nM_leF, nM_eqF, nM_eqF', nbT0, nbT1, oI_s, oI_n, natF, natT, nltT, nltF, nleT, nleF, ↓reduceIte, lgc, not_true_eq_false, not_false_eq_true, or_false, false_or, or_true, true_or, and_true, true_and, and_false, false_and, ne_eq, eq_self, or_self, and_self]) ?_
      try rw [ix_n (by omega)]
      rw [R1 g3 17 _ (by decide) (by decide), hqq.2.1]
      refine wpf (by simp (disch := first | omega | decide) only [↓neg1, nlit, rI, rL, rI2, rL1, nI_add, pk_mul, sbT, dvT, nmd, ixT, ↓ibT, ltT, ltF, leT, leF, eqT, eqF, nM_ltT, nM_ltF, nM_leT, nM_leF, nM_eqF, nM_eqF', nbT0, nbT1, oI_s, oI_n, natF, natT, nltT, nltF, nleT, nleF, ↓reduceIte, lgc, not_true_eq_false, not_false_eq_true, or_false, false_or, or_true, true_or, and_true, true_and, and_false, false_and, ne_eq, eq_self, or_self, and_self]) ?_
      rw [show nI k * 8 + nI j = nI (8 * k + j) by rw [show (8 : Int32) = nI 8 from rfl, pk_mul, nI_add]; congr 1; omega]
      refine wpl (wpc (e329 hn (W' g3) (PG_CA (CA' g3) hG) hk hj g2) (fun y1 f1 => ?_))
      have u1 := sx_trans g3 f1.2
      have f11 := f1.1
      have hmt1 : mtT m k (j + 1) = mtT m k j ++ (mhT m k j ++ (acT m (8 * k + j) (acn m (8 * k + j)) ++ [[125]])) := rfl
      refine wpc (K' := fun d : cS => OC d (puts (puts (puts L4 (mtT m k j)) (mhT m k j)) (acT m (8 * k + j) (acn m (8 * k + j)))) ∧ sx qO c d) (whl_cnt (fun i (st : Int32 × cS) => st.1 = nI i ∧ OC st.2 (puts (puts (puts L4 (mtT m k j)) (mhT m k j)) (acT m (8 * k + j) i)) ∧ sx qO c st.2) (acn m (8 * k + j)) ?_ ?_ (by omega) ⟨rfl, f11, u1⟩) (fun d hd => wpc (e322 (b := 125) (by decide) hd.1) (fun e he => wpl ⟨nI_1 _, ?_, sx_trans hd.2 he.2⟩))
      · generalize puts (puts L4 (mtT m k j)) (mhT m k j) = L5 at *
        rintro i ⟨i0, w⟩ hi ⟨g1, g2, g3⟩
        dsimp only at g1 g2 g3
        subst g1
        dsimp only
        refine wpt (by simp (disch := first | omega | decide) only [↓neg1, nlit, rI, rL, rI2, rL1, nI_add, pk_mul, sbT, dvT, nmd, ixT, ↓ibT, ltT, ltF, leT, leF, eqT, eqF, nM_ltT, nM_ltF, nM_leT, nM_leF, nM_eqF, nM_eqF', nbT0, nbT1, oI_s, oI_n, natF, natT, nltT, nltF, nleT, nleF, ↓reduceIte, lgc, not_true_eq_false, not_false_eq_true, or_false, false_or, or_true, true_or, and_true, true_and, and_false, false_and, ne_eq, eq_self, or_self, and_self]) ?_
        try rw [ix_n (by omega)]
        rw [R1 g3 120 _ (by decide) (by decide), hmt.2.2.1]
        refine wpf (by simp (disch := first | omega | decide) only [↓neg1, nlit, rI, rL, rI2, rL1, nI_add, pk_mul, sbT, dvT, nmd, ixT, ↓ibT, ltT, ltF, leT, leF, eqT, eqF, nM_ltT, nM_ltF, nM_leT, nM_leF, nM_eqF, nM_eqF', nbT0, nbT1, oI_s, oI_n, natF, natT, nltT, nltF, nleT, nleF, ↓reduceIte, lgc, not_true_eq_false, not_false_eq_true, or_false, false_or, or_true, true_or, and_true, true_and, and_false, false_and, ne_eq, eq_self, or_self, and_self]) (wpt (by simp (disch := first | omega | decide) only [↓neg1, nlit, rI, rL, rI2, rL1, nI_add, pk_mul, sbT, dvT, nmd, ixT, ↓ibT, ltT, ltF, leT, leF, eqT, eqF, nM_ltT, nM_ltF, nM_leT, nM_leF, nM_eqF, nM_eqF', nbT0, nbT1, oI_s, oI_n, natF, natT, nltT, nltF, nleT, nleF, ↓reduceIte, lgc, not_true_eq_false, not_false_eq_true, or_false, false_or, or_true, true_or, and_true, true_and, and_false, false_and, ne_eq, eq_self, or_self, and_self]) ?_)
        rw [R1 g3 119 _ (by decide) (by decide), hmt.2.2.2.2.2.2.2.1, nI_add]
        have h333 := e333 (n := n) (t := none) hn (W' g3) (PG_CA (CA' g3) hG) hM hi (fun t ht => by cases ht) g2
        rw [FC_fa g3 nC_qO] at h333
        refine wpc h333 (fun d hd => wpl ⟨nI_1 _, ?_, sx_trans g3 hd.2⟩)
        dsimp only
        show OC d (puts L5 (acT m (8 * k + j) i ++ (preT m (40 * (8 * k + j) + i) none ++ ([wb (2 + opn m (40 * (8 * k + j) + i))] ++ opT m (8 * k + j) (40 * (8 * k + j) + i) ++ lbK m (8 * k + j) (40 * (8 * k + j) + i) none ++ [[59]]))))
        rw [puts_app]
        exact hd.1
      · rintro ⟨i0, w⟩ ⟨g1, g2, g3⟩
        dsimp only at g1 g2 g3
        subst g1
        dsimp only
        refine wpt (by simp (disch := first | omega | decide) only [↓neg1, nlit, rI, rL, rI2, rL1, nI_add, pk_mul, sbT, dvT, nmd, ixT, ↓ibT, ltT, ltF, leT, leF, eqT, eqF, nM_ltT, nM_ltF, nM_leT, nM_leF, nM_eqF, nM_eqF', nbT0, nbT1, oI_s, oI_n, natF, natT, nltT, nltF, nleT, nleF, ↓reduceIte, lgc, not_true_eq_false, not_false_eq_true, or_false, false_or, or_true, true_or, and_true, true_and, and_false, false_and, ne_eq, eq_self, or_self, and_self]) ?_
        try rw [ix_n (by omega)]
        rw [R1 g3 120 _ (by decide) (by decide), hmt.2.2.1]
        exact wpt (by simp (disch := first | omega | decide) only [↓neg1, nlit, rI, rL, rI2, rL1, nI_add, pk_mul, sbT, dvT, nmd, ixT, ↓ibT, ltT, ltF, leT, leF, eqT, eqF, nM_ltT, nM_ltF, nM_leT, nM_leF, nM_eqF, nM_eqF', nbT0, nbT1, oI_s, oI_n, natF, natT, nltT, nltF, nleT, nleF, ↓reduceIte, lgc, not_true_eq_false, not_false_eq_true, or_false, false_or, or_true, true_or, and_true, true_and, and_false, false_and, ne_eq, eq_self, or_self, and_self]) ⟨g2, g3⟩
      · dsimp only
        rw [hmt1, puts_app, puts_app, puts_app, puts_1]
        exact he.1
    · rintro ⟨j0, w⟩ ⟨g1, g2, g3⟩
      dsimp only at g1 g2 g3
      subst g1
      dsimp only
      have hq8 := hqq.1
      refine wpt (by simp (disch := first | omega | decide) only [↓neg1, nlit, rI, rL, rI2, rL1, nI_add, pk_mul, sbT, dvT, nmd, ixT, ↓ibT, ltT, ltF, leT, leF, eqT, eqF, nM_ltT, nM_ltF, nM_leT, nM_leF, nM_eqF, nM_eqF', nbT0, nbT1, oI_s, oI_n, natF, natT, nltT, nltF, nleT, nleF, ↓reduceIte, lgc, not_true_eq_false, not_false_eq_true, or_false, false_or, or_true, true_or, and_true, true_and, and_false, false_and, ne_eq, eq_self, or_self, and_self]) ?_
      try rw [ix_n (by omega)]
      rw [R1 g3 17 _ (by decide) (by decide), hqq.2.1]
      exact wpt (by simp (disch := first | omega | decide) only [↓neg1, nlit, rI, rL, rI2, rL1, nI_add, pk_mul, sbT, dvT, nmd, ixT, ↓ibT, ltT, ltF, leT, leF, eqT, eqF, nM_ltT, nM_ltF, nM_leT, nM_leF, nM_eqF, nM_eqF', nbT0, nbT1, oI_s, oI_n, natF, natT, nltT, nltF, nleT, nleF, ↓reduceIte, lgc, not_true_eq_false, not_false_eq_true, or_false, false_or, or_true, true_or, and_true, true_and, and_false, false_and, ne_eq, eq_self, or_self, and_self]) ⟨g2, g3⟩
    · dsimp only
      rw [hcl, puts_app, puts_app, puts_app, puts_1]
      exact he.1
  · rintro ⟨i0, w⟩ ⟨g1, g2, g3⟩
    dsimp only at g1 g2 g3
    subst g1
    dsimp only
    rw [R1 g3 7 10 (by decide) (by decide), hC.1.2.1]
    exact wpt (by simp (disch := first | omega | decide) only [↓neg1, nlit, rI, rL, rI2, rL1, nI_add, pk_mul, sbT, dvT, nmd, ixT, ↓ibT, ltT, ltF, leT, leF, eqT, eqF, nM_ltT, nM_ltF, nM_leT, nM_leF, nM_eqF, nM_eqF', nbT0, nbT1, oI_s, oI_n, natF, natT, nltT, nltF, nleT, nleF, ↓reduceIte, lgc, not_true_eq_false, not_false_eq_true, or_false, false_or, or_true, true_or, and_true, true_and, and_false, false_and, ne_eq, eq_self, or_self, and_self]) ⟨g2, g3⟩
theorem c_tell {n : Nat} {c u : cS} (hn : 3000 ≤ n) (hW : WT c) (h : PRG c (pI u 174 0 0)) (hJ : JO c (pI u 174 0 0)) : bo (d_61 n c) (d_123 n u) (fun d w => sx qO c d ∧ sx pTl (pI u 174 0 0) w ∧ JO d w) := by
  unfold bo d_61 d_123 lt
  generalize pI u 174 0 0 = v at h hJ ⊢
  rcases h with ⟨h1, h2⟩ | ⟨h1, m, h2, hA, hG⟩
  · refine wpj (wpt h1 ?_)
    exact wpt h2 ⟨rfl, sx_rfl, sx_rfl, hJ⟩
  refine wpj (wpf (by rw [h1]; decide) (wpc (e324 (by omega) hW hG) (fun r hr => ?_)))
  obtain ⟨r1, r2, r3⟩ := hr
  have hE := hG.1
  have hC := hE.2.2.1
  have hcc := (CCS_p hC).1
  have ho4 := hE.1.1
  have hk12 := hE.2.1.1
  have hm6 := hG.2.1.1
  refine wpf (by rw [(hA.2.2.1 14 rfl).trans h2]; decide) ?_
  show wp (Option.bind (whl _ n (0, pI (pI v 174 4 0) 174 5 0)) _) _
  generalize e8 : pI (pI v 174 4 0) 174 5 0 = k8
  have s8 : sx pTl v k8 := by
    rw [← e8]
    exact sx_pI (sx_pI sx_rfl rfl) rfl
  have o8 : OG k8 [] := by
    rw [← e8]
    refine ⟨OM_nil ?_, ?_⟩
    · rw [rI, if_neg (by omega), rI, if_pos ⟨rfl, rfl⟩]
      rfl
    · rw [rI, if_pos ⟨rfl, rfl⟩]
      rfl
  have A' : ∀ {d : cS}, sx pTl v d → AG m d := fun h => AG_pTl hA h
  have say : ∀ {d : cS} {j : Nat} {t L : List Nat}, sx pTl v d → j < 58 → 2 ≤ j → wb j = t → OG d L → wp (d_362 n j d) (fun e => OG e (put L t) ∧ sx pTl v e) := fun hs h1 h2 ht ho => wp_mono (e362w (by omega) h1 h2 ho) (fun e he => ⟨by rw [← ht]; exact he.1, sx_trans hs (pG_T he.2)⟩)
  have nam : ∀ {d : cS} {w : Int64} {L : List Nat}, L ≠ [] → sx pTl v d → OG d L → wp (d_363 n w d) (fun e => OG e (put L (sg w)) ∧ sx pTl v e) := fun hL hs ho => wp_mono (e363 (by omega) hL ho) (fun e he => ⟨he.1, sx_trans hs (pG_T he.2)⟩)
  have hfin : ∀ d : cS, OG d (puts [] (prT m)) → sx pTl v d → r.1 = d.1 174 4 ∧ sx qO c r.2 ∧ sx pTl v d ∧ JO r.2 d := fun d d1 d2 => ⟨r1.trans d1.1.1.symm, r3, d2, JO_of r2 d1.1⟩
  unfold prT at hfin
  rw [puts_app, puts_app, puts_app] at hfin
  refine wpc (K' := fun d : cS => OG d (puts [] (catT (orT m) (ocn m))) ∧ sx pTl v d) (whl_cnt (fun o (st : Int32 × cS) => st.1 = nI o ∧ OG st.2 (puts [] (catT (orT m) o)) ∧ sx pTl v st.2) (ocn m) ?_ ?_ (by omega) ⟨rfl, o8, s8⟩) ?_
  · rintro o ⟨i0, w⟩ hi ⟨g1, g2, g3⟩
    dsimp only at g1 g2 g3
    subst g1
    dsimp only
    rw [((A' g3).2.2.1 15 rfl).trans hE.1.2.2.1]
    refine wpf (by simp (disch := first | omega | decide) only [↓neg1, nlit, rI, rL, rI2, rL1, nI_add, pk_mul, sbT, dvT, nmd, ixT, ↓ibT, ltT, ltF, leT, leF, eqT, eqF, nM_ltT, nM_ltF, nM_leT, nM_leF, nM_eqF, nM_eqF', nbT0, nbT1, oI_s, oI_n, natF, natT, nltT, nltF, nleT, nleF, ↓reduceIte, lgc, not_true_eq_false, not_false_eq_true, or_false, false_or, or_true, true_or, and_true, true_and, and_false, false_and, ne_eq, eq_self, or_self, and_self]) (wpc (e444 (by omega) (A' g3) hE.1 hi g2) (fun d hd => wpl ⟨nI_1 _, ?_, sx_trans g3 hd.2⟩))
    dsimp only
    rw [catT_1, puts_app]
    exact hd.1
  · rintro ⟨i0, w⟩ ⟨g1, g2, g3⟩
    dsimp only at g1 g2 g3
    subst g1
    dsimp only
    rw [((A' g3).2.2.1 15 rfl).trans hE.1.2.2.1]
    exact wpt (by simp (disch := first | omega | decide) only [↓neg1, nlit, rI, rL, rI2, rL1, nI_add, pk_mul, sbT, dvT, nmd, ixT, ↓ibT, ltT, ltF, leT, leF, eqT, eqF, nM_ltT, nM_ltF, nM_leT, nM_leF, nM_eqF, nM_eqF', nbT0, nbT1, oI_s, oI_n, natF, natT, nltT, nltF, nleT, nleF, ↓reduceIte, lgc, not_true_eq_false, not_false_eq_true, or_false, false_or, or_true, true_or, and_true, true_and, and_false, false_and, ne_eq, eq_self, or_self, and_self]) ⟨g2, g3⟩
  rintro x ⟨x1, x2⟩
  generalize puts [] (catT (orT m) (ocn m)) = L1 at *
  refine wpc (K' := fun d : cS => OG d (puts L1 (catT (kiT m) (kcn m))) ∧ sx pTl v d) (whl_cnt (fun o (st : Int32 × cS) => st.1 = nI o ∧ OG st.2 (puts L1 (catT (kiT m) o)) ∧ sx pTl v st.2) (kcn m) ?_ ?_ (by omega) ⟨rfl, x1, x2⟩) ?_
  · rintro o ⟨i0, w⟩ hi ⟨g1, g2, g3⟩
    dsimp only at g1 g2 g3
    subst g1
    dsimp only
    rw [((A' g3).2.2.1 24 rfl).trans hE.2.1.2.2.1]
    refine wpf (by simp (disch := first | omega | decide) only [↓neg1, nlit, rI, rL, rI2, rL1, nI_add, pk_mul, sbT, dvT, nmd, ixT, ↓ibT, ltT, ltF, leT, leF, eqT, eqF, nM_ltT, nM_ltF, nM_leT, nM_leF, nM_eqF, nM_eqF', nbT0, nbT1, oI_s, oI_n, natF, natT, nltT, nltF, nleT, nleF, ↓reduceIte, lgc, not_true_eq_false, not_false_eq_true, or_false, false_or, or_true, true_or, and_true, true_and, and_false, false_and, ne_eq, eq_self, or_self, and_self]) (wpc (e445 (by omega) (A' g3) hE hi g2) (fun d hd => wpl ⟨nI_1 _, ?_, sx_trans g3 hd.2⟩))
    dsimp only
    rw [catT_1, puts_app]
    exact hd.1
  · rintro ⟨i0, w⟩ ⟨g1, g2, g3⟩
    dsimp only at g1 g2 g3
    subst g1
    dsimp only
    rw [((A' g3).2.2.1 24 rfl).trans hE.2.1.2.2.1]
    exact wpt (by simp (disch := first | omega | decide) only [↓neg1, nlit, rI, rL, rI2, rL1, nI_add, pk_mul, sbT, dvT, nmd, ixT, ↓ibT, ltT, ltF, leT, leF, eqT, eqF, nM_ltT, nM_ltF, nM_leT, nM_leF, nM_eqF, nM_eqF', nbT0, nbT1, oI_s, oI_n, natF, natT, nltT, nltF, nleT, nleF, ↓reduceIte, lgc, not_true_eq_false, not_false_eq_true, or_false, false_or, or_true, true_or, and_true, true_and, and_false, false_and, ne_eq, eq_self, or_self, and_self]) ⟨g2, g3⟩
  rintro y ⟨y1, y2⟩
  generalize puts L1 (catT (kiT m) (kcn m)) = L2 at *
  refine wpc (K' := fun d : cS => OG d (puts L2 (catT (maT m) (mcn m))) ∧ sx pTl v d) (whl_cnt (fun o (st : Int32 × cS) => st.1 = nI o ∧ OG st.2 (puts L2 (catT (maT m) o)) ∧ sx pTl v st.2) (mcn m) ?_ ?_ (by omega) ⟨rfl, y1, y2⟩) ?_
  · rintro o ⟨i0, w⟩ hi ⟨g1, g2, g3⟩
    dsimp only at g1 g2 g3
    subst g1
    dsimp only
    obtain ⟨q1, ⟨dd, q2, q3, q4⟩, q5⟩ := hG.2.1.2.2.2 o hi
    rw [((A' g3).2.2.1 34 rfl).trans hG.2.1.2.2.1]
    refine wpf (by simp (disch := first | omega | decide) only [↓neg1, nlit, rI, rL, rI2, rL1, nI_add, pk_mul, sbT, dvT, nmd, ixT, ↓ibT, ltT, ltF, leT, leF, eqT, eqF, nM_ltT, nM_ltF, nM_leT, nM_leF, nM_eqF, nM_eqF', nbT0, nbT1, oI_s, oI_n, natF, natT, nltT, nltF, nleT, nleF, ↓reduceIte, lgc, not_true_eq_false, not_false_eq_true, or_false, false_or, or_true, true_or, and_true, true_and, and_false, false_and, ne_eq, eq_self, or_self, and_self]) (wpc (say g3 (by decide) (by decide) rfl g2) (fun d1 h1 => wpt (by simp (disch := first | omega | decide) only [↓neg1, nlit, rI, rL, rI2, rL1, nI_add, pk_mul, sbT, dvT, nmd, ixT, ↓ibT, ltT, ltF, leT, leF, eqT, eqF, nM_ltT, nM_ltF, nM_leT, nM_leF, nM_eqF, nM_eqF', nbT0, nbT1, oI_s, oI_n, natF, natT, nltT, nltF, nleT, nleF, ↓reduceIte, lgc, not_true_eq_false, not_false_eq_true, or_false, false_or, or_true, true_or, and_true, true_and, and_false, false_and, ne_eq, eq_self, or_self, and_self]) ?_))
    have hn1 : put (puts L2 (catT (maT m) o)) (wb 8) ≠ [] := put_ne (Or.inr (wb_ne (by decide) (by decide)))
    try rw [ix_n (by omega)]
    rw [(A' h1.2).2.1 198 _ rfl]
    refine wpc (nam hn1 h1.2 h1.1) (fun d2 h2 => wpc (say h2.2 (by decide) (by decide) wbq.1 h2.1) (fun d3 h3 => wpt (by simp (disch := first | omega | decide) only [↓neg1, nlit, rI, rL, rI2, rL1, nI_add, pk_mul, sbT, dvT, nmd, ixT, ↓ibT, ltT, ltF, leT, leF, eqT, eqF, nM_ltT, nM_ltF, nM_leT, nM_leF, nM_eqF, nM_eqF', nbT0, nbT1, oI_s, oI_n, natF, natT, nltT, nltF, nleT, nleF, ↓reduceIte, lgc, not_true_eq_false, not_false_eq_true, or_false, false_or, or_true, true_or, and_true, true_and, and_false, false_and, ne_eq, eq_self, or_self, and_self]) ?_))
    rw [(A' h3.2).1 199 _ rfl, q4]
    refine wpt (by simp (disch := first | omega | decide) only [↓neg1, nlit, rI, rL, rI2, rL1, nI_add, pk_mul, sbT, dvT, nmd, ixT, ↓ibT, ltT, ltF, leT, leF, eqT, eqF, nM_ltT, nM_ltF, nM_leT, nM_leF, nM_eqF, nM_eqF', nbT0, nbT1, oI_s, oI_n, natF, natT, nltT, nltF, nleT, nleF, ↓reduceIte, lgc, not_true_eq_false, not_false_eq_true, or_false, false_or, or_true, true_or, and_true, true_and, and_false, false_and, ne_eq, eq_self, or_self, and_self]) ?_
    try rw [ix_n (by omega)]
    rw [(A' h3.2).2.1 189 _ rfl]
    refine wpc (nam (put_ne (Or.inr (by simp))) h3.2 h3.1) (fun d4 h4 => wpc (say h4.2 (by decide) (by decide) rfl h4.1) (fun d5 h5 => ?_))
    rw [show (1212 : Int32) + nI o = nI (1212 + o) from nI_add 1212 o]
    refine wpc (e442 (by omega) (A' h5.2) hE (RT_Q q5 (by omega) (by omega)) (put_ne (Or.inr (wb_ne (by decide) (by decide)))) h5.1) (fun d6 h6 => wpc (say (sx_trans h5.2 h6.2) (by decide) (by decide) wbs.1 h6.1) (fun d7 h7 => wpl ⟨nI_1 _, ?_, h7.2⟩))
    dsimp only
    rw [catT_1, puts_app]
    unfold maT
    rw [puts_app, puts_1, puts_app, puts_1, puts_app, puts_1, puts_app, puts_1, puts_app, puts_1, puts_app, puts_1, q4, ix_n (by omega)]
    exact h7.1
  · rintro ⟨i0, w⟩ ⟨g1, g2, g3⟩
    dsimp only at g1 g2 g3
    subst g1
    dsimp only
    rw [((A' g3).2.2.1 34 rfl).trans hG.2.1.2.2.1]
    exact wpt (by simp (disch := first | omega | decide) only [↓neg1, nlit, rI, rL, rI2, rL1, nI_add, pk_mul, sbT, dvT, nmd, ixT, ↓ibT, ltT, ltF, leT, leF, eqT, eqF, nM_ltT, nM_ltF, nM_leT, nM_leF, nM_eqF, nM_eqF', nbT0, nbT1, oI_s, oI_n, natF, natT, nltT, nltF, nleT, nleF, ↓reduceIte, lgc, not_true_eq_false, not_false_eq_true, or_false, false_or, or_true, true_or, and_true, true_and, and_false, false_and, ne_eq, eq_self, or_self, and_self]) ⟨g2, g3⟩
  rintro z ⟨z1, z2⟩
  generalize puts L2 (catT (maT m) (mcn m)) = L3 at *
  refine wpc (K' := fun d : cS => OG d (puts L3 (catT (clT m) (ccn m))) ∧ sx pTl v d) (whl_cnt (fun k (st : Int32 × cS) => st.1 = nI k ∧ OG st.2 (puts L3 (catT (clT m) k)) ∧ sx pTl v st.2) (ccn m) ?_ ?_ (by omega) ⟨rfl, z1, z2⟩) (fun d hd => hfin d hd.1 hd.2)
  · rintro k ⟨i0, w⟩ hk ⟨g1, g2, g3⟩
    dsimp only at g1 g2 g3
    subst g1
    dsimp only
    rw [((A' g3).2.2.1 37 rfl).trans hC.1.2.2.1]
    refine wpf (by simp (disch := first | omega | decide) only [↓neg1, nlit, rI, rL, rI2, rL1, nI_add, pk_mul, sbT, dvT, nmd, ixT, ↓ibT, ltT, ltF, leT, leF, eqT, eqF, nM_ltT, nM_ltF, nM_leT, nM_leF, nM_eqF, nM_eqF', nbT0, nbT1, oI_s, oI_n, natF, natT, nltT, nltF, nleT, nleF, ↓reduceIte, lgc, not_true_eq_false, not_false_eq_true, or_false, false_or, or_true, true_or, and_true, true_and, and_false, false_and, ne_eq, eq_self, or_self, and_self]) (wpc (e446 (by omega) (A' g3) hG hk g2) (fun d hd => wpl ⟨nI_1 _, ?_, sx_trans g3 hd.2⟩))
    dsimp only
    rw [catT_1, puts_app]
    exact hd.1
  · rintro ⟨i0, w⟩ ⟨g1, g2, g3⟩
    dsimp only at g1 g2 g3
    subst g1
    dsimp only
    rw [((A' g3).2.2.1 37 rfl).trans hC.1.2.2.1]
    exact wpt (by simp (disch := first | omega | decide) only [↓neg1, nlit, rI, rL, rI2, rL1, nI_add, pk_mul, sbT, dvT, nmd, ixT, ↓ibT, ltT, ltF, leT, leF, eqT, eqF, nM_ltT, nM_ltF, nM_leT, nM_leF, nM_eqF, nM_eqF', nbT0, nbT1, oI_s, oI_n, natF, natT, nltT, nltF, nleT, nleF, ↓reduceIte, lgc, not_true_eq_false, not_false_eq_true, or_false, false_or, or_true, true_or, and_true, true_and, and_false, false_and, ne_eq, eq_self, or_self, and_self]) ⟨g2, g3⟩
