/-! KINDS told by the reference; MAKERS -/
theorem val_r {n k j : Nat} {m u : cS} {L : List Nat} {β : Type} {K : β → Prop} {f : cS → Option β} (hn : 2000 ≤ n) (hL : L ≠ []) (h : OG u L) (hA : AG m u) (hk : 4 * k + j < 48) (hf : ∀ d, OG d (puts L (valT (txt m k j) (m.2 194 (4 * k + j)))) → sx pTl u d → wp (f d) K) : wp (if (u.1 192 (4 * k + j)) = 0 then (if ib (nI (4 * k + j)) 48 then Option.bind (d_365 n (((u.2 194 (4 * k + j)) : Int64).toInt32) u) (fun r26 => f r26) else none) else (if ib (nI (4 * k + j)) 48 then Option.bind (d_366 n (u.2 194 (4 * k + j)) u) (fun r28 => f r28) else none)) K := by
  rw [hA.1 192 _ rfl, hA.2.1 194 _ rfl]
  unfold valT at hf
  by_cases e : m.1 192 (4 * k + j) = nI 0
  · have ht : txt m k j = nI 1 := if_pos e
    rw [ht, if_neg (by decide)] at hf
    exact wpt e (wpt (by simp (disch := first | omega | decide) only [↓neg1, nlit, rI, rL, rI2, rL1, nI_add, pk_mul, sbT, dvT, nmd, ixT, ↓ibT, ltT, ltF, leT, leF, eqT, eqF, nM_ltT, nM_ltF, nM_leT, nM_leF, nM_eqF, nM_eqF', nbT0, nbT1, oI_s, oI_n, natF, natT, nltT, nltF, nleT, nleF, ↓reduceIte, lgc, not_true_eq_false, not_false_eq_true, or_false, false_or, or_true, true_or, and_true, true_and, and_false, false_and, ne_eq, eq_self, or_self, and_self]) (wpc (e365 hn hL h) (fun d hd => hf d hd.1 (pG_T hd.2))))
  · have ht : txt m k j = nI 2 := if_neg e
    rw [ht, if_pos rfl] at hf
    exact wpf e (wpt (by simp (disch := first | omega | decide) only [↓neg1, nlit, rI, rL, rI2, rL1, nI_add, pk_mul, sbT, dvT, nmd, ixT, ↓ibT, ltT, ltF, leT, leF, eqT, eqF, nM_ltT, nM_ltF, nM_leT, nM_leF, nM_eqF, nM_eqF', nbT0, nbT1, oI_s, oI_n, natF, natT, nltT, nltF, nleT, nleF, ↓reduceIte, lgc, not_true_eq_false, not_false_eq_true, or_false, false_or, or_true, true_or, and_true, true_and, and_false, false_and, ne_eq, eq_self, or_self, and_self]) (wpc (e366 (by omega) hL h) (fun d hd => hf d hd.1 (pG_T hd.2))))
theorem an4 : ∀ w : Fin 16, ((nI w.1 &&& 1 = 0) ↔ w.1.testBit 0 = false) ∧ ((nI w.1 &&& 2 = 0) ↔ w.1.testBit 1 = false) ∧ ((nI w.1 &&& 4 = 0) ↔ w.1.testBit 2 = false) ∧ ((nI w.1 &&& 8 = 0) ↔ w.1.testBit 3 = false) := by decide +kernel
theorem so_1 {n t : Nat} {w : Nat} {u y : cS} {L : List Nat} {x : Int32} {β : Type} {K : β → Prop} {f : cS → Option β} (hn : 2000 ≤ n) (ht : t < 4) (hx : (x = 0) ↔ w.testBit t = false) (h : OG y (puts L (soT w t))) (hs : sx pTl u y) (hf : ∀ d, OG d (puts L (soT w (t + 1))) → sx pTl u d → wp (f d) K) : wp (if x = 0 then f y else Option.bind (d_362 n (4 + t) y) (fun r => f r)) K := by
  have hso : soT w (t + 1) = soT w t ++ (if w.testBit t = true then [wb (4 + t)] else []) := rfl
  rw [hso] at hf
  by_cases e : w.testBit t = true
  · rw [if_pos e, puts_app, puts_1] at hf
    exact wpf (fun z => by rw [hx, e] at z; cases z) (wpc (e362w hn (by omega) (by omega) h) (fun d hd => hf d hd.1 (sx_trans hs (pG_T hd.2))))
  · rw [if_neg e, List.append_nil] at hf
    exact wpt (hx.mpr (by simpa using e)) (hf y h hs)
theorem e445 {n k : Nat} {c m u : cS} {L : List Nat} (hn : 2000 ≤ n) (hA : AG m u) (hE : EC c m) (hk : k < kcn m) (h : OG u L) : wp (d_445 n (nI k) u) (fun d => OG d (puts L (kiT m k)) ∧ sx pTl u d) := by
  have hk12 : k < 12 := by
    have := hE.2.1.1
    omega
  have hK := hE.2.1.2.2.2.1 k hk
  have hkn := hK.2.1
  have A' : ∀ {d : cS}, sx pTl u d → AG m d := fun h => AG_pTl hA h
  have h190 : ∀ {d : cS}, sx pTl u d → d.1 190 k = nI (kn m k) := fun h => ((A' h).1 190 _ rfl).trans hK.2.2.1
  unfold kiT
  rw [puts_app, puts_1, puts_app, puts_1, puts_app, puts_app, puts_app, puts_app, puts_app, puts_app, puts_app, puts_1]
  unfold d_445
  refine wpc (e362w hn (by decide) (by decide) h) (fun d1 h1 => wpt (by simp (disch := first | omega | decide) only [↓neg1, nlit, rI, rL, rI2, rL1, nI_add, pk_mul, sbT, dvT, nmd, ixT, ↓ibT, ltT, ltF, leT, leF, eqT, eqF, nM_ltT, nM_ltF, nM_leT, nM_leF, nM_eqF, nM_eqF', nbT0, nbT1, oI_s, oI_n, natF, natT, nltT, nltF, nleT, nleF, ↓reduceIte, lgc, not_true_eq_false, not_false_eq_true, or_false, false_or, or_true, true_or, and_true, true_and, and_false, false_and, ne_eq, eq_self, or_self, and_self]) ?_)
  have hL1 : put L (wb 3) ≠ [] := put_ne (Or.inr (wb_ne (by decide) (by decide)))
  try rw [ix_n (by omega)]
  rw [(A' (pG_T h1.2)).2.1 189 _ rfl]
  refine wpc (e363 (by omega) hL1 h1.1) (fun d2 h2 => ?_)
  have s2 := sx_trans (pG_T h1.2) (pG_T h2.2)
  have hO2 := h2.1
  have hL2 : put (put L (wb 3)) (sg (m.2 189 k)) ≠ [] := put_ne (Or.inl hL1)
  generalize put (put L (wb 3)) (sg (m.2 189 k)) = L2 at *
  refine wpc (K' := fun d : cS => OG d (puts L2 (meT m k (kn m k))) ∧ sx pTl u d) (whl_cnt (fun j (st : Int32 × cS) => st.1 = nI j ∧ OG st.2 (puts L2 (meT m k j)) ∧ sx pTl u st.2) (kn m k) ?_ ?_ (by omega) ⟨rfl, hO2, s2⟩) ?_
  · rintro j ⟨j0, w⟩ hj ⟨g1, g2, g3⟩
    dsimp only at g1 g2 g3
    subst g1
    dsimp only
    refine wpt (by simp (disch := first | omega | decide) only [↓neg1, nlit, rI, rL, rI2, rL1, nI_add, pk_mul, sbT, dvT, nmd, ixT, ↓ibT, ltT, ltF, leT, leF, eqT, eqF, nM_ltT, nM_ltF, nM_leT, nM_leF, nM_eqF, nM_eqF', nbT0, nbT1, oI_s, oI_n, natF, natT, nltT, nltF, nleT, nleF, ↓reduceIte, lgc, not_true_eq_false, not_false_eq_true, or_false, false_or, or_true, true_or, and_true, true_and, and_false, false_and, ne_eq, eq_self, or_self, and_self]) ?_
    try rw [ix_n (by omega)]
    rw [h190 g3]
    refine wpf (by simp (disch := first | omega | decide) only [↓neg1, nlit, rI, rL, rI2, rL1, nI_add, pk_mul, sbT, dvT, nmd, ixT, ↓ibT, ltT, ltF, leT, leF, eqT, eqF, nM_ltT, nM_ltF, nM_leT, nM_leF, nM_eqF, nM_eqF', nbT0, nbT1, oI_s, oI_n, natF, natT, nltT, nltF, nleT, nleF, ↓reduceIte, lgc, not_true_eq_false, not_false_eq_true, or_false, false_or, or_true, true_or, and_true, true_and, and_false, false_and, ne_eq, eq_self, or_self, and_self]) ?_
    rw [show (4 : Int32) * nI k + nI j = nI (4 * k + j) by rw [show (4 : Int32) = nI 4 from rfl, pk_mul, nI_add]]
    refine wpl ?_
    have hme : meT m k (j + 1) = meT m k j ++ ([if j = 0 then [40] else [44]] ++ ([sg (m.2 191 (4 * k + j))] ++ ([[58]] ++ ([wb (if m.1 192 (4 * k + j) = nI 0 then 14 else 15)] ++ (if m.1 193 (4 * k + j) = nI 0 then [] else [[61]] ++ valT (txt m k j) (m.2 194 (4 * k + j))))))) := rfl
    refine wpjQ (fun p : Nat => p < 58 ∧ 2 ≤ p ∧ (if j = 0 then [40] else [44]) = wb p) ?_ ?_
    · rintro p ⟨hp1, hp2, hbe⟩
      refine wpc (e362w hn hp1 hp2 g2) (fun y1 f1 => wpt (by simp (disch := first | omega | decide) only [↓neg1, nlit, rI, rL, rI2, rL1, nI_add, pk_mul, sbT, dvT, nmd, ixT, ↓ibT, ltT, ltF, leT, leF, eqT, eqF, nM_ltT, nM_ltF, nM_leT, nM_leF, nM_eqF, nM_eqF', nbT0, nbT1, oI_s, oI_n, natF, natT, nltT, nltF, nleT, nleF, ↓reduceIte, lgc, not_true_eq_false, not_false_eq_true, or_false, false_or, or_true, true_or, and_true, true_and, and_false, false_and, ne_eq, eq_self, or_self, and_self]) ?_)
      have t1 := sx_trans g3 (pG_T f1.2)
      have hn1 : put (puts L2 (meT m k j)) (wb p) ≠ [] := put_ne (Or.inr (wb_ne hp2 hp1))
      try rw [ix_n (by omega)]
      rw [(A' t1).2.1 191 _ rfl]
      refine wpc (e363 (by omega) hn1 f1.1) (fun y2 f2 => wpc (e362w hn (by decide) (by decide) f2.1) (fun y3 f3 => wpt (by simp (disch := first | omega | decide) only [↓neg1, nlit, rI, rL, rI2, rL1, nI_add, pk_mul, sbT, dvT, nmd, ixT, ↓ibT, ltT, ltF, leT, leF, eqT, eqF, nM_ltT, nM_ltF, nM_leT, nM_leF, nM_eqF, nM_eqF', nbT0, nbT1, oI_s, oI_n, natF, natT, nltT, nltF, nleT, nleF, ↓reduceIte, lgc, not_true_eq_false, not_false_eq_true, or_false, false_or, or_true, true_or, and_true, true_and, and_false, false_and, ne_eq, eq_self, or_self, and_self]) ?_))
      have t3 := sx_trans t1 (sx_trans (pG_T f2.2) (pG_T f3.2))
      have f31 := f3.1
      rw [wbq.1] at f31
      rw [(A' t3).1 192 _ rfl]
      refine wpjQ (fun p : Nat => p = if m.1 192 (4 * k + j) = nI 0 then 14 else 15) ?_ ?_
      · rintro p rfl
        refine wpc (e362w hn (by split <;> omega) (by split <;> omega) f31) (fun y4 f4 => wpt (by simp (disch := first | omega | decide) only [↓neg1, nlit, rI, rL, rI2, rL1, nI_add, pk_mul, sbT, dvT, nmd, ixT, ↓ibT, ltT, ltF, leT, leF, eqT, eqF, nM_ltT, nM_ltF, nM_leT, nM_leF, nM_eqF, nM_eqF', nbT0, nbT1, oI_s, oI_n, natF, natT, nltT, nltF, nleT, nleF, ↓reduceIte, lgc, not_true_eq_false, not_false_eq_true, or_false, false_or, or_true, true_or, and_true, true_and, and_false, false_and, ne_eq, eq_self, or_self, and_self]) ?_)
        have t4 := sx_trans t3 (pG_T f4.2)
        rw [(A' t4).1 193 _ rfl]
        have f41 := f4.1
        refine wpjQ (fun z : cS => OG z (puts L2 (meT m k (j + 1))) ∧ sx pTl u z) (fun z hz => wpl ⟨nI_1 _, hz.1, hz.2⟩) ?_
        intro Q' k' hk'
        rw [hme, hbe, puts_app, puts_app, puts_1, puts_app, puts_1, puts_app, puts_1, puts_app, puts_1] at hk'
        by_cases e : m.1 193 (4 * k + j) = nI 0
        · rw [if_pos e] at hk'
          exact wpt e (hk' y4 ⟨f41, t4⟩)
        · rw [if_neg e, puts_app, puts_1] at hk'
          refine wpf e (wpc (e362w hn (by decide) (by decide) f41) (fun y5 f5 => wpt (by simp (disch := first | omega | decide) only [↓neg1, nlit, rI, rL, rI2, rL1, nI_add, pk_mul, sbT, dvT, nmd, ixT, ↓ibT, ltT, ltF, leT, leF, eqT, eqF, nM_ltT, nM_ltF, nM_leT, nM_leF, nM_eqF, nM_eqF', nbT0, nbT1, oI_s, oI_n, natF, natT, nltT, nltF, nleT, nleF, ↓reduceIte, lgc, not_true_eq_false, not_false_eq_true, or_false, false_or, or_true, true_or, and_true, true_and, and_false, false_and, ne_eq, eq_self, or_self, and_self]) ?_))
          have t5 := sx_trans t4 (pG_T f5.2)
          have f51 := f5.1
          rw [wbq.2.2.2.1] at f51
          refine val_r (f := k') (K := Q') (L := put (put (put (put (put (puts L2 (meT m k j)) (wb p)) (sg (m.2 191 (4 * k + j)))) [58]) (wb (if m.1 192 (4 * k + j) = nI 0 then 14 else 15))) [61]) hn (put_ne (Or.inr (by simp))) f51 (A' t5) (by omega) (fun d hd1 hd2 => hk' d ⟨hd1, sx_trans t5 hd2⟩)
      · intro Q' k' hk'
        by_cases e : m.1 192 (4 * k + j) = nI 0
        · refine wpt e (hk' _ ?_)
          rw [if_pos e]
        · refine wpf e (hk' _ ?_)
          rw [if_neg e]
    · intro Q' k' hk'
      by_cases e0 : j = 0
      · exact wpt (by rw [e0]; rfl) (hk' _ ⟨by decide, by decide, by rw [if_pos e0]; exact wbq.2.2.1.symm⟩)
      · exact wpf (fun z => e0 ((nI_eq (by omega) (by omega)).mp z)) (hk' _ ⟨by decide, by decide, by rw [if_neg e0]; exact wbq.2.1.symm⟩)
  · rintro ⟨j0, w⟩ ⟨g1, g2, g3⟩
    dsimp only at g1 g2 g3
    subst g1
    dsimp only
    refine wpt (by simp (disch := first | omega | decide) only [↓neg1, nlit, rI, rL, rI2, rL1, nI_add, pk_mul, sbT, dvT, nmd, ixT, ↓ibT, ltT, ltF, leT, leF, eqT, eqF, nM_ltT, nM_ltF, nM_leT, nM_leF, nM_eqF, nM_eqF', nbT0, nbT1, oI_s, oI_n, natF, natT, nltT, nltF, nleT, nleF, ↓reduceIte, lgc, not_true_eq_false, not_false_eq_true, or_false, false_or, or_true, true_or, and_true, true_and, and_false, false_and, ne_eq, eq_self, or_self, and_self]) ?_
    try rw [ix_n (by omega)]
    rw [h190 g3]
    exact wpt (by simp (disch := first | omega | decide) only [↓neg1, nlit, rI, rL, rI2, rL1, nI_add, pk_mul, sbT, dvT, nmd, ixT, ↓ibT, ltT, ltF, leT, leF, eqT, eqF, nM_ltT, nM_ltF, nM_leT, nM_leF, nM_eqF, nM_eqF', nbT0, nbT1, oI_s, oI_n, natF, natT, nltT, nltF, nleT, nleF, ↓reduceIte, lgc, not_true_eq_false, not_false_eq_true, or_false, false_or, or_true, true_or, and_true, true_and, and_false, false_and, ne_eq, eq_self, or_self, and_self]) ⟨g2, g3⟩
  · rintro x ⟨x1, x2⟩
    have hL3 := puts_ne hL2 (meT m k (kn m k))
    generalize puts L2 (meT m k (kn m k)) = L3 at *
    refine wpt (by simp (disch := first | omega | decide) only [↓neg1, nlit, rI, rL, rI2, rL1, nI_add, pk_mul, sbT, dvT, nmd, ixT, ↓ibT, ltT, ltF, leT, leF, eqT, eqF, nM_ltT, nM_ltF, nM_leT, nM_leF, nM_eqF, nM_eqF', nbT0, nbT1, oI_s, oI_n, natF, natT, nltT, nltF, nleT, nleF, ↓reduceIte, lgc, not_true_eq_false, not_false_eq_true, or_false, false_or, or_true, true_or, and_true, true_and, and_false, false_and, ne_eq, eq_self, or_self, and_self]) ?_
    rw [h190 x2]
    refine wpjQ (fun z : cS => OG z (puts L3 (if kn m k = 0 then [] else [[41]])) ∧ sx pTl u z) ?_ ?_
    · rintro y ⟨y1, y2⟩
      have hL4 := puts_ne hL3 (if kn m k = 0 then [] else [[41]])
      generalize puts L3 (if kn m k = 0 then [] else [[41]]) = L4 at *
      refine wpt (by simp (disch := first | omega | decide) only [↓neg1, nlit, rI, rL, rI2, rL1, nI_add, pk_mul, sbT, dvT, nmd, ixT, ↓ibT, ltT, ltF, leT, leF, eqT, eqF, nM_ltT, nM_ltF, nM_leT, nM_leF, nM_eqF, nM_eqF', nbT0, nbT1, oI_s, oI_n, natF, natT, nltT, nltF, nleT, nleF, ↓reduceIte, lgc, not_true_eq_false, not_false_eq_true, or_false, false_or, or_true, true_or, and_true, true_and, and_false, false_and, ne_eq, eq_self, or_self, and_self]) ?_
      have h195 : ∀ {d : cS}, sx pTl u d → d.1 195 k = nI (kw m k) := fun h => ((A' h).1 195 _ rfl).trans hK.2.2.2.2.2.2.1
      have hkw := hK.2.2.2.2.2.1
      rw [h195 y2]
      refine wpjQ (fun z : cS => OG z (puts L4 (if kw m k = 15 then [] else [wb 10] ++ soT (kw m k) 4)) ∧ sx pTl u z) ?_ ?_
      · rintro r ⟨r1, r2⟩
        have hL5 := puts_ne hL4 (if kw m k = 15 then [] else [wb 10] ++ soT (kw m k) 4)
        generalize puts L4 (if kw m k = 15 then [] else [wb 10] ++ soT (kw m k) 4) = L5 at *
        refine wpt (by simp (disch := first | omega | decide) only [↓neg1, nlit, rI, rL, rI2, rL1, nI_add, pk_mul, sbT, dvT, nmd, ixT, ↓ibT, ltT, ltF, leT, leF, eqT, eqF, nM_ltT, nM_ltF, nM_leT, nM_leF, nM_eqF, nM_eqF', nbT0, nbT1, oI_s, oI_n, natF, natT, nltT, nltF, nleT, nleF, ↓reduceIte, lgc, not_true_eq_false, not_false_eq_true, or_false, false_or, or_true, true_or, and_true, true_and, and_false, false_and, ne_eq, eq_self, or_self, and_self]) ?_
        rw [(A' r2).1 196 _ rfl]
        refine wpjQ (fun z : cS => OG z (puts L5 (if m.1 196 k = nI 0 then [] else [wb 11])) ∧ sx pTl u z) ?_ ?_
        · rintro z ⟨z1, z2⟩
          have hL6 := puts_ne hL5 (if m.1 196 k = nI 0 then [] else [wb 11])
          generalize puts L5 (if m.1 196 k = nI 0 then [] else [wb 11]) = L6 at *
          refine wpt (by simp (disch := first | omega | decide) only [↓neg1, nlit, rI, rL, rI2, rL1, nI_add, pk_mul, sbT, dvT, nmd, ixT, ↓ibT, ltT, ltF, leT, leF, eqT, eqF, nM_ltT, nM_ltF, nM_leT, nM_leF, nM_eqF, nM_eqF', nbT0, nbT1, oI_s, oI_n, natF, natT, nltT, nltF, nleT, nleF, ↓reduceIte, lgc, not_true_eq_false, not_false_eq_true, or_false, false_or, or_true, true_or, and_true, true_and, and_false, false_and, ne_eq, eq_self, or_self, and_self]) ?_
          rw [(A' z2).1 197 _ rfl]
          refine wpjQ (fun z : cS => OG z (puts L6 (if m.1 197 k = nI 0 then [] else [wb 12])) ∧ sx pTl u z) ?_ ?_
          · rintro w ⟨w1, w2⟩
            have hL7 := puts_ne hL6 (if m.1 197 k = nI 0 then [] else [wb 12])
            generalize puts L6 (if m.1 197 k = nI 0 then [] else [wb 12]) = L7 at *
            have hQ := hE.2.1.2.2.2.2.2.1 k hk
            have hz20 := hQ.1.1
            rw [show (1200 : Int32) + nI k = nI (1200 + k) from nI_add 1200 k]
            refine wpt (by simp (disch := first | omega | decide) only [↓neg1, nlit, rI, rL, rI2, rL1, nI_add, pk_mul, sbT, dvT, nmd, ixT, ↓ibT, ltT, ltF, leT, leF, eqT, eqF, nM_ltT, nM_ltF, nM_leT, nM_leF, nM_eqF, nM_eqF', nbT0, nbT1, oI_s, oI_n, natF, natT, nltT, nltF, nleT, nleF, ↓reduceIte, lgc, not_true_eq_false, not_false_eq_true, or_false, false_or, or_true, true_or, and_true, true_and, and_false, false_and, ne_eq, eq_self, or_self, and_self]) ?_
            try rw [ix_n (by omega)]
            rw [(A' w2).2.2.2.1 _ (by omega), hQ.1.2.1]
            refine wpjQ (fun z : cS => OG z (puts L7 (if mz m (1200 + k) = 0 then [] else [[61]])) ∧ sx pTl u z) ?_ ?_
            · rintro v ⟨v1, v2⟩
              have hL8 := puts_ne hL7 (if mz m (1200 + k) = 0 then [] else [[61]])
              generalize puts L7 (if mz m (1200 + k) = 0 then [] else [[61]]) = L8 at *
              refine wpc (e442 hn (A' v2) hE (RT_Q hQ (by omega) (by omega)) hL8 v1) (fun q hq => wpc (e362w hn (by decide) (by decide) hq.1) (fun d hd => ⟨?_, sx_trans v2 (sx_trans hq.2 (pG_T hd.2))⟩))
              have := hd.1
              rw [wbs.1] at this
              exact this
            · intro Q' k' hk'
              by_cases e : mz m (1200 + k) = 0
              · rw [if_pos e] at hk'
                exact wpt (by rw [e]; decide) (hk' w ⟨w1, w2⟩)
              · rw [if_neg e, puts_1] at hk'
                refine wpf (fun z => by
                  have := Int32.le_iff_toInt_le.mp z
                  rw [nI_toInt (by omega), show (0 : Int32).toInt = 0 by decide] at this
                  omega) (wpc (e362w hn (by decide) (by decide) w1) (fun d hd => hk' d ⟨?_, sx_trans w2 (pG_T hd.2)⟩))
                have := hd.1
                rw [wbq.2.2.2.1] at this
                exact this
          · intro Q' k' hk'
            by_cases e : m.1 197 k = nI 0
            · rw [if_pos e] at hk'
              exact wpt e (hk' z ⟨z1, z2⟩)
            · rw [if_neg e, puts_1] at hk'
              exact wpf e (wpc (e362w hn (by decide) (by decide) z1) (fun d hd => hk' d ⟨hd.1, sx_trans z2 (pG_T hd.2)⟩))
        · intro Q' k' hk'
          by_cases e : m.1 196 k = nI 0
          · rw [if_pos e] at hk'
            exact wpt e (hk' r ⟨r1, r2⟩)
          · rw [if_neg e, puts_1] at hk'
            exact wpf e (wpc (e362w hn (by decide) (by decide) r1) (fun d hd => hk' d ⟨hd.1, sx_trans r2 (pG_T hd.2)⟩))
      · intro Q' k' hk'
        by_cases e : kw m k = 15
        · rw [if_pos e] at hk'
          exact wpt (by rw [e]; rfl) (hk' y ⟨y1, y2⟩)
        · rw [if_neg e, puts_app, puts_1] at hk'
          obtain ⟨q0, q1, q2, q3⟩ := an4 ⟨kw m k, hkw⟩
          refine wpf (fun z => e ((nI_eq (by omega) (by omega)).mp z)) (wpc (e362w hn (by decide) (by decide) y1) (fun r hr => wpt (by simp (disch := first | omega | decide) only [↓neg1, nlit, rI, rL, rI2, rL1, nI_add, pk_mul, sbT, dvT, nmd, ixT, ↓ibT, ltT, ltF, leT, leF, eqT, eqF, nM_ltT, nM_ltF, nM_leT, nM_leF, nM_eqF, nM_eqF', nbT0, nbT1, oI_s, oI_n, natF, natT, nltT, nltF, nleT, nleF, ↓reduceIte, lgc, not_true_eq_false, not_false_eq_true, or_false, false_or, or_true, true_or, and_true, true_and, and_false, false_and, ne_eq, eq_self, or_self, and_self]) ?_))
          have tr := sx_trans y2 (pG_T hr.2)
          have hr1 := hr.1
          generalize put L4 (wb 10) = L5 at *
          rw [h195 tr]
          refine wpj (so_1 (t := 0) (u := u) hn (by decide) q0 hr1 tr (fun a a1 a2 => wpt (by simp (disch := first | omega | decide) only [↓neg1, nlit, rI, rL, rI2, rL1, nI_add, pk_mul, sbT, dvT, nmd, ixT, ↓ibT, ltT, ltF, leT, leF, eqT, eqF, nM_ltT, nM_ltF, nM_leT, nM_leF, nM_eqF, nM_eqF', nbT0, nbT1, oI_s, oI_n, natF, natT, nltT, nltF, nleT, nleF, ↓reduceIte, lgc, not_true_eq_false, not_false_eq_true, or_false, false_or, or_true, true_or, and_true, true_and, and_false, false_and, ne_eq, eq_self, or_self, and_self]) ?_))
          rw [h195 a2]
          refine wpj (so_1 (t := 1) (u := u) hn (by decide) q1 a1 a2 (fun b b1 b2 => wpt (by simp (disch := first | omega | decide) only [↓neg1, nlit, rI, rL, rI2, rL1, nI_add, pk_mul, sbT, dvT, nmd, ixT, ↓ibT, ltT, ltF, leT, leF, eqT, eqF, nM_ltT, nM_ltF, nM_leT, nM_leF, nM_eqF, nM_eqF', nbT0, nbT1, oI_s, oI_n, natF, natT, nltT, nltF, nleT, nleF, ↓reduceIte, lgc, not_true_eq_false, not_false_eq_true, or_false, false_or, or_true, true_or, and_true, true_and, and_false, false_and, ne_eq, eq_self, or_self, and_self]) ?_))
          rw [h195 b2]
          refine wpj (so_1 (t := 2) (u := u) hn (by decide) q2 b1 b2 (fun v v1 v2 => wpt (by simp (disch := first | omega | decide) only [↓neg1, nlit, rI, rL, rI2, rL1, nI_add, pk_mul, sbT, dvT, nmd, ixT, ↓ibT, ltT, ltF, leT, leF, eqT, eqF, nM_ltT, nM_ltF, nM_leT, nM_leF, nM_eqF, nM_eqF', nbT0, nbT1, oI_s, oI_n, natF, natT, nltT, nltF, nleT, nleF, ↓reduceIte, lgc, not_true_eq_false, not_false_eq_true, or_false, false_or, or_true, true_or, and_true, true_and, and_false, false_and, ne_eq, eq_self, or_self, and_self]) ?_))
          rw [h195 v2]
          exact so_1 (t := 3) (u := u) hn (by decide) q3 v1 v2 (fun w w1 w2 => hk' w ⟨w1, w2⟩)
    · intro Q' k' hk'
      by_cases e : kn m k = 0
      · rw [if_pos e] at hk'
        exact wpt (by rw [e]; decide) (hk' x ⟨x1, x2⟩)
      · rw [if_neg e, puts_1] at hk'
        refine wpf (fun z => by
          have := Int32.le_iff_toInt_le.mp z
          rw [nI_toInt (by omega), show (0 : Int32).toInt = 0 by decide] at this
          omega) (wpc (e362w hn (by decide) (by decide) x1) (fun d hd => hk' d ⟨?_, sx_trans x2 (pG_T hd.2)⟩))
        have := hd.1
        rw [wbq.2.2.2.2.1] at this
        exact this
/-- a MAKER in TOKENS -/
def maT (m : cS) (k : Nat) : List (List Nat) := [wb 8] ++ ([sg (m.2 198 k)] ++ ([[58]] ++ ([sg (m.2 189 (ix (m.1 199 k)))] ++ ([wb 9] ++ (rwT m (1212 + k) (mz m (1212 + k)) ++ [[59]])))))
