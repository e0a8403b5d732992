/-! MARKS written by the reference -/
def pTl (a i : Nat) : Bool := decide ((a = 174 ∧ (i = 4 ∨ i = 5 ∨ i = 79)) ∨ a = 176)
theorem nP_pTl : nP pTl := by
  refine ⟨fun a i h => ?_, fun i h => ?_, fun i h => ?_, fun a i h1 h2 h3 => ?_, fun a i h1 h2 h3 => ?_⟩
  · have := PA_of h
    exact decide_eq_false (by omega)
  · have := PF_of h
    exact decide_eq_false (by omega)
  · exact decide_eq_false (by omega)
  · exact decide_eq_false (by omega)
  · exact decide_eq_false (by omega)
theorem pG_T {x y : cS} (h : sx pG x y) : sx pTl x y := sx_wide h (fun a i z => by
  have := of_decide_eq_false z
  exact decide_eq_false (by omega))
theorem AG_pTl {m u w : cS} (h : AG m u) (hs : sx pTl u w) : AG m w := AG_sx h hs nP_pTl
theorem OG_79 {u : cS} {L : List Nat} {v : Int64} (h : OG u L) : OG (pL u 174 79 v) L := h
theorem sx_79 {u : cS} {v : Int64} : sx pTl u (pL u 174 79 v) := sx_pL sx_rfl rfl
theorem AG_223 {m u : cS} {y : Nat} (h : AG m u) (hy : y < 24360) : u.2 223 y = m.2 223 y ∧ u.1 224 y = m.1 224 y ∧ u.1 225 y = m.1 225 y := ⟨h.2.2.2.2.1 y hy, h.2.2.2.2.2.1 y hy, h.2.2.2.2.2.2.1 y hy⟩
section MRW
variable {n x y : Nat} {c m u : cS} {L : List Nat}
theorem e366 {v : Int64} (hn : 1000 ≤ n) (hL : L ≠ []) (h : OG u L) : wp (d_366 n v u) (fun d => OG d (put L ([39] ++ sg v ++ [39])) ∧ sx pG u d) := by
  unfold d_366
  refine wpc (e361 h) (fun d0 h0 => wpc (e357 (b := 39) (by decide) h0.1) (fun d1 h1 => wpc (e358 hn h1.1) (fun d2 h2 => wpc (e357 (b := 39) (by decide) h2.1) (fun d3 h3 => ⟨?_, sx_trans h0.2.2 (pO_G (sx_trans h1.2 (sx_trans h2.2 h3.2)))⟩))))
  have hp : put L ([39] ++ sg v ++ [39]) = L ++ gp L ++ [39] ++ sg v ++ [39] := by
    unfold put
    simp only [List.append_assoc]
  exact OG_of (by rw [hp]; exact h3.1) (((sx_trans h1.2 (sx_trans h2.2 h3.2)).1 174 5 rfl).trans h0.2.1) (put_ne (Or.inl hL))
theorem e440 {v : Int64} (hn : 1000 ≤ n) (hA : AG m u) (h : MR m y) : d_440 n (nI y) v u = some (if pOf m y v = none then nI 0 else nI 1) := by
  obtain ⟨h1, h2, h3, h4⟩ := h
  unfold d_440
  refine eq_wp ?_
  refine wpc (K' := fun r : Int32 => r = if pOf m y v = none then nI 0 else nI 1) (whl_cnt (fun q (st : Int32 × Int32) => st.2 = nI q ∧ ((st.1 = nI 0 ∧ ∀ j, j < q → m.2 226 (y * 4 + j) ≠ v) ∨ (st.1 = nI 1 ∧ ∃ j, j < prn m y ∧ m.2 226 (y * 4 + j) = v))) (prn m y) ?_ ?_ (by omega) ⟨rfl, Or.inl ⟨rfl, fun j hj => by omega⟩⟩) ?_
  · rintro q ⟨f, q0⟩ hq ⟨g1, g2⟩
    dsimp only at g1 g2
    subst g1
    dsimp only
    refine wpt (by simp (disch := first | omega | decide) only [↓neg1, nlit, rI, rL, rI2, rL1, nI_add, pk_mul, sbT, dvT, nmd, ixT, ↓ibT, ltT, ltF, leT, leF, eqT, eqF, nM_ltT, nM_ltF, nM_leT, nM_leF, nM_eqF, nM_eqF', nbT0, nbT1, oI_s, oI_n, natF, natT, nltT, nltF, nleT, nleF, ↓reduceIte, lgc, not_true_eq_false, not_false_eq_true, or_false, false_or, or_true, true_or, and_true, true_and, and_false, false_and, ne_eq, eq_self, or_self, and_self]) ?_
    rw [ix_n (by omega), (AG_223 hA h1).2.2, h4]
    refine wpf (by simp (disch := first | omega | decide) only [↓neg1, nlit, rI, rL, rI2, rL1, nI_add, pk_mul, sbT, dvT, nmd, ixT, ↓ibT, ltT, ltF, leT, leF, eqT, eqF, nM_ltT, nM_ltF, nM_leT, nM_leF, nM_eqF, nM_eqF', nbT0, nbT1, oI_s, oI_n, natF, natT, nltT, nltF, nleT, nleF, ↓reduceIte, lgc, not_true_eq_false, not_false_eq_true, or_false, false_or, or_true, true_or, and_true, true_and, and_false, false_and, ne_eq, eq_self, or_self, and_self]) (wpj (wpj ?_))
    rcases g2 with ⟨rfl, g2⟩ | ⟨rfl, g2⟩
    · rw [show nI y * 4 + nI q = nI (y * 4 + q) by rw [show (4 : Int32) = nI 4 from rfl, pk_mul, nI_add]]
      refine wpt rfl (wpt (by simp (disch := first | omega | decide) only [↓neg1, nlit, rI, rL, rI2, rL1, nI_add, pk_mul, sbT, dvT, nmd, ixT, ↓ibT, ltT, ltF, leT, leF, eqT, eqF, nM_ltT, nM_ltF, nM_leT, nM_leF, nM_eqF, nM_eqF', nbT0, nbT1, oI_s, oI_n, natF, natT, nltT, nltF, nleT, nleF, ↓reduceIte, lgc, not_true_eq_false, not_false_eq_true, or_false, false_or, or_true, true_or, and_true, true_and, and_false, false_and, ne_eq, eq_self, or_self, and_self]) ?_)
      rw [ix_n (by omega), hA.2.2.2.2.2.2.2.1 _ (by omega)]
      by_cases e : m.2 226 (y * 4 + q) = v
      · exact wpt (by simp (disch := first | omega | decide) only [↓neg1, nlit, rI, rL, rI2, rL1, nI_add, pk_mul, sbT, dvT, nmd, ixT, ↓ibT, ltT, ltF, leT, leF, eqT, eqF, nM_ltT, nM_ltF, nM_leT, nM_leF, nM_eqF, nM_eqF', nbT0, nbT1, oI_s, oI_n, natF, natT, nltT, nltF, nleT, nleF, ↓reduceIte, lgc, not_true_eq_false, not_false_eq_true, or_false, false_or, or_true, true_or, and_true, true_and, and_false, false_and, ne_eq, eq_self, or_self, and_self, e]) (wpl ⟨nI_1 _, Or.inr ⟨rfl, q, hq, e⟩⟩)
      · refine wpf (by simp (disch := first | omega | decide) only [↓neg1, nlit, rI, rL, rI2, rL1, nI_add, pk_mul, sbT, dvT, nmd, ixT, ↓ibT, ltT, ltF, leT, leF, eqT, eqF, nM_ltT, nM_ltF, nM_leT, nM_leF, nM_eqF, nM_eqF', nbT0, nbT1, oI_s, oI_n, natF, natT, nltT, nltF, nleT, nleF, ↓reduceIte, lgc, not_true_eq_false, not_false_eq_true, or_false, false_or, or_true, true_or, and_true, true_and, and_false, false_and, ne_eq, eq_self, or_self, and_self, e]) (wpl ⟨nI_1 _, Or.inl ⟨rfl, fun j hj => ?_⟩⟩)
        by_cases ej : j = q
        · rw [ej]
          exact e
        · exact g2 j (by omega)
    · exact wpf (by decide) (wpl ⟨nI_1 _, Or.inr ⟨rfl, g2⟩⟩)
  · rintro ⟨f, q0⟩ ⟨g1, g2⟩
    dsimp only at g1 g2
    subst g1
    dsimp only
    refine wpt (by simp (disch := first | omega | decide) only [↓neg1, nlit, rI, rL, rI2, rL1, nI_add, pk_mul, sbT, dvT, nmd, ixT, ↓ibT, ltT, ltF, leT, leF, eqT, eqF, nM_ltT, nM_ltF, nM_leT, nM_leF, nM_eqF, nM_eqF', nbT0, nbT1, oI_s, oI_n, natF, natT, nltT, nltF, nleT, nleF, ↓reduceIte, lgc, not_true_eq_false, not_false_eq_true, or_false, false_or, or_true, true_or, and_true, true_and, and_false, false_and, ne_eq, eq_self, or_self, and_self]) ?_
    rw [ix_n (by omega), (AG_223 hA h1).2.2, h4]
    refine wpt (by simp (disch := first | omega | decide) only [↓neg1, nlit, rI, rL, rI2, rL1, nI_add, pk_mul, sbT, dvT, nmd, ixT, ↓ibT, ltT, ltF, leT, leF, eqT, eqF, nM_ltT, nM_ltF, nM_leT, nM_leF, nM_eqF, nM_eqF', nbT0, nbT1, oI_s, oI_n, natF, natT, nltT, nltF, nleT, nleF, ↓reduceIte, lgc, not_true_eq_false, not_false_eq_true, or_false, false_or, or_true, true_or, and_true, true_and, and_false, false_and, ne_eq, eq_self, or_self, and_self]) ?_
    rcases g2 with ⟨rfl, g2⟩ | ⟨rfl, j, hj, g2⟩
    · show nI 0 = _
      rw [if_pos (show pOf m y v = none from ff_no (fun j hj => decide_eq_false (g2 j hj)))]
    · show nI 1 = _
      rw [if_neg (show ¬ pOf m y v = none from fun z => of_decide_eq_false (ff_none (p := fun q => decide (m.2 226 (y * 4 + q) = v)) z j hj) g2)]
  · rintro r rfl
    refine wpt ?_ rfl
    by_cases e : pOf m y v = none
    · rw [if_pos e]
      exact Or.inl rfl
    · rw [if_neg e]
      exact Or.inr rfl
theorem e441 (hn : 1000 ≤ n) (hA : AG m u) (hE : EC c m) (hx : MKR c m x y) (hy : y < 24360) (ht : tOf m (m.2 223 y) ≠ none) : wp (d_441 n (nI y) u) (fun r => r.1 = (if whb m y = true then nI 1 else nI 0) ∧ ∃ v, r.2 = u ∨ r.2 = pL u 174 79 v) := by
  have hO := hE.1
  have ho4 := hO.1
  have hMR := MR_of hx hy
  obtain ⟨a1, a2, a3⟩ := AG_223 hA hy
  unfold d_441
  refine wpt (by simp (disch := first | omega | decide) only [↓neg1, nlit, rI, rL, rI2, rL1, nI_add, pk_mul, sbT, dvT, nmd, ixT, ↓ibT, ltT, ltF, leT, leF, eqT, eqF, nM_ltT, nM_ltF, nM_leT, nM_leF, nM_eqF, nM_eqF', nbT0, nbT1, oI_s, oI_n, natF, natT, nltT, nltF, nleT, nleF, ↓reduceIte, lgc, not_true_eq_false, not_false_eq_true, or_false, false_or, or_true, true_or, and_true, true_and, and_false, false_and, ne_eq, eq_self, or_self, and_self]) ?_
  rw [ix_n (by omega), a2]
  rcases hx.2.2.2.1 with h0 | h0
  · have h0 : m.1 224 y = nI 0 := h0
    have hw : whb m y = match oOf m (m.2 223 y) with
      | some o => (elI m y o).isSome
      | none => match kOf m (m.2 223 y) with
        | some k => (ff (fun j => decide (mbS m y k j < 0)) (kn m k)).isNone
        | none => false := by
      unfold whb
      exact if_neg (by rw [h0]; decide)
    refine wpt h0 (wpt (by simp (disch := first | omega | decide) only [↓neg1, nlit, rI, rL, rI2, rL1, nI_add, pk_mul, sbT, dvT, nmd, ixT, ↓ibT, ltT, ltF, leT, leF, eqT, eqF, nM_ltT, nM_ltF, nM_leT, nM_leF, nM_eqF, nM_eqF', nbT0, nbT1, oI_s, oI_n, natF, natT, nltT, nltF, nleT, nleF, ↓reduceIte, lgc, not_true_eq_false, not_false_eq_true, or_false, false_or, or_true, true_or, and_true, true_and, and_false, false_and, ne_eq, eq_self, or_self, and_self]) ?_)
    rw [a1]
    refine wpe (e372 (by omega) hA hO) ?_
    rcases tOf_cs hE ht with ⟨o, o1, o2, o3⟩ | ⟨k, k1, k2, k3, k4, k5⟩
    · rw [o2] at hw ⊢
      have hw : whb m y = (elI m y o).isSome := hw
      refine wpf (by simp (disch := first | omega | decide) only [↓neg1, nlit, rI, rL, rI2, rL1, nI_add, pk_mul, sbT, dvT, nmd, ixT, ↓ibT, ltT, ltF, leT, leF, eqT, eqF, nM_ltT, nM_ltF, nM_leT, nM_leF, nM_eqF, nM_eqF', nbT0, nbT1, oI_s, oI_n, natF, natT, nltT, nltF, nleT, nleF, ↓reduceIte, lgc, not_true_eq_false, not_false_eq_true, or_false, false_or, or_true, true_or, and_true, true_and, and_false, false_and, ne_eq, eq_self, or_self, and_self]) ?_
      refine wpe (e430 hn hA o1 hO hMR) (wpj ?_)
      rw [hw]
      cases hel : elI m y o with
      | none => exact wpt (by decide) (wpt (by decide) ⟨rfl, 0, Or.inl rfl⟩)
      | some e =>
        have he := el_lt hO o1 hel
        have h12 := (OOS_el hO o1).2.1
        exact wpf (by simp (disch := first | omega | decide) only [↓neg1, nlit, rI, rL, rI2, rL1, nI_add, pk_mul, sbT, dvT, nmd, ixT, ↓ibT, ltT, ltF, leT, leF, eqT, eqF, nM_ltT, nM_ltF, nM_leT, nM_leF, nM_eqF, nM_eqF', nbT0, nbT1, oI_s, oI_n, natF, natT, nltT, nltF, nleT, nleF, ↓reduceIte, lgc, not_true_eq_false, not_false_eq_true, or_false, false_or, or_true, true_or, and_true, true_and, and_false, false_and, ne_eq, eq_self, or_self, and_self]) (wpt (by decide) ⟨rfl, 0, Or.inl rfl⟩)
    · rw [k3, k4] at hw
      rw [k3]
      have hw : whb m y = (ff (fun j => decide (mbS m y k j < 0)) (kn m k)).isNone := hw
      have hK := hE.2.1.2.2.2.1 k k1
      have hkn := hK.2.1
      refine wpt (by decide) (wpt (by simp (disch := first | omega | decide) only [↓neg1, nlit, rI, rL, rI2, rL1, nI_add, pk_mul, sbT, dvT, nmd, ixT, ↓ibT, ltT, ltF, leT, leF, eqT, eqF, nM_ltT, nM_ltF, nM_leT, nM_leF, nM_eqF, nM_eqF', nbT0, nbT1, oI_s, oI_n, natF, natT, nltT, nltF, nleT, nleF, ↓reduceIte, lgc, not_true_eq_false, not_false_eq_true, or_false, false_or, or_true, true_or, and_true, true_and, and_false, false_and, ne_eq, eq_self, or_self, and_self]) ?_)
      have h373 := e373 (n := n) (v := m.2 223 y) (by omega) hA hE.2.1.1 hE.2.1.2.2.1
      rw [k4] at h373
      refine wpe h373 ?_
      have h190 : ∀ w, sx pTl u w → w.1 190 k = nI (kn m k) := fun w hw => ((AG_pTl hA hw).1 190 _ rfl).trans hK.2.2.1
      have s79 : ∀ w v, (w = u ∨ w = pL u 174 79 v) → sx pTl u w := fun w v hw => by
        rcases hw with rfl | rfl
        · exact sx_rfl
        · exact sx_79
      refine wpc (K' := fun r : Int32 × cS => r.1 = (if whb m y = true then nI 1 else nI 0) ∧ ∃ v, r.2 = u ∨ r.2 = pL u 174 79 v) (whl_cnt (fun j (st : Int32 × Int32 × cS) => st.2.1 = nI j ∧ (∃ v, st.2.2 = u ∨ st.2.2 = pL u 174 79 v) ∧ ((st.1 = nI 1 ∧ ∀ i, i < j → ¬ mbS m y k i < 0) ∨ (st.1 = nI 0 ∧ ∃ i, i < kn m k ∧ mbS m y k i < 0))) (kn m k) ?_ ?_ (by omega) ⟨rfl, ⟨0, Or.inl rfl⟩, Or.inl ⟨rfl, fun i hi => by omega⟩⟩) ?_
      · rintro j ⟨f, j0, w⟩ hj ⟨g1, ⟨v, g2⟩, g3⟩
        dsimp only at g1 g2 g3
        subst g1
        dsimp only
        refine wpt (by simp (disch := first | omega | decide) only [↓neg1, nlit, rI, rL, rI2, rL1, nI_add, pk_mul, sbT, dvT, nmd, ixT, ↓ibT, ltT, ltF, leT, leF, eqT, eqF, nM_ltT, nM_ltF, nM_leT, nM_leF, nM_eqF, nM_eqF', nbT0, nbT1, oI_s, oI_n, natF, natT, nltT, nltF, nleT, nleF, ↓reduceIte, lgc, not_true_eq_false, not_false_eq_true, or_false, false_or, or_true, true_or, and_true, true_and, and_false, false_and, ne_eq, eq_self, or_self, and_self]) ?_
        rw [show ix (oI (some k)) = k from ix_n (by omega), h190 w (s79 w v g2)]
        refine wpf (by simp (disch := first | omega | decide) only [↓neg1, nlit, rI, rL, rI2, rL1, nI_add, pk_mul, sbT, dvT, nmd, ixT, ↓ibT, ltT, ltF, leT, leF, eqT, eqF, nM_ltT, nM_ltF, nM_leT, nM_leF, nM_eqF, nM_eqF', nbT0, nbT1, oI_s, oI_n, natF, natT, nltT, nltF, nleT, nleF, ↓reduceIte, lgc, not_true_eq_false, not_false_eq_true, or_false, false_or, or_true, true_or, and_true, true_and, and_false, false_and, ne_eq, eq_self, or_self, and_self]) (wpj (wpj ?_))
        rcases g3 with ⟨rfl, g3⟩ | ⟨rfl, g3⟩
        · refine wpf (by decide) (wpe (e429 hn (AG_pTl hA (s79 w v g2)) k2 hK hj hMR) ?_)
          have hw2 : pL w 174 79 (mbV m y k j) = pL u 174 79 (mbV m y k j) := by
            rcases g2 with rfl | rfl
            · rfl
            · show (u.1, _) = (u.1, _)
              congr 1
              funext a i
              show (pL (pL u 174 79 v) 174 79 (mbV m y k j)).2 a i = (pL u 174 79 (mbV m y k j)).2 a i
              rw [rL, rL, rL]
              by_cases e : a = 174 ∧ i = 79
              · rw [if_pos e, if_pos e]
              · rw [if_neg e, if_neg e, if_neg e]
          dsimp only
          rw [hw2]
          by_cases e : mbS m y k j < 0
          · exact wpt e (wpl ⟨nI_1 _, ⟨_, Or.inr rfl⟩, Or.inr ⟨rfl, j, hj, e⟩⟩)
          · refine wpf e (wpl ⟨nI_1 _, ⟨_, Or.inr rfl⟩, Or.inl ⟨rfl, fun i hi => ?_⟩⟩)
            by_cases ei : i = j
            · rw [ei]
              exact e
            · exact g3 i (by omega)
        · exact wpt rfl (wpl ⟨nI_1 _, ⟨v, g2⟩, Or.inr ⟨rfl, g3⟩⟩)
      · rintro ⟨f, j0, w⟩ ⟨g1, ⟨v, g2⟩, g3⟩
        dsimp only at g1 g2 g3
        subst g1
        dsimp only
        refine wpt (by simp (disch := first | omega | decide) only [↓neg1, nlit, rI, rL, rI2, rL1, nI_add, pk_mul, sbT, dvT, nmd, ixT, ↓ibT, ltT, ltF, leT, leF, eqT, eqF, nM_ltT, nM_ltF, nM_leT, nM_leF, nM_eqF, nM_eqF', nbT0, nbT1, oI_s, oI_n, natF, natT, nltT, nltF, nleT, nleF, ↓reduceIte, lgc, not_true_eq_false, not_false_eq_true, or_false, false_or, or_true, true_or, and_true, true_and, and_false, false_and, ne_eq, eq_self, or_self, and_self]) ?_
        rw [show ix (oI (some k)) = k from ix_n (by omega), h190 w (s79 w v g2)]
        refine wpt (by simp (disch := first | omega | decide) only [↓neg1, nlit, rI, rL, rI2, rL1, nI_add, pk_mul, sbT, dvT, nmd, ixT, ↓ibT, ltT, ltF, leT, leF, eqT, eqF, nM_ltT, nM_ltF, nM_leT, nM_leF, nM_eqF, nM_eqF', nbT0, nbT1, oI_s, oI_n, natF, natT, nltT, nltF, nleT, nleF, ↓reduceIte, lgc, not_true_eq_false, not_false_eq_true, or_false, false_or, or_true, true_or, and_true, true_and, and_false, false_and, ne_eq, eq_self, or_self, and_self]) ⟨?_, v, g2⟩
        dsimp only
        rw [hw]
        rcases g3 with ⟨rfl, g3⟩ | ⟨rfl, i, hi, g3⟩
        · rw [ff_no (fun i hi => decide_eq_false (g3 i hi))]
          rfl
        · cases hf : ff (fun j => decide (mbS m y k j < 0)) (kn m k) with
          | none => exact absurd g3 (of_decide_eq_false (ff_none hf i hi))
          | some _ => rfl
      · rintro ⟨f, w⟩ ⟨g1, g2⟩
        dsimp only at g1 g2
        refine wpt ?_ ⟨g1, g2⟩
        dsimp only
        rw [g1]
        by_cases e : whb m y = true
        · rw [if_pos e]
          exact Or.inr rfl
        · rw [if_neg e]
          exact Or.inl rfl
  · have h0 : m.1 224 y = nI 1 := h0
    refine wpf (by rw [h0]; decide) ⟨?_, 0, Or.inl rfl⟩
    rw [show whb m y = true from if_pos h0]
    rfl
theorem e439 (hn : 2000 ≤ n) (hA : AG m u) (hE : EC c m) (hx : MKR c m x y) (hy : y < 24360) (ht : tOf m (m.2 223 y) ≠ none) (hw : whb m y = true) (h : OG u L) : wp (d_439 n (nI y) u) (fun d => OG d (puts L (mkW m y)) ∧ sx pTl u d) := by
  have hO := hE.1
  have ho4 := hO.1
  have hMR := MR_of hx hy
  have hnb := hx.2.2.2.1
  have A2 : ∀ {w : cS}, sx pTl u w → w.2 223 y = m.2 223 y ∧ w.1 224 y = m.1 224 y := fun hs => ⟨(AG_223 (AG_pTl hA hs) hy).1, (AG_223 (AG_pTl hA hs) hy).2.1⟩
  unfold mkW
  rw [puts_app, puts_1, puts_app, puts_app, puts_1]
  unfold d_439
  refine wpt (by simp (disch := first | omega | decide) only [↓neg1, nlit, rI, rL, rI2, rL1, nI_add, pk_mul, sbT, dvT, nmd, ixT, ↓ibT, ltT, ltF, leT, leF, eqT, eqF, nM_ltT, nM_ltF, nM_leT, nM_leF, nM_eqF, nM_eqF', nbT0, nbT1, oI_s, oI_n, natF, natT, nltT, nltF, nleT, nleF, ↓reduceIte, lgc, not_true_eq_false, not_false_eq_true, or_false, false_or, or_true, true_or, and_true, true_and, and_false, false_and, ne_eq, eq_self, or_self, and_self]) ?_
  rw [ix_n (by omega), (A2 sx_rfl).1]
  refine wpe (e372 (by omega) hA hO) (wpc (e362w hn (by decide) (by decide) h) (fun d1 h1 => ?_))
  have hOG1 := h1.1
  rw [wbs.2.1] at hOG1
  have s1 := pG_T h1.2
  have hL1 : put L [64] ≠ [] := put_ne (Or.inr (by simp))
  generalize put L [64] = L1 at *
  refine wpt (by simp (disch := first | omega | decide) only [↓neg1, nlit, rI, rL, rI2, rL1, nI_add, pk_mul, sbT, dvT, nmd, ixT, ↓ibT, ltT, ltF, leT, leF, eqT, eqF, nM_ltT, nM_ltF, nM_leT, nM_leF, nM_eqF, nM_eqF', nbT0, nbT1, oI_s, oI_n, natF, natT, nltT, nltF, nleT, nleF, ↓reduceIte, lgc, not_true_eq_false, not_false_eq_true, or_false, false_or, or_true, true_or, and_true, true_and, and_false, false_and, ne_eq, eq_self, or_self, and_self]) ?_
  rw [(A2 s1).2]
  refine wpjQ (fun z : cS => OG z (puts L1 (if m.1 224 y = nI 0 then [] else [wb 13])) ∧ sx pTl u z) ?_ ?_
  · rintro z ⟨z1, z2⟩
    have hL2 := puts_ne hL1 (if m.1 224 y = nI 0 then [] else [wb 13])
    generalize puts L1 (if m.1 224 y = nI 0 then [] else [wb 13]) = L2 at *
    refine wpt (by simp (disch := first | omega | decide) only [↓neg1, nlit, rI, rL, rI2, rL1, nI_add, pk_mul, sbT, dvT, nmd, ixT, ↓ibT, ltT, ltF, leT, leF, eqT, eqF, nM_ltT, nM_ltF, nM_leT, nM_leF, nM_eqF, nM_eqF', nbT0, nbT1, oI_s, oI_n, natF, natT, nltT, nltF, nleT, nleF, ↓reduceIte, lgc, not_true_eq_false, not_false_eq_true, or_false, false_or, or_true, true_or, and_true, true_and, and_false, false_and, ne_eq, eq_self, or_self, and_self]) ?_
    rw [(A2 z2).1]
    refine wpc (e363 (by omega) hL2 z1) (fun d2 h2 => ?_)
    have s2 := sx_trans z2 (pG_T h2.2)
    have hOG2 := h2.1
    have hL3 : put L2 (sg (m.2 223 y)) ≠ [] := put_ne (Or.inl hL2)
    generalize put L2 (sg (m.2 223 y)) = L3 at *
    refine wpt (by simp (disch := first | omega | decide) only [↓neg1, nlit, rI, rL, rI2, rL1, nI_add, pk_mul, sbT, dvT, nmd, ixT, ↓ibT, ltT, ltF, leT, leF, eqT, eqF, nM_ltT, nM_ltF, nM_leT, nM_leF, nM_eqF, nM_eqF', nbT0, nbT1, oI_s, oI_n, natF, natT, nltT, nltF, nleT, nleF, ↓reduceIte, lgc, not_true_eq_false, not_false_eq_true, or_false, false_or, or_true, true_or, and_true, true_and, and_false, false_and, ne_eq, eq_self, or_self, and_self]) ?_
    rw [(A2 s2).2]
    by_cases h0 : m.1 224 y = nI 0
    · refine wpt h0 ?_
      rw [if_pos h0]
      rcases tOf_cs hE ht with ⟨o, o1, o2, o3⟩ | ⟨k, k1, k2, k3, k4, k5⟩
      · rw [o2]
        have hwo : (elI m y o).isSome = true := by
          unfold whb at hw
          rw [if_neg (by rw [h0]; decide), o2] at hw
          exact hw
        obtain ⟨e, he⟩ := Option.isSome_iff_exists.mp hwo
        have hel := el_lt hE.1 o1 he
        have hel12 := (OOS_el hE.1 o1).2.1
        have hin : inT m y = [[46], sg (m.2 183 (12 * o + e))] := by
          unfold inT
          rw [o2]
          dsimp only
          rw [he]
          rfl
        rw [hin]
        refine wpf (by simp (disch := first | omega | decide) only [↓neg1, nlit, rI, rL, rI2, rL1, nI_add, pk_mul, sbT, dvT, nmd, ixT, ↓ibT, ltT, ltF, leT, leF, eqT, eqF, nM_ltT, nM_ltF, nM_leT, nM_leF, nM_eqF, nM_eqF', nbT0, nbT1, oI_s, oI_n, natF, natT, nltT, nltF, nleT, nleF, ↓reduceIte, lgc, not_true_eq_false, not_false_eq_true, or_false, false_or, or_true, true_or, and_true, true_and, and_false, false_and, ne_eq, eq_self, or_self, and_self]) (wpc (e362w hn (by decide) (by decide) hOG2) (fun d3 h3 => ?_))
        have hOG3 := h3.1
        rw [wbs.2.2.1] at hOG3
        have s3 := sx_trans s2 (pG_T h3.2)
        have h430 := e430 (n := n) (by omega) (AG_pTl hA s3) o1 hO hMR
        rw [he] at h430
        refine wpe h430 ?_
        rw [show (12 : Int32) * oI (some o) + nI e = nI (12 * o + e) by show (12 : Int32) * nI o + nI e = _; rw [show (12 : Int32) = nI 12 from rfl, pk_mul, nI_add]]
        refine wpt (by simp (disch := first | omega | decide) only [↓neg1, nlit, rI, rL, rI2, rL1, nI_add, pk_mul, sbT, dvT, nmd, ixT, ↓ibT, ltT, ltF, leT, leF, eqT, eqF, nM_ltT, nM_ltF, nM_leT, nM_leF, nM_eqF, nM_eqF', nbT0, nbT1, oI_s, oI_n, natF, natT, nltT, nltF, nleT, nleF, ↓reduceIte, lgc, not_true_eq_false, not_false_eq_true, or_false, false_or, or_true, true_or, and_true, true_and, and_false, false_and, ne_eq, eq_self, or_self, and_self]) ?_
        rw [ix_n (by omega), (AG_pTl hA s3).2.1 183 _ rfl]
        exact wpc (e363 (by omega) (put_ne (Or.inl hL3)) hOG3) (fun d4 h4 => ⟨h4.1, sx_trans s3 (pG_T h4.2)⟩)
      · rw [k3]
        have hwk : ∀ j, j < kn m k → ¬ mbS m y k j < 0 := by
          unfold whb at hw
          rw [if_neg (by rw [h0]; decide), k3, k4] at hw
          intro j hj
          have hw : (ff (fun j => decide (mbS m y k j < 0)) (kn m k)).isNone = true := hw
          rw [Option.isNone_iff_eq_none] at hw
          exact of_decide_eq_false (ff_none hw j hj)
        have hin : inT m y = mbL m y k (kn m k) ++ (if mbL m y k (kn m k) = [] then [] else [[41]]) := by
          unfold inT
          rw [k3, k4]
        rw [hin, puts_app]
        have hK := hE.2.1.2.2.2.1 k k1
        have hkn := hK.2.1
        refine wpt (by decide) (wpt (by simp (disch := first | omega | decide) only [↓neg1, nlit, rI, rL, rI2, rL1, nI_add, pk_mul, sbT, dvT, nmd, ixT, ↓ibT, ltT, ltF, leT, leF, eqT, eqF, nM_ltT, nM_ltF, nM_leT, nM_leF, nM_eqF, nM_eqF', nbT0, nbT1, oI_s, oI_n, natF, natT, nltT, nltF, nleT, nleF, ↓reduceIte, lgc, not_true_eq_false, not_false_eq_true, or_false, false_or, or_true, true_or, and_true, true_and, and_false, false_and, ne_eq, eq_self, or_self, and_self]) ?_)
        rw [(A2 s2).1]
        have h373 := e373 (n := n) (v := m.2 223 y) (by omega) (AG_pTl hA s2) hE.2.1.1 hE.2.1.2.2.1
        rw [k4] at h373
        refine wpe h373 ?_
        refine wpc (K' := fun r : Int32 × cS => (r.1 = if mbL m y k (kn m k) = [] then nI 0 else nI 1) ∧ OG r.2 (puts L3 (mbL m y k (kn m k))) ∧ sx pTl u r.2) (whl_cnt (fun j (st : Int32 × Int32 × cS) => (st.1 = if mbL m y k j = [] then nI 0 else nI 1) ∧ st.2.1 = nI j ∧ OG st.2.2 (puts L3 (mbL m y k j)) ∧ sx pTl u st.2.2) (kn m k) ?_ ?_ (by omega) ⟨rfl, rfl, hOG2, s2⟩) ?_
        · rintro j ⟨f0, j0, w⟩ hj ⟨g1, g2, g3, g4⟩
          dsimp only at g1 g2 g3 g4
          subst g2
          dsimp only
          have hAw := AG_pTl hA g4
          refine wpt (by simp (disch := first | omega | decide) only [↓neg1, nlit, rI, rL, rI2, rL1, nI_add, pk_mul, sbT, dvT, nmd, ixT, ↓ibT, ltT, ltF, leT, leF, eqT, eqF, nM_ltT, nM_ltF, nM_leT, nM_leF, nM_eqF, nM_eqF', nbT0, nbT1, oI_s, oI_n, natF, natT, nltT, nltF, nleT, nleF, ↓reduceIte, lgc, not_true_eq_false, not_false_eq_true, or_false, false_or, or_true, true_or, and_true, true_and, and_false, false_and, ne_eq, eq_self, or_self, and_self]) ?_
          rw [show ix (oI (some k)) = k from ix_n (by omega), (hAw.1 190 _ rfl).trans hK.2.2.1]
          refine wpf (by simp (disch := first | omega | decide) only [↓neg1, nlit, rI, rL, rI2, rL1, nI_add, pk_mul, sbT, dvT, nmd, ixT, ↓ibT, ltT, ltF, leT, leF, eqT, eqF, nM_ltT, nM_ltF, nM_leT, nM_leF, nM_eqF, nM_eqF', nbT0, nbT1, oI_s, oI_n, natF, natT, nltT, nltF, nleT, nleF, ↓reduceIte, lgc, not_true_eq_false, not_false_eq_true, or_false, false_or, or_true, true_or, and_true, true_and, and_false, false_and, ne_eq, eq_self, or_self, and_self]) ?_
          rw [show (4 : Int32) * oI (some k) + nI j = nI (4 * k + j) by show (4 : Int32) * nI k + nI j = _; rw [show (4 : Int32) = nI 4 from rfl, pk_mul, nI_add]]
          refine wpt (by simp (disch := first | omega | decide) only [↓neg1, nlit, rI, rL, rI2, rL1, nI_add, pk_mul, sbT, dvT, nmd, ixT, ↓ibT, ltT, ltF, leT, leF, eqT, eqF, nM_ltT, nM_ltF, nM_leT, nM_leF, nM_eqF, nM_eqF', nbT0, nbT1, oI_s, oI_n, natF, natT, nltT, nltF, nleT, nleF, ↓reduceIte, lgc, not_true_eq_false, not_false_eq_true, or_false, false_or, or_true, true_or, and_true, true_and, and_false, false_and, ne_eq, eq_self, or_self, and_self]) ?_
          rw [ix_n (by omega), hAw.2.1 191 _ rfl]
          refine wpe (e440 (by omega) hAw hMR) ?_
          refine wpjQ (fun z : Int32 × cS => (z.1 = if mbL m y k (j + 1) = [] then nI 0 else nI 1) ∧ OG z.2 (puts L3 (mbL m y k (j + 1))) ∧ sx pTl u z.2) (fun z hz => wpl ⟨hz.1, nI_1 _, hz.2.1, hz.2.2⟩) ?_
          intro Q' k' hk'
          cases hp : pOf m y (m.2 191 (4 * k + j)) with
          | none =>
            have hm : mbL m y k (j + 1) = mbL m y k j := by
              show mbL m y k j ++ (if _ then _ else _) = _
              rw [if_pos hp, List.append_nil]
            rw [hm] at hk'
            rw [show (if (none : Option Nat) = none then nI 0 else nI 1) = nI 0 from rfl]
            exact wpt rfl (hk' _ ⟨g1, g3, g4⟩)
          | some q =>
            have hm : mbL m y k (j + 1) = mbL m y k j ++ ([if mbL m y k j = [] then [40] else [44]] ++ ([sg (m.2 191 (4 * k + j))] ++ ([[61]] ++ valT (txt m k j) (mbV m y k j)))) := by
              show mbL m y k j ++ (if _ then _ else _) = _
              rw [if_neg (by rw [hp]; exact fun z => by cases z)]
            have hmne : mbL m y k (j + 1) ≠ [] := by
              rw [hm]
              intro z
              rw [List.append_eq_nil_iff] at z
              cases z.2
            obtain ⟨i1, i2, i3⟩ := mb_in hx hp (hwk j hj)
            rw [show (if (some q : Option Nat) = none then nI 0 else nI 1) = nI 1 from rfl]
            refine wpf (by decide) ?_
            refine wpjQ (fun p : Nat => p < 58 ∧ 2 ≤ p ∧ (if mbL m y k j = [] then [40] else [44]) = wb p) ?_ ?_
            · rintro p ⟨hp1, hp2, hbe⟩
              refine wpc (e362w hn hp1 hp2 g3) (fun y1 f1 => ?_)
              have t1 := sx_trans g4 (pG_T f1.2)
              have hn1 : put (puts L3 (mbL m y k j)) (wb p) ≠ [] := put_ne (Or.inr (wb_ne hp2 hp1))
              refine wpt (by simp (disch := first | omega | decide) only [↓neg1, nlit, rI, rL, rI2, rL1, nI_add, pk_mul, sbT, dvT, nmd, ixT, ↓ibT, ltT, ltF, leT, leF, eqT, eqF, nM_ltT, nM_ltF, nM_leT, nM_leF, nM_eqF, nM_eqF', nbT0, nbT1, oI_s, oI_n, natF, natT, nltT, nltF, nleT, nleF, ↓reduceIte, lgc, not_true_eq_false, not_false_eq_true, or_false, false_or, or_true, true_or, and_true, true_and, and_false, false_and, ne_eq, eq_self, or_self, and_self]) ?_
              rw [(AG_pTl hA t1).2.1 191 _ rfl]
              refine wpc (e363 (by omega) hn1 f1.1) (fun y2 f2 => wpc (e362w hn (by decide) (by decide) f2.1) (fun y3 f3 => ?_))
              have hf3 := f3.1
              rw [show wb 53 = [61] by decide +kernel] at hf3
              have t3 := sx_trans t1 (sx_trans (pG_T f2.2) (pG_T f3.2))
              refine wpe (e429 (by omega) (AG_pTl hA t3) k2 hK hj hMR) ?_
              dsimp only
              have t4 : sx pTl u (pL y3 174 79 (mbV m y k j)) := sx_trans t3 sx_79
              have hv79 : (pL y3 174 79 (mbV m y k j)).2 174 79 = mbV m y k j := by
                rw [rL, if_pos ⟨rfl, rfl⟩]
              rw [hv79, i1]
              have hne4 : put (put (put (puts L3 (mbL m y k j)) (wb p)) (sg (m.2 191 (4 * k + j)))) [61] ≠ [] := put_ne (Or.inr (by simp))
              have fin : ∀ (y4 : cS), OG y4 (puts (put (put (put (puts L3 (mbL m y k j)) (wb p)) (sg (m.2 191 (4 * k + j)))) [61]) (valT (txt m k j) (mbV m y k j))) → sx pTl u y4 → (((1 : Int32), y4).1 = if mbL m y k (j + 1) = [] then nI 0 else nI 1) ∧ OG ((1 : Int32), y4).2 (puts L3 (mbL m y k (j + 1))) ∧ sx pTl u ((1 : Int32), y4).2 := by
                intro y4 q1 q2
                refine ⟨by rw [if_neg hmne]; rfl, ?_, q2⟩
                dsimp only
                rw [hm, hbe, puts_app, puts_app, puts_app, puts_app, puts_1, puts_1, puts_1]
                exact q1
              unfold valT at fin
              rcases i3 with i3 | ⟨i3, i4⟩
              · rw [i3, if_pos rfl] at fin
                rw [i3]
                exact wpt rfl (wpc (e366 (by omega) hne4 (OG_79 hf3)) (fun y4 f4 => hk' _ (fin y4 f4.1 (sx_trans t4 (pG_T f4.2)))))
              · rw [i3, if_neg (by decide)] at fin
                rw [i3]
                exact wpf (by decide) (wpc (e365 hn hne4 (OG_79 hf3)) (fun y4 f4 => hk' _ (fin y4 f4.1 (sx_trans t4 (pG_T f4.2)))))
            · intro Q2' k2' hk2'
              rw [g1]
              by_cases em : mbL m y k j = []
              · rw [if_pos em]
                exact wpt rfl (hk2' _ ⟨by decide, by decide, by rw [if_pos em]; decide +kernel⟩)
              · rw [if_neg em]
                exact wpf (by decide) (hk2' _ ⟨by decide, by decide, by rw [if_neg em]; decide +kernel⟩)
        · rintro ⟨f0, j0, w⟩ ⟨g1, g2, g3, g4⟩
          dsimp only at g1 g2 g3 g4
          subst g2
          dsimp only
          refine wpt (by simp (disch := first | omega | decide) only [↓neg1, nlit, rI, rL, rI2, rL1, nI_add, pk_mul, sbT, dvT, nmd, ixT, ↓ibT, ltT, ltF, leT, leF, eqT, eqF, nM_ltT, nM_ltF, nM_leT, nM_leF, nM_eqF, nM_eqF', nbT0, nbT1, oI_s, oI_n, natF, natT, nltT, nltF, nleT, nleF, ↓reduceIte, lgc, not_true_eq_false, not_false_eq_true, or_false, false_or, or_true, true_or, and_true, true_and, and_false, false_and, ne_eq, eq_self, or_self, and_self]) ?_
          rw [show ix (oI (some k)) = k from ix_n (by omega), ((AG_pTl hA g4).1 190 _ rfl).trans hK.2.2.1]
          exact wpt (by simp (disch := first | omega | decide) only [↓neg1, nlit, rI, rL, rI2, rL1, nI_add, pk_mul, sbT, dvT, nmd, ixT, ↓ibT, ltT, ltF, leT, leF, eqT, eqF, nM_ltT, nM_ltF, nM_leT, nM_leF, nM_eqF, nM_eqF', nbT0, nbT1, oI_s, oI_n, natF, natT, nltT, nltF, nleT, nleF, ↓reduceIte, lgc, not_true_eq_false, not_false_eq_true, or_false, false_or, or_true, true_or, and_true, true_and, and_false, false_and, ne_eq, eq_self, or_self, and_self]) ⟨g1, g3, g4⟩
        · rintro ⟨f0, w⟩ ⟨g1, g2, g3⟩
          dsimp only at g1 g2 g3
          dsimp only
          rw [g1]
          by_cases em : mbL m y k (kn m k) = []
          · rw [if_pos em, if_pos em]
            exact wpj (wpt rfl ⟨g2, g3⟩)
          · rw [if_neg em, if_neg em]
            refine wpj (wpf (by decide) (wpc (e362w hn (by decide) (by decide) g2) (fun d hd => ⟨?_, sx_trans g3 (pG_T hd.2)⟩)))
            have := hd.1
            rw [show wb 54 = [41] by decide +kernel] at this
            exact this
    · have h01 := nbq hnb h0
      rw [if_neg h0]
      exact wpf (by rw [h01]; decide) ⟨hOG2, s2⟩
  · intro Q' k' hk'
    by_cases h0 : m.1 224 y = nI 0
    · rw [if_pos h0] at hk'
      exact wpt h0 (hk' d1 ⟨hOG1, s1⟩)
    · have h01 := nbq hnb h0
      rw [if_neg h0] at hk'
      refine wpf (by rw [h01]; decide) (wpc (e362w hn (by decide) (by decide) hOG1) (fun d2 h2 => hk' d2 ⟨h2.1, sx_trans s1 (pG_T h2.2)⟩))
theorem e442 {r : Nat} (hn : 2000 ≤ n) (hA : AG m u) (hE : EC c m) (hR : RT c m r) (hL : L ≠ []) (h : OG u L) : wp (d_442 n (nI r) u) (fun d => OG d (puts L (rwT m r (mz m r))) ∧ sx pTl u d) := by
  obtain ⟨hr, ⟨t1, t2, t3, t4⟩, t5⟩ := hR
  unfold d_442
  refine wpc (K' := fun d : cS => OG d (puts L (rwT m r (mz m r))) ∧ sx pTl u d) (whl_cnt (fun k (st : Int32 × cS) => st.1 = nI k ∧ OG st.2 (puts L (rwT m r k)) ∧ sx pTl u st.2) (mz m r) ?_ ?_ (by omega) ⟨rfl, h, sx_rfl⟩) (fun d hd => hd)
  · rintro k ⟨k0, w⟩ hk ⟨g1, g2, g3⟩
    dsimp only at g1 g2 g3
    subst g1
    dsimp only
    have hAw := AG_pTl hA g3
    have hx := (t4 k hk).2
    have hy : r * 20 + k < 24360 := by omega
    refine wpt (by simp (disch := first | omega | decide) only [↓neg1, nlit, rI, rL, rI2, rL1, nI_add, pk_mul, sbT, dvT, nmd, ixT, ↓ibT, ltT, ltF, leT, leF, eqT, eqF, nM_ltT, nM_ltF, nM_leT, nM_leF, nM_eqF, nM_eqF', nbT0, nbT1, oI_s, oI_n, natF, natT, nltT, nltF, nleT, nleF, ↓reduceIte, lgc, not_true_eq_false, not_false_eq_true, or_false, false_or, or_true, true_or, and_true, true_and, and_false, false_and, ne_eq, eq_self, or_self, and_self]) ?_
    rw [ix_n (by omega), hAw.2.2.2.1 r (by omega), t2]
    refine wpf (by simp (disch := first | omega | decide) only [↓neg1, nlit, rI, rL, rI2, rL1, nI_add, pk_mul, sbT, dvT, nmd, ixT, ↓ibT, ltT, ltF, leT, leF, eqT, eqF, nM_ltT, nM_ltF, nM_leT, nM_leF, nM_eqF, nM_eqF', nbT0, nbT1, oI_s, oI_n, natF, natT, nltT, nltF, nleT, nleF, ↓reduceIte, lgc, not_true_eq_false, not_false_eq_true, or_false, false_or, or_true, true_or, and_true, true_and, and_false, false_and, ne_eq, eq_self, or_self, and_self]) ?_
    have hrw : rwT m r (k + 1) = rwT m r k ++ (if shB m r k = true then mkW m (r * 20 + k) else []) := rfl
    refine wpjQ (fun y : cS => OG y (puts L (rwT m r (k + 1))) ∧ sx pTl u y) (fun y hy => wpl ⟨nI_1 _, hy.1, hy.2⟩) ?_
    intro Q' k' hk'
    rw [hrw] at hk'
    refine wpjP (fun y : cS => y.1 = w.1 ∧ sx pTl u y ∧ OG y (puts L (rwT m r k)) ∧ shB m r k = true ∧ whb m (r * 20 + k) = true ∧ tOf m (m.2 223 (r * 20 + k)) ≠ none) ?_ ?_
    · rintro y ⟨-, y1, y2, y3, y4, y5⟩
      rw [if_pos y3, puts_app] at hk'
      refine wpe e392 (wpc (e439 hn (AG_pTl hA y1) hE hx hy y5 y4 y2) (fun d hd => hk' d ⟨hd.1, sx_trans y1 hd.2⟩))
    · intro k2 hk2
      by_cases hp : r < 1200
      · refine wpf (by simp (disch := first | omega | decide) only [↓neg1, nlit, rI, rL, rI2, rL1, nI_add, pk_mul, sbT, dvT, nmd, ixT, ↓ibT, ltT, ltF, leT, leF, eqT, eqF, nM_ltT, nM_ltF, nM_leT, nM_leF, nM_eqF, nM_eqF', nbT0, nbT1, oI_s, oI_n, natF, natT, nltT, nltF, nleT, nleF, ↓reduceIte, lgc, not_true_eq_false, not_false_eq_true, or_false, false_or, or_true, true_or, and_true, true_and, and_false, false_and, ne_eq, eq_self, or_self, and_self]) (wpe (e425 (by omega) hAw hE.1 hE.2.1 hp t1 t2 hk) ?_)
        cases hd : dcn m r k with
        | false =>
          have hs : shB m r k = false := by
            unfold shB
            rw [if_pos hp, hd]
            rfl
          rw [hs, if_neg (by decide), List.append_nil] at hk'
          rw [show (if false = true then nI 1 else nI 0) = nI 0 from rfl]
          exact wpt rfl (hk' w ⟨g2, g3⟩)
        | true =>
          have hs : shB m r k = whb m (r * 20 + k) := by
            unfold shB
            rw [if_pos hp, hd]
            exact Bool.true_and _
          have ht : tOf m (m.2 223 (r * 20 + k)) ≠ none := fun z => by
            unfold dcn at hd
            rw [z] at hd
            cases hd
          rw [show (if true = true then nI 1 else nI 0) = nI 1 from rfl]
          refine wpf (by decide) (wpe e392 (wpc (e441 (by omega) hAw hE hx hy ht) (fun q hq => ?_)))
          obtain ⟨q1, v, q2⟩ := hq
          have hq2 : OG q.2 (puts L (rwT m r k)) ∧ sx pTl u q.2 ∧ q.2.1 = w.1 := by
            rcases q2 with q2 | q2
            · rw [q2]
              exact ⟨g2, g3, rfl⟩
            · rw [q2]
              exact ⟨g2, sx_trans g3 sx_79, rfl⟩
          rw [q1]
          rw [hs] at hk'
          by_cases hw : whb m (r * 20 + k) = true
          · rw [if_pos hw]
            exact wpf (by decide) (hk2 _ ⟨hq2.2.2, hq2.2.1, hq2.1, by rw [hs]; exact hw, hw, ht⟩)
          · rw [if_neg hw]
            rw [if_neg hw, List.append_nil] at hk'
            exact wpt rfl (hk' _ ⟨hq2.1, hq2.2.1⟩)
      · refine wpt (by simp (disch := first | omega | decide) only [↓neg1, nlit, rI, rL, rI2, rL1, nI_add, pk_mul, sbT, dvT, nmd, ixT, ↓ibT, ltT, ltF, leT, leF, eqT, eqF, nM_ltT, nM_ltF, nM_leT, nM_leF, nM_eqF, nM_eqF', nbT0, nbT1, oI_s, oI_n, natF, natT, nltT, nltF, nleT, nleF, ↓reduceIte, lgc, not_true_eq_false, not_false_eq_true, or_false, false_or, or_true, true_or, and_true, true_and, and_false, false_and, ne_eq, eq_self, or_self, and_self]) (hk2 w ⟨rfl, g3, g2, ?_⟩)
        have hs : shB m r k = true := if_neg hp
        rcases t5 k hk with ⟨-, z⟩ | ⟨-, z1, z2⟩
        · rw [hs] at z
          cases z
        · exact ⟨hs, by rw [← z2]; exact hs, z1⟩
  · rintro ⟨k0, w⟩ ⟨g1, g2, g3⟩
    dsimp only at g1 g2 g3
    subst g1
    dsimp only
    refine wpt (by simp (disch := first | omega | decide) only [↓neg1, nlit, rI, rL, rI2, rL1, nI_add, pk_mul, sbT, dvT, nmd, ixT, ↓ibT, ltT, ltF, leT, leF, eqT, eqF, nM_ltT, nM_ltF, nM_leT, nM_leF, nM_eqF, nM_eqF', nbT0, nbT1, oI_s, oI_n, natF, natT, nltT, nltF, nleT, nleF, ↓reduceIte, lgc, not_true_eq_false, not_false_eq_true, or_false, false_or, or_true, true_or, and_true, true_and, and_false, false_and, ne_eq, eq_self, or_self, and_self]) ?_
    rw [ix_n (by omega), (AG_pTl hA g3).2.2.2.1 r (by omega), t2]
    exact wpt (by simp (disch := first | omega | decide) only [↓neg1, nlit, rI, rL, rI2, rL1, nI_add, pk_mul, sbT, dvT, nmd, ixT, ↓ibT, ltT, ltF, leT, leF, eqT, eqF, nM_ltT, nM_ltF, nM_leT, nM_leF, nM_eqF, nM_eqF', nbT0, nbT1, oI_s, oI_n, natF, natT, nltT, nltF, nleT, nleF, ↓reduceIte, lgc, not_true_eq_false, not_false_eq_true, or_false, false_or, or_true, true_or, and_true, true_and, and_false, false_and, ne_eq, eq_self, or_self, and_self]) ⟨g2, g3⟩
end MRW
