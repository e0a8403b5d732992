/-! what is forgotten when something changes; the call plain -/
theorem e154 {n r nr a b : Nat} {v : Int32} {c : cS} (hn : 10000 ≤ n) (hab : a ≤ b) (hb : b ≤ nr) (hnr : nr < 10000) : wp (d_154 n r nr (nI a) (nI b) v c) (fun w => (∀ j, w.1 r j = if a ≤ j ∧ j < b then v else c.1 r j) ∧ (∀ s, s ≠ r → w.1 s = c.1 s) ∧ w.2 = c.2) := by
  unfold d_154
  refine wpe (show d_151 n (Int32.ofNat nr) (nI a) (nI b) = some () by
    unfold d_151
    rw [show Int32.ofNat nr = nI nr from rfl]
    simp (disch := first | omega | decide) only [↓neg1, nlit, rI, rL, rI2, rL1, nI_add, pk_mul, sbT, dvT, nmd, ixT, ↓ibT, ltT, ltF, leT, leF, eqT, eqF, nM_ltT, nM_ltF, nM_leT, nM_leF, nM_eqF, nM_eqF', nbT0, nbT1, oI_s, oI_n, natF, natT, nltT, nltF, nleT, nleF, ↓reduceIte, lgc, not_true_eq_false, not_false_eq_true, or_false, false_or, or_true, true_or, and_true, true_and, and_false, false_and, ne_eq, eq_self, or_self, and_self, obs, ↓jn, ↓lt, ↓reduceIte, decide_true, decide_false, Bool.false_eq_true, Bool.and_true, Bool.and_false, Bool.true_and, Bool.false_and, Bool.or_false, Bool.false_or, Bool.or_true, Bool.true_or]) ?_
  refine wpc (K' := fun w : cS => (∀ j, w.1 r j = if a ≤ j ∧ j < b then v else c.1 r j) ∧ (∀ s, s ≠ r → w.1 s = c.1 s) ∧ w.2 = c.2) (whl_cnt (fun k (st : Int32 × cS) => st.1 = nI (a + k) ∧ (∀ j, st.2.1 r j = if a ≤ j ∧ j < a + k then v else c.1 r j) ∧ (∀ s, s ≠ r → st.2.1 s = c.1 s) ∧ st.2.2 = c.2) (b - a) ?_ ?_ (by omega) ⟨rfl, fun j => by rw [if_neg (by omega)], fun s hs => rfl, rfl⟩) (fun w hw => hw)
  · rintro k ⟨x, w⟩ hk ⟨g1, g2, g3, g4⟩
    dsimp only at g1 g2 g3 g4
    subst g1
    (try dsimp only); repeat (first | with_reducible refine wpl ?_ | with_reducible refine wpj ?_ | with_reducible refine wpSl ?_ | with_reducible refine wpSr ?_ | with_reducible refine wpS ?_ | ((with_reducible refine wpt ?_ ?_); · simp (disch := first | omega | decide) only [↓neg1, nlit, rI, rL, rI2, rL1, nI_add, pk_mul, sbT, dvT, nmd, ixT, ↓ibT, ltT, ltF, leT, leF, eqT, eqF, nM_ltT, nM_ltF, nM_leT, nM_leF, nM_eqF, nM_eqF', nbT0, nbT1, oI_s, oI_n, natF, natT, nltT, nltF, nleT, nleF, ↓reduceIte, lgc, not_true_eq_false, not_false_eq_true, or_false, false_or, or_true, true_or, and_true, true_and, and_false, false_and, ne_eq, eq_self, or_self, and_self]; done) | ((with_reducible refine wpf ?_ ?_); · simp (disch := first | omega | decide) only [↓neg1, nlit, rI, rL, rI2, rL1, nI_add, pk_mul, sbT, dvT, nmd, ixT, ↓ibT, ltT, ltF, leT, leF, eqT, eqF, nM_ltT, nM_ltF, nM_leT, nM_leF, nM_eqF, nM_eqF', nbT0, nbT1, oI_s, oI_n, natF, natT, nltT, nltF, nleT, nleF, ↓reduceIte, lgc, not_true_eq_false, not_false_eq_true, or_false, false_or, or_true, true_or, and_true, true_and, and_false, false_and, ne_eq, eq_self, or_self, and_self]; done))
    rw [ix_n (by omega)]
    refine ⟨nI_1 _, fun j => ?_, fun s hs => ?_, g4⟩
    · show (pI w r (a + k) v).1 r j = _
      rw [rI]
      by_cases e : j = a + k
      · rw [if_pos ⟨rfl, e⟩, if_pos (by omega)]
      · rw [if_neg (fun z => e z.2), g2]
        by_cases e2 : a ≤ j ∧ j < a + k
        · rw [if_pos e2, if_pos (by omega)]
        · rw [if_neg e2, if_neg (by omega)]
    · show (pI w r (a + k) v).1 s = _
      rw [pI_ne hs]
      exact g3 s hs
  · rintro ⟨x, w⟩ ⟨g1, g2, g3, g4⟩
    dsimp only at g1 g2 g3 g4
    subst g1
    rw [show a + (b - a) = b by omega] at *
    (try dsimp only); repeat (first | with_reducible refine wpl ?_ | with_reducible refine wpj ?_ | with_reducible refine wpSl ?_ | with_reducible refine wpSr ?_ | with_reducible refine wpS ?_ | ((with_reducible refine wpt ?_ ?_); · simp (disch := first | omega | decide) only [↓neg1, nlit, rI, rL, rI2, rL1, nI_add, pk_mul, sbT, dvT, nmd, ixT, ↓ibT, ltT, ltF, leT, leF, eqT, eqF, nM_ltT, nM_ltF, nM_leT, nM_leF, nM_eqF, nM_eqF', nbT0, nbT1, oI_s, oI_n, natF, natT, nltT, nltF, nleT, nleF, ↓reduceIte, lgc, not_true_eq_false, not_false_eq_true, or_false, false_or, or_true, true_or, and_true, true_and, and_false, false_and, ne_eq, eq_self, or_self, and_self]; done) | ((with_reducible refine wpf ?_ ?_); · simp (disch := first | omega | decide) only [↓neg1, nlit, rI, rL, rI2, rL1, nI_add, pk_mul, sbT, dvT, nmd, ixT, ↓ibT, ltT, ltF, leT, leF, eqT, eqF, nM_ltT, nM_ltF, nM_leT, nM_leF, nM_eqF, nM_eqF', nbT0, nbT1, oI_s, oI_n, natF, natT, nltT, nltF, nleT, nleF, ↓reduceIte, lgc, not_true_eq_false, not_false_eq_true, or_false, false_or, or_true, true_or, and_true, true_and, and_false, false_and, ne_eq, eq_self, or_self, and_self]; done))
    exact ⟨g2, g3, g4⟩
theorem e153 {n r nr : Nat} {v : Int32} {c : cS} (hn : 10000 ≤ n) (hnr : nr < 10000) : wp (d_153 n r nr v c) (fun w => (∀ j, w.1 r j = if j < nr then v else c.1 r j) ∧ (∀ s, s ≠ r → w.1 s = c.1 s) ∧ w.2 = c.2) := by
  unfold d_153
  refine wpl ?_
  rw [show Int32.ofNat nr = nI nr from rfl]
  refine wpc (K' := fun w : cS => (∀ j, w.1 r j = if j < nr then v else c.1 r j) ∧ (∀ s, s ≠ r → w.1 s = c.1 s) ∧ w.2 = c.2) (whl_cnt (fun k (st : Int32 × cS) => st.1 = nI k ∧ (∀ j, st.2.1 r j = if j < k then v else c.1 r j) ∧ (∀ s, s ≠ r → st.2.1 s = c.1 s) ∧ st.2.2 = c.2) nr ?_ ?_ (by omega) ⟨rfl, fun j => by rw [if_neg (by omega)], fun s hs => rfl, rfl⟩) (fun w hw => hw)
  · rintro k ⟨x, w⟩ hk ⟨g1, g2, g3, g4⟩
    dsimp only at g1 g2 g3 g4
    subst g1
    (try dsimp only); repeat (first | with_reducible refine wpl ?_ | with_reducible refine wpj ?_ | with_reducible refine wpSl ?_ | with_reducible refine wpSr ?_ | with_reducible refine wpS ?_ | ((with_reducible refine wpt ?_ ?_); · simp (disch := first | omega | decide) only [↓neg1, nlit, rI, rL, rI2, rL1, nI_add, pk_mul, sbT, dvT, nmd, ixT, ↓ibT, ltT, ltF, leT, leF, eqT, eqF, nM_ltT, nM_ltF, nM_leT, nM_leF, nM_eqF, nM_eqF', nbT0, nbT1, oI_s, oI_n, natF, natT, nltT, nltF, nleT, nleF, ↓reduceIte, lgc, not_true_eq_false, not_false_eq_true, or_false, false_or, or_true, true_or, and_true, true_and, and_false, false_and, ne_eq, eq_self, or_self, and_self]; done) | ((with_reducible refine wpf ?_ ?_); · simp (disch := first | omega | decide) only [↓neg1, nlit, rI, rL, rI2, rL1, nI_add, pk_mul, sbT, dvT, nmd, ixT, ↓ibT, ltT, ltF, leT, leF, eqT, eqF, nM_ltT, nM_ltF, nM_leT, nM_leF, nM_eqF, nM_eqF', nbT0, nbT1, oI_s, oI_n, natF, natT, nltT, nltF, nleT, nleF, ↓reduceIte, lgc, not_true_eq_false, not_false_eq_true, or_false, false_or, or_true, true_or, and_true, true_and, and_false, false_and, ne_eq, eq_self, or_self, and_self]; done))
    rw [ix_n (by omega)]
    refine ⟨nI_1 _, fun j => ?_, fun s hs => ?_, g4⟩
    · show (pI w r k v).1 r j = _
      rw [rI]
      by_cases e : j = k
      · rw [if_pos ⟨rfl, e⟩, if_pos (by omega)]
      · rw [if_neg (fun z => e z.2), g2]
        by_cases e2 : j < k
        · rw [if_pos e2, if_pos (by omega)]
        · rw [if_neg e2, if_neg (by omega)]
    · show (pI w r k v).1 s = _
      rw [pI_ne hs]
      exact g3 s hs
  · rintro ⟨x, w⟩ ⟨g1, g2, g3, g4⟩
    dsimp only at g1 g2 g3 g4
    subst g1
    (try dsimp only); repeat (first | with_reducible refine wpl ?_ | with_reducible refine wpj ?_ | with_reducible refine wpSl ?_ | with_reducible refine wpSr ?_ | with_reducible refine wpS ?_ | ((with_reducible refine wpt ?_ ?_); · simp (disch := first | omega | decide) only [↓neg1, nlit, rI, rL, rI2, rL1, nI_add, pk_mul, sbT, dvT, nmd, ixT, ↓ibT, ltT, ltF, leT, leF, eqT, eqF, nM_ltT, nM_ltF, nM_leT, nM_leF, nM_eqF, nM_eqF', nbT0, nbT1, oI_s, oI_n, natF, natT, nltT, nltF, nleT, nleF, ↓reduceIte, lgc, not_true_eq_false, not_false_eq_true, or_false, false_or, or_true, true_or, and_true, true_and, and_false, false_and, ne_eq, eq_self, or_self, and_self]; done) | ((with_reducible refine wpf ?_ ?_); · simp (disch := first | omega | decide) only [↓neg1, nlit, rI, rL, rI2, rL1, nI_add, pk_mul, sbT, dvT, nmd, ixT, ↓ibT, ltT, ltF, leT, leF, eqT, eqF, nM_ltT, nM_ltF, nM_leT, nM_leF, nM_eqF, nM_eqF', nbT0, nbT1, oI_s, oI_n, natF, natT, nltT, nltF, nleT, nleF, ↓reduceIte, lgc, not_true_eq_false, not_false_eq_true, or_false, false_or, or_true, true_or, and_true, true_and, and_false, false_and, ne_eq, eq_self, or_self, and_self]; done))
    exact ⟨g2, g3, g4⟩
theorem sx_fill {c w : cS} {r : Nat} {q : Nat → Nat → Bool} (h1 : ∀ s, s ≠ r → w.1 s = c.1 s) (h2 : w.2 = c.2) (hq : ∀ i, q r i = true) : sx q c w := by
  refine ⟨fun a i e => ?_, fun a i e => by rw [h2]⟩
  by_cases ha : a = r
  · subst ha
    rw [hq i] at e
    cases e
  · rw [h1 a ha]
/-- the class has forgotten what hangs on the program's marks -/
def FGC (tot : Nat) (w : cS) : Prop := w.1 150 3 = nM ∧ w.1 150 6 = nI 0 ∧ w.1 150 16 = nI 0 ∧ (∀ j, j < tot → w.1 126 j = nI 0) ∧ (∀ j, j < 12 → w.1 162 j = if 7 ≤ j ∧ j < 10 then nM else nI 0) ∧ w.1 167 7 = nI 0 ∧ w.1 167 8 = nM ∧ w.1 167 9 = nM
def FGR (w : cS) : Prop := w.1 174 106 = nI 0 ∧ w.1 174 111 = nI 0 ∧ w.1 174 97 = nM ∧ w.1 174 102 = nI 0 ∧ w.1 174 130 = nI 0
def qFg (a i : Nat) : Bool := decide (a = 126 ∨ a = 162 ∨ (a = 150 ∧ (i = 3 ∨ i = 6 ∨ i = 16)) ∨ (a = 167 ∧ 7 ≤ i ∧ i ≤ 9))
theorem nC_Fg : nC qFg := ⟨fun a i h1 h2 h3 => decide_eq_false (by omega), fun i h => decide_eq_false (by omega)⟩
theorem e90 {n tot : Nat} {c : cS} (hn : 10000 ≤ n) (ht : tot ≤ 1024) (h7 : c.1 114 7 = nI tot) : wp (d_90 n c) (fun w => sx qFg c w ∧ FGC tot w) := by
  unfold d_90 d_20 d_48 d_29 d_53
  rw [h7]
  refine wpc (wpc (e154 (a := 0) (b := tot) (v := 0) hn (by omega) (by omega) (by omega)) (fun w1 hw1 => hw1)) (fun w1 hw1 => ?_)
  obtain ⟨a1, a2, a3⟩ := hw1
  have s1 : sx qFg c w1 := sx_fill a2 a3 (fun i => decide_eq_true (by omega))
  refine wpc (wpc (e153 (v := 0) hn (by omega)) (fun w2 hw2 => wpc (e154 (a := 7) (b := 10) (v := -1) hn (by omega) (by omega) (by omega)) (fun w3 hw3 => show wp (some w3) (fun w3 => (∀ j, j < 12 → w3.1 162 j = if 7 ≤ j ∧ j < 10 then nM else nI 0) ∧ sx qFg w1 w3 ∧ (∀ j, w3.1 126 j = w1.1 126 j)) from ⟨fun j hj => ?_, ?_, fun j => ?_⟩))) (fun w3 hw3 => ?_)
  · rw [hw3.1 j, hw2.1 j]
    by_cases e : 7 ≤ j ∧ j < 10
    · rw [if_pos e, if_pos e]
      rfl
    · rw [if_neg e, if_neg e, if_pos hj]
      rfl
  · exact sx_trans (sx_fill hw2.2.1 hw2.2.2 (fun i => decide_eq_true (by omega))) (sx_fill hw3.2.1 hw3.2.2 (fun i => decide_eq_true (by omega)))
  · rw [hw3.2.1 126 (by omega), hw2.2.1 126 (by omega)]
  obtain ⟨b1, b2, b3⟩ := hw3
  have s3 := sx_trans s1 b2
  show sx qFg c _ ∧ FGC tot _
  refine ⟨sx_pI (sx_pI (sx_pI (sx_pI (sx_pI (sx_pI s3 rfl) rfl) rfl) rfl) rfl) rfl, ?_, ?_, ?_, fun j hj => ?_, fun j hj => ?_, ?_, ?_, ?_⟩
  · simp (disch := first | omega | decide) only [↓neg1, nlit, rI, rL, rI2, rL1, nI_add, pk_mul, sbT, dvT, nmd, ixT, ↓ibT, ltT, ltF, leT, leF, eqT, eqF, nM_ltT, nM_ltF, nM_leT, nM_leF, nM_eqF, nM_eqF', nbT0, nbT1, oI_s, oI_n, natF, natT, nltT, nltF, nleT, nleF, ↓reduceIte, lgc, not_true_eq_false, not_false_eq_true, or_false, false_or, or_true, true_or, and_true, true_and, and_false, false_and, ne_eq, eq_self, or_self, and_self]
  · simp (disch := first | omega | decide) only [↓neg1, nlit, rI, rL, rI2, rL1, nI_add, pk_mul, sbT, dvT, nmd, ixT, ↓ibT, ltT, ltF, leT, leF, eqT, eqF, nM_ltT, nM_ltF, nM_leT, nM_leF, nM_eqF, nM_eqF', nbT0, nbT1, oI_s, oI_n, natF, natT, nltT, nltF, nleT, nleF, ↓reduceIte, lgc, not_true_eq_false, not_false_eq_true, or_false, false_or, or_true, true_or, and_true, true_and, and_false, false_and, ne_eq, eq_self, or_self, and_self]
  · simp (disch := first | omega | decide) only [↓neg1, nlit, rI, rL, rI2, rL1, nI_add, pk_mul, sbT, dvT, nmd, ixT, ↓ibT, ltT, ltF, leT, leF, eqT, eqF, nM_ltT, nM_ltF, nM_leT, nM_leF, nM_eqF, nM_eqF', nbT0, nbT1, oI_s, oI_n, natF, natT, nltT, nltF, nleT, nleF, ↓reduceIte, lgc, not_true_eq_false, not_false_eq_true, or_false, false_or, or_true, true_or, and_true, true_and, and_false, false_and, ne_eq, eq_self, or_self, and_self]
  · simp (disch := first | omega | decide) only [↓neg1, nlit, rI, rL, rI2, rL1, nI_add, pk_mul, sbT, dvT, nmd, ixT, ↓ibT, ltT, ltF, leT, leF, eqT, eqF, nM_ltT, nM_ltF, nM_leT, nM_leF, nM_eqF, nM_eqF', nbT0, nbT1, oI_s, oI_n, natF, natT, nltT, nltF, nleT, nleF, ↓reduceIte, lgc, not_true_eq_false, not_false_eq_true, or_false, false_or, or_true, true_or, and_true, true_and, and_false, false_and, ne_eq, eq_self, or_self, and_self]
    rw [b3 j, a1 j, if_pos (by omega)]
    rfl
  · rw [← b1 j hj]
    simp (disch := first | omega | decide) only [↓neg1, nlit, rI, rL, rI2, rL1, nI_add, pk_mul, sbT, dvT, nmd, ixT, ↓ibT, ltT, ltF, leT, leF, eqT, eqF, nM_ltT, nM_ltF, nM_leT, nM_leF, nM_eqF, nM_eqF', nbT0, nbT1, oI_s, oI_n, natF, natT, nltT, nltF, nleT, nleF, ↓reduceIte, lgc, not_true_eq_false, not_false_eq_true, or_false, false_or, or_true, true_or, and_true, true_and, and_false, false_and, ne_eq, eq_self, or_self, and_self]
  · simp (disch := first | omega | decide) only [↓neg1, nlit, rI, rL, rI2, rL1, nI_add, pk_mul, sbT, dvT, nmd, ixT, ↓ibT, ltT, ltF, leT, leF, eqT, eqF, nM_ltT, nM_ltF, nM_leT, nM_leF, nM_eqF, nM_eqF', nbT0, nbT1, oI_s, oI_n, natF, natT, nltT, nltF, nleT, nleF, ↓reduceIte, lgc, not_true_eq_false, not_false_eq_true, or_false, false_or, or_true, true_or, and_true, true_and, and_false, false_and, ne_eq, eq_self, or_self, and_self]
  · simp (disch := first | omega | decide) only [↓neg1, nlit, rI, rL, rI2, rL1, nI_add, pk_mul, sbT, dvT, nmd, ixT, ↓ibT, ltT, ltF, leT, leF, eqT, eqF, nM_ltT, nM_ltF, nM_leT, nM_leF, nM_eqF, nM_eqF', nbT0, nbT1, oI_s, oI_n, natF, natT, nltT, nltF, nleT, nleF, ↓reduceIte, lgc, not_true_eq_false, not_false_eq_true, or_false, false_or, or_true, true_or, and_true, true_and, and_false, false_and, ne_eq, eq_self, or_self, and_self]
  · simp (disch := first | omega | decide) only [↓neg1, nlit, rI, rL, rI2, rL1, nI_add, pk_mul, sbT, dvT, nmd, ixT, ↓ibT, ltT, ltF, leT, leF, eqT, eqF, nM_ltT, nM_ltF, nM_leT, nM_leF, nM_eqF, nM_eqF', nbT0, nbT1, oI_s, oI_n, natF, natT, nltT, nltF, nleT, nleF, ↓reduceIte, lgc, not_true_eq_false, not_false_eq_true, or_false, false_or, or_true, true_or, and_true, true_and, and_false, false_and, ne_eq, eq_self, or_self, and_self]
theorem e133 {n : Nat} {u : cS} : wp (d_133 n u) (fun w => sx (fun a i => decide (a = 174 ∧ (i = 106 ∨ i = 111 ∨ i = 97 ∨ i = 102 ∨ i = 130))) u w ∧ FGR w) := by
  unfold d_133
  refine wpl (wpl (wpl (wpl (wpl ?_))))
  refine ⟨sx_pI (sx_pI (sx_pI (sx_pI (sx_pI sx_rfl rfl) rfl) rfl) rfl) rfl, ?_, ?_, ?_, ?_, ?_⟩ <;> simp (disch := first | omega | decide) only [↓neg1, nlit, rI, rL, rI2, rL1, nI_add, pk_mul, sbT, dvT, nmd, ixT, ↓ibT, ltT, ltF, leT, leF, eqT, eqF, nM_ltT, nM_ltF, nM_leT, nM_leF, nM_eqF, nM_eqF', nbT0, nbT1, oI_s, oI_n, natF, natT, nltT, nltF, nleT, nleF, ↓reduceIte, lgc, not_true_eq_false, not_false_eq_true, or_false, false_or, or_true, true_or, and_true, true_and, and_false, false_and, ne_eq, eq_self, or_self, and_self]
theorem e177 {n o cc : Nat} {v : Int32} {c : cS} (hn : 2000 ≤ n) (ho : o < 4) (hcc : cc ≤ 12) (h : c.1 7 10 = nI cc) : wp (d_177 n (nI o) v c) (fun w => (∀ p t, t < 4 → w.1 148 (p * 4 + t) = if p < 100 * cc ∧ t = o then v else c.1 148 (p * 4 + t)) ∧ sx (fun a _ => decide (a = 148)) c w) := by
  unfold d_177
  refine wpc (K' := fun w : cS => (∀ p t, t < 4 → w.1 148 (p * 4 + t) = if p < 100 * cc ∧ t = o then v else c.1 148 (p * 4 + t)) ∧ sx (fun a _ => decide (a = 148)) c w) (whl_cnt (fun k (st : Int32 × cS) => st.1 = nI k ∧ (∀ p t, t < 4 → st.2.1 148 (p * 4 + t) = if p < k ∧ t = o then v else c.1 148 (p * 4 + t)) ∧ sx (fun a _ => decide (a = 148)) c st.2) (100 * cc) ?_ ?_ (by omega) ⟨rfl, fun p t ht => by rw [if_neg (by omega)], sx_rfl⟩) (fun w hw => hw)
  · rintro k ⟨x, w⟩ hk ⟨g1, g2, g3⟩
    dsimp only at g1 g2 g3
    subst g1
    have p10 : w.1 7 10 = nI cc := (g3.1 7 10 rfl).trans h
    (try dsimp only); repeat (first | with_reducible refine wpl ?_ | with_reducible refine wpj ?_ | with_reducible refine wpSl ?_ | with_reducible refine wpSr ?_ | with_reducible refine wpS ?_ | ((with_reducible refine wpt ?_ ?_); · simp (disch := first | omega | decide) only [↓neg1, nlit, rI, rL, rI2, rL1, nI_add, pk_mul, sbT, dvT, nmd, ixT, ↓ibT, ltT, ltF, leT, leF, eqT, eqF, nM_ltT, nM_ltF, nM_leT, nM_leF, nM_eqF, nM_eqF', nbT0, nbT1, oI_s, oI_n, natF, natT, nltT, nltF, nleT, nleF, ↓reduceIte, lgc, not_true_eq_false, not_false_eq_true, or_false, false_or, or_true, true_or, and_true, true_and, and_false, false_and, ne_eq, eq_self, or_self, and_self, p10]; done) | ((with_reducible refine wpf ?_ ?_); · simp (disch := first | omega | decide) only [↓neg1, nlit, rI, rL, rI2, rL1, nI_add, pk_mul, sbT, dvT, nmd, ixT, ↓ibT, ltT, ltF, leT, leF, eqT, eqF, nM_ltT, nM_ltF, nM_leT, nM_leF, nM_eqF, nM_eqF', nbT0, nbT1, oI_s, oI_n, natF, natT, nltT, nltF, nleT, nleF, ↓reduceIte, lgc, not_true_eq_false, not_false_eq_true, or_false, false_or, or_true, true_or, and_true, true_and, and_false, false_and, ne_eq, eq_self, or_self, and_self, p10]; done))
    rw [show nI k * 4 + nI o = nI (k * 4 + o) by rw [show (4 : Int32) = nI 4 from rfl, pk_mul, nI_add], ix_n (by omega)]
    refine ⟨nI_1 _, fun p t ht => ?_, sx_pI g3 rfl⟩
    show (pI w 148 (k * 4 + o) v).1 148 _ = _
    rw [rI]
    by_cases e : p * 4 + t = k * 4 + o
    · rw [if_pos ⟨rfl, e⟩, if_pos (by omega)]
    · rw [if_neg (fun z => e z.2), g2 p t ht]
      by_cases e2 : p < k ∧ t = o
      · rw [if_pos e2, if_pos (by omega)]
      · rw [if_neg e2, if_neg (by omega)]
  · rintro ⟨x, w⟩ ⟨g1, g2, g3⟩
    dsimp only at g1 g2 g3
    subst g1
    have p10 : w.1 7 10 = nI cc := (g3.1 7 10 rfl).trans h
    (try dsimp only); repeat (first | with_reducible refine wpl ?_ | with_reducible refine wpj ?_ | with_reducible refine wpSl ?_ | with_reducible refine wpSr ?_ | with_reducible refine wpS ?_ | ((with_reducible refine wpt ?_ ?_); · simp (disch := first | omega | decide) only [↓neg1, nlit, rI, rL, rI2, rL1, nI_add, pk_mul, sbT, dvT, nmd, ixT, ↓ibT, ltT, ltF, leT, leF, eqT, eqF, nM_ltT, nM_ltF, nM_leT, nM_leF, nM_eqF, nM_eqF', nbT0, nbT1, oI_s, oI_n, natF, natT, nltT, nltF, nleT, nleF, ↓reduceIte, lgc, not_true_eq_false, not_false_eq_true, or_false, false_or, or_true, true_or, and_true, true_and, and_false, false_and, ne_eq, eq_self, or_self, and_self, p10]; done) | ((with_reducible refine wpf ?_ ?_); · simp (disch := first | omega | decide) only [↓neg1, nlit, rI, rL, rI2, rL1, nI_add, pk_mul, sbT, dvT, nmd, ixT, ↓ibT, ltT, ltF, leT, leF, eqT, eqF, nM_ltT, nM_ltF, nM_leT, nM_leF, nM_eqF, nM_eqF', nbT0, nbT1, oI_s, oI_n, natF, natT, nltT, nltF, nleT, nleF, ↓reduceIte, lgc, not_true_eq_false, not_false_eq_true, or_false, false_or, or_true, true_or, and_true, true_and, and_false, false_and, ne_eq, eq_self, or_self, and_self, p10]; done))
    exact ⟨g2, g3⟩
def qPl (a i : Nat) : Bool := decide (a = 126 ∨ a = 148 ∨ a = 162 ∨ (a = 150 ∧ (i = 3 ∨ i = 6 ∨ i = 16)) ∨ (a = 167 ∧ 7 ≤ i ∧ i ≤ 9))
def qPr (a i : Nat) : Bool := decide ((a = 174 ∧ (i = 106 ∨ i = 111 ∨ i = 97 ∨ i = 102 ∨ i = 130)) ∨ a = 235)
theorem c_plain {n : Nat} {a1 : Int32} {c u : cS} (hn : 10000 ≤ n) (h : PR3 c (pI u 174 0 0)) : bo (d_79 n a1 c) (d_132 n a1 u) (fun d w => PR3 d w ∧ ((d = c ∧ w = pI u 174 0 0) ∨ (sx qPl c d ∧ sx qPr (pI u 174 0 0) w ∧ (∃ tot, tot ≤ 1024 ∧ c.1 114 7 = nI tot ∧ FGC tot d) ∧ FGR w))) := by
  unfold bo d_79 d_132 lt
  generalize pI u 174 0 0 = k at h ⊢
  have hsame := h
  rcases h with ⟨h1, h2, -⟩ | ⟨h1, m, h2, hA, hG, hB, hT, hF, hW⟩
  · obtain ⟨p1, p2⟩ := or0 (n := n) (a := a1) h1 h2
    refine wpe p1 (wpt rfl ?_)
    refine wpe p2 (wpt rfl ?_)
    exact ⟨rfl, hsame, Or.inl ⟨rfl, rfl⟩⟩
  have hE := hG.1
  rcases orA (n := n) (a := a1) h1 h2 hA hE.1 with ⟨p1, p2⟩ | ⟨o, ho, rfl, p1, p2⟩
  · refine wpe p1 (wpt rfl ?_)
    refine wpe p2 (wpt rfl ?_)
    exact ⟨rfl, hsame, Or.inl ⟨rfl, rfl⟩⟩
  have ho4 := hE.1.1
  have hC := hE.2.2.1
  have h12 := (CCS_p hC).1
  have hRO := OOS_at hE.1 ho
  obtain ⟨t, t1, t2, -⟩ := hRO.1.2.2.2.2.2.2.2.2.1
  obtain ⟨tot, y1, y2, -⟩ := hG.2.2.1
  refine wpe p1 (wpf (by decide) ?_)
  refine wpc (e90 hn y1 y2) (fun d hd => ?_)
  obtain ⟨d1, d2⟩ := hd
  have top : d.1 (oA o) 2 = nI t := by
    rw [d1.1 (oA o) 2 (decide_eq_false (by unfold oA; omega))]
    exact hRO.2.2.2.2.2.2.2.2.1.trans t2
  refine wpt (by simp (disch := first | omega | decide) only [↓neg1, nlit, rI, rL, rI2, rL1, nI_add, pk_mul, sbT, dvT, nmd, ixT, ↓ibT, ltT, ltF, leT, leF, eqT, eqF, nM_ltT, nM_ltF, nM_leT, nM_leF, nM_eqF, nM_eqF', nbT0, nbT1, oI_s, oI_n, natF, natT, nltT, nltF, nleT, nleF, ↓reduceIte, lgc, not_true_eq_false, not_false_eq_true, or_false, false_or, or_true, true_or, and_true, true_and, and_false, false_and, ne_eq, eq_self, or_self, and_self]) ?_
  rw [ix_n (by omega), top]
  refine wpc (e177 (by omega) (by omega) h12 ((d1.1 7 10 (decide_eq_false (by omega))).trans hC.1.2.1)) (fun e he => ?_)
  obtain ⟨e1, e2⟩ := he
  refine wpe p2 (wpf (by decide) ?_)
  refine wpc e133 (fun w0 hw0 => ?_)
  obtain ⟨b1, b2⟩ := hw0
  have k187 : ∀ w, sx qPr k w → w.1 187 o = nI t := fun w hw => (hw.1 187 o (decide_eq_false (by omega))).trans ((hA.1 187 o rfl).trans t2)
  have s0 : sx qPr k w0 := sx_wide b1 (fun a i z => by
    have := of_decide_eq_false z
    exact decide_eq_false (by omega))
  refine wpc (K' := fun w : cS => sx qPr k w ∧ FGR w ∧ ∀ o' p, p < 1200 → w.1 235 (1200 * o' + p) = if o' = o then nI t else k.1 235 (1200 * o' + p)) (whl_cnt (fun j (st : Int32 × cS) => st.1 = nI j ∧ sx qPr k st.2 ∧ FGR st.2 ∧ ∀ o' p, p < 1200 → st.2.1 235 (1200 * o' + p) = if o' = o ∧ p < j then nI t else k.1 235 (1200 * o' + p)) 1200 ?_ ?_ (by omega) ⟨rfl, s0, b2, fun o' p hp => by rw [if_neg (by omega)]; exact b1.1 235 _ (decide_eq_false (by omega))⟩) (fun w hw => ?_)
  · rintro j ⟨x, w⟩ hj ⟨g1, g2, g3, g4⟩
    dsimp only at g1 g2 g3 g4
    subst g1
    have q187 := k187 w g2
    (try dsimp only); repeat (first | with_reducible refine wpl ?_ | with_reducible refine wpj ?_ | with_reducible refine wpSl ?_ | with_reducible refine wpSr ?_ | with_reducible refine wpS ?_ | ((with_reducible refine wpt ?_ ?_); · simp (disch := first | omega | decide) only [↓neg1, nlit, rI, rL, rI2, rL1, nI_add, pk_mul, sbT, dvT, nmd, ixT, ↓ibT, ltT, ltF, leT, leF, eqT, eqF, nM_ltT, nM_ltF, nM_leT, nM_leF, nM_eqF, nM_eqF', nbT0, nbT1, oI_s, oI_n, natF, natT, nltT, nltF, nleT, nleF, ↓reduceIte, lgc, not_true_eq_false, not_false_eq_true, or_false, false_or, or_true, true_or, and_true, true_and, and_false, false_and, ne_eq, eq_self, or_self, and_self]; done) | ((with_reducible refine wpf ?_ ?_); · simp (disch := first | omega | decide) only [↓neg1, nlit, rI, rL, rI2, rL1, nI_add, pk_mul, sbT, dvT, nmd, ixT, ↓ibT, ltT, ltF, leT, leF, eqT, eqF, nM_ltT, nM_ltF, nM_leT, nM_leF, nM_eqF, nM_eqF', nbT0, nbT1, oI_s, oI_n, natF, natT, nltT, nltF, nleT, nleF, ↓reduceIte, lgc, not_true_eq_false, not_false_eq_true, or_false, false_or, or_true, true_or, and_true, true_and, and_false, false_and, ne_eq, eq_self, or_self, and_self]; done))
    rw [show (1200 : Int32) * nI o + nI j = nI (1200 * o + j) by rw [show (1200 : Int32) = nI 1200 from rfl, pk_mul, nI_add], ix_n (by omega), q187]
    refine ⟨nI_1 _, sx_pI g2 (decide_eq_true (by omega)), ⟨?_, ?_, ?_, ?_, ?_⟩, fun o' p hp => ?_⟩
    · rw [rI, if_neg (by omega)]
      exact g3.1
    · rw [rI, if_neg (by omega)]
      exact g3.2.1
    · rw [rI, if_neg (by omega)]
      exact g3.2.2.1
    · rw [rI, if_neg (by omega)]
      exact g3.2.2.2.1
    · rw [rI, if_neg (by omega)]
      exact g3.2.2.2.2
    · show (pI w 235 (1200 * o + j) (nI t)).1 235 _ = _
      rw [rI]
      by_cases e : 1200 * o' + p = 1200 * o + j
      · rw [if_pos ⟨rfl, e⟩, if_pos (by omega)]
      · rw [if_neg (fun z => e z.2), g4 o' p hp]
        by_cases e2 : o' = o ∧ p < j
        · rw [if_pos e2, if_pos (by omega)]
        · rw [if_neg e2, if_neg (by omega)]
  · rintro ⟨x, w⟩ ⟨g1, g2, g3, g4⟩
    dsimp only at g1 g2 g3 g4
    subst g1
    refine wpt (by dsimp only; decide) ⟨g2, g3, fun o' p hp => ?_⟩
    rw [g4 o' p hp]
    by_cases e : o' = o
    · rw [if_pos ⟨e, hp⟩, if_pos e]
    · rw [if_neg (fun z => e z.1), if_neg e]
  obtain ⟨w1, w2, w3⟩ := hw
  have sd : sx qPl c e := sx_trans (sx_wide d1 (fun a i z => by
    have := of_decide_eq_false z
    exact decide_eq_false (by omega))) (sx_wide e2 (fun a i z => by
    have := of_decide_eq_false z
    exact decide_eq_false (by omega)))
  obtain ⟨f1, f2, f3, f4, f5, f6, f7, f8⟩ := d2
  have hFGC : FGC tot e := ⟨(e2.1 150 3 rfl).trans f1, (e2.1 150 6 rfl).trans f2, (e2.1 150 16 rfl).trans f3, fun j hj => (e2.1 126 j rfl).trans (f4 j hj), fun j hj => (e2.1 162 j rfl).trans (f5 j hj), (e2.1 167 7 rfl).trans f6, (e2.1 167 8 rfl).trans f7, (e2.1 167 9 rfl).trans f8⟩
  refine ⟨rfl, Or.inr ⟨(sd.1 7 0 (decide_eq_false (by omega))).trans h1, m, h2, ?_, ?_, hB, ?_, ?_, Or.inl ⟨hFGC.1, w2.2.2.1, hFGC.2.2.1⟩⟩, Or.inr ⟨sd, w1, ⟨tot, y1, y2, hFGC⟩, w2⟩⟩
  · refine AG_sx hA w1 ⟨fun a i h => ?_, fun i h => ?_, fun i h => ?_, fun a i h1 h2 h3 => ?_, fun a i h1 h2 h3 => ?_⟩
    · have := PA_of h
      exact decide_eq_false (by omega)
    · have := PF_of h
      exact decide_eq_false (by omega)
    · exact decide_eq_false (by omega)
    · exact decide_eq_false (by omega)
    · exact decide_eq_false (by omega)
  · exact PG_CA (CA_sx sd ⟨fun a i h1 h2 h3 => decide_eq_false (by omega), fun i h => decide_eq_false (by omega)⟩) hG
  · refine ⟨by rw [sd.1 146 8 (decide_eq_false (by omega))]; exact hT.1, fun z p s o hp hs ho => ?_⟩
    rw [sd.1 146 8 (decide_eq_false (by omega))] at z
    rw [sd.1 147 _ (decide_eq_false (by omega))]
    exact hT.2 z p s o hp hs ho
  · intro p s o' hP hs ho'
    have hp12 := (EC_row hE hP).1
    have hpc := isP_c hP
    have hd148 : d.1 148 (p * 4 + o') = c.1 148 (p * 4 + o') := d1.1 148 _ (decide_eq_false (by omega))
    have h148 := e1 p o' (by omega)
    rw [hd148] at h148
    have h235 := w3 o' p hp12
    by_cases e' : o' = o
    · subst e'
      rw [if_pos ⟨by omega, rfl⟩] at h148
      rw [if_pos rfl] at h235
      have hv : fdv e p o' = t := by
        unfold fdv
        have := hRO.1.1
        rw [h148, ix_n (by omega)]
      rw [hv]
      exact ⟨t1, h148, h235⟩
    · rw [if_neg (fun z => e' z.2)] at h148
      rw [if_neg e'] at h235
      obtain ⟨x1, x2, x3⟩ := hF p s o' hP hs ho'
      have hv : fdv e p o' = fdv c p o' := congrArg ix h148
      rw [hv]
      exact ⟨x1, h148.trans x2, h235.trans x3⟩
