/-! WHAT KINDS GIVE -/
section GV
variable {m : cS} {v : Int64}
theorem gvt_lt {k : Nat} : ∀ {K : Nat}, k < K → gvt m v K k = gvt m v (k + 1) k
  | 0, h => by omega
  | K + 1, h => by
    by_cases e : k = K
    · subst e
      rfl
    · show (if k = K then _ else gvt m v K k) = _
      rw [if_neg e, gvt_lt (K := K) (by omega)]
theorem gv1_congr {T U : Nat → Option Nat} {k : Nat} (h : ∀ i d, i < mz m (1200 + k) → kOf m (m.2 223 ((1200 + k) * 20 + i)) = some d → T d = U d) : gv1 m v T k = gv1 m v U k := by
  have hb : ∀ i, i < mz m (1200 + k) → (kOf m (m.2 223 ((1200 + k) * 20 + i))).bind T = (kOf m (m.2 223 ((1200 + k) * 20 + i))).bind U := by
    intro i hi
    cases hk : kOf m (m.2 223 ((1200 + k) * 20 + i)) with
    | none => rfl
    | some d => exact h i d hi hk
  unfold gv1
  rw [ff_congr (p := fun i => ((kOf m (m.2 223 ((1200 + k) * 20 + i))).bind T).isSome) (q := fun i => ((kOf m (m.2 223 ((1200 + k) * 20 + i))).bind U).isSome) (fun i hi => by rw [hb i hi])]
  split
  · rfl
  · cases hf : ff (fun i => ((kOf m (m.2 223 ((1200 + k) * 20 + i))).bind U).isSome) (mz m (1200 + k)) with
    | none => rfl
    | some i => exact hb i (ff_some hf).1
theorem gv_eq {k : Nat} (hk : k < kcn m) (h : ∀ i d, i < mz m (1200 + k) → kOf m (m.2 223 ((1200 + k) * 20 + i)) = some d → d < k) : gv m v k = gv1 m v (gv m v) k := by
  have e : gv m v k = gv1 m v (gvt m v k) k := by
    unfold gv
    rw [gvt_lt hk]
    show (if k = k then _ else _) = _
    rw [if_pos rfl]
  rw [e]
  refine gv1_congr (fun i d hi hd => ?_)
  have hd' := h i d hi hd
  unfold gv
  rw [gvt_lt hd', gvt_lt (show d < kcn m by omega)]
/-- what a KIND GIVES stands in a KIND's row -/
theorem gvt_in (h12 : kcn m ≤ 12) : ∀ {K k y : Nat}, K ≤ kcn m → gvt m v K k = some y → ∃ d i, d < kcn m ∧ i < mz m (1200 + d) ∧ y = (1200 + d) * 20 + i
  | 0, _, _, _, h => by cases h
  | K + 1, k, y, hK, h => by
    have h' : (if k = K then gv1 m v (gvt m v K) K else gvt m v K k) = some y := h
    by_cases e : k = K
    · rw [if_pos e] at h'
      unfold gv1 at h'
      split at h'
      · rename_i i hf
        cases h'
        exact ⟨K, i, by omega, (ff_some hf).1, rfl⟩
      · cases hf : ff (fun i => ((kOf m (m.2 223 ((1200 + K) * 20 + i))).bind (gvt m v K)).isSome) (mz m (1200 + K)) with
        | none =>
          rw [hf] at h'
          cases h'
        | some i =>
          rw [hf] at h'
          have h2 : (kOf m (m.2 223 ((1200 + K) * 20 + i))).bind (gvt m v K) = some y := h'
          cases hk : kOf m (m.2 223 ((1200 + K) * 20 + i)) with
          | none =>
            rw [hk] at h2
            cases h2
          | some d =>
            rw [hk] at h2
            exact gvt_in h12 (K := K) (k := d) (by omega) h2
    · rw [if_neg e] at h'
      exact gvt_in h12 (K := K) (by omega) h'
theorem gv_in (h12 : kcn m ≤ 12) {k y : Nat} (h : gv m v k = some y) : ∃ d i, d < kcn m ∧ i < mz m (1200 + d) ∧ y = (1200 + d) * 20 + i := gvt_in h12 (Nat.le_refl _) h
end GV
theorem e426 {n : Nat} {v : Int64} {c m u : cS} (hn : 1000 ≤ n) (hA : AG m u) (hK : KKS c m) : wp (d_426 n v u) (fun s => sx qG u s ∧ s.2 174 73 = v ∧ ∀ k, k < kcn m → s.1 232 k = oI (gv m v k)) := by
  obtain ⟨k1, -, k3, -, k5, k6, k7, -⟩ := hK
  unfold d_426
  refine wpl ?_
  refine wpc (K' := fun s : cS => sx qG u s ∧ s.2 174 73 = v ∧ ∀ k, k < kcn m → s.1 232 k = oI (gv m v k)) (whl_cnt (fun k (s : Int32 × cS) => s.1 = nI k ∧ sx qG u s.2 ∧ s.2.2 174 73 = v ∧ ∀ j, j < k → s.2.1 232 j = oI (gv m v j)) (kcn m) ?_ ?_ (by omega) ⟨rfl, sx_pL sx_rfl rfl, by rw [rL, if_pos ⟨rfl, rfl⟩], fun j hj => by omega⟩) (fun s h => h)
  rotate_left
  · rintro ⟨a, s⟩ ⟨h1, h2, h3, h4⟩
    dsimp only at h1 h2 h3 h4
    subst h1
    have hAs := AG_sx hA h2 nP_qG
    (try dsimp only); repeat (first | with_reducible refine wpl ?_ | with_reducible refine wpj ?_ | with_reducible refine wpSl ?_ | with_reducible refine wpSr ?_ | with_reducible refine wpS ?_ | ((with_reducible refine wpt ?_ ?_); · simp (disch := first | omega | decide) only [↓neg1, nlit, rI, rL, rI2, rL1, nI_add, pk_mul, sbT, dvT, nmd, ixT, ↓ibT, ltT, ltF, leT, leF, eqT, eqF, nM_ltT, nM_ltF, nM_leT, nM_leF, nM_eqF, nM_eqF', nbT0, nbT1, oI_s, oI_n, natF, natT, nltT, nltF, nleT, nleF, ↓reduceIte, lgc, not_true_eq_false, not_false_eq_true, or_false, false_or, or_true, true_or, and_true, true_and, and_false, false_and, ne_eq, eq_self, or_self, and_self, hAs.2.2.1, k3]; done) | ((with_reducible refine wpf ?_ ?_); · simp (disch := first | omega | decide) only [↓neg1, nlit, rI, rL, rI2, rL1, nI_add, pk_mul, sbT, dvT, nmd, ixT, ↓ibT, ltT, ltF, leT, leF, eqT, eqF, nM_ltT, nM_ltF, nM_leT, nM_leF, nM_eqF, nM_eqF', nbT0, nbT1, oI_s, oI_n, natF, natT, nltT, nltF, nleT, nleF, ↓reduceIte, lgc, not_true_eq_false, not_false_eq_true, or_false, false_or, or_true, true_or, and_true, true_and, and_false, false_and, ne_eq, eq_self, or_self, and_self, hAs.2.2.1, k3]; done))
    exact ⟨h2, h3, h4⟩
  rintro k ⟨a, s⟩ hk ⟨h1, h2, h3, h4⟩
  dsimp only at h1 h2 h3 h4
  subst h1
  have hAs := AG_sx hA h2 nP_qG
  have hz := (k6 k hk).1
  obtain ⟨z1, z2, -, -⟩ := hz
  (try dsimp only); repeat (first | with_reducible refine wpl ?_ | with_reducible refine wpj ?_ | with_reducible refine wpSl ?_ | with_reducible refine wpSr ?_ | with_reducible refine wpS ?_ | ((with_reducible refine wpt ?_ ?_); · simp (disch := first | omega | decide) only [↓neg1, nlit, rI, rL, rI2, rL1, nI_add, pk_mul, sbT, dvT, nmd, ixT, ↓ibT, ltT, ltF, leT, leF, eqT, eqF, nM_ltT, nM_ltF, nM_leT, nM_leF, nM_eqF, nM_eqF', nbT0, nbT1, oI_s, oI_n, natF, natT, nltT, nltF, nleT, nleF, ↓reduceIte, lgc, not_true_eq_false, not_false_eq_true, or_false, false_or, or_true, true_or, and_true, true_and, and_false, false_and, ne_eq, eq_self, or_self, and_self, hAs.2.2.1, k3]; done) | ((with_reducible refine wpf ?_ ?_); · simp (disch := first | omega | decide) only [↓neg1, nlit, rI, rL, rI2, rL1, nI_add, pk_mul, sbT, dvT, nmd, ixT, ↓ibT, ltT, ltF, leT, leF, eqT, eqF, nM_ltT, nM_ltF, nM_leT, nM_leF, nM_eqF, nM_eqF', nbT0, nbT1, oI_s, oI_n, natF, natT, nltT, nltF, nleT, nleF, ↓reduceIte, lgc, not_true_eq_false, not_false_eq_true, or_false, false_or, or_true, true_or, and_true, true_and, and_false, false_and, ne_eq, eq_self, or_self, and_self, hAs.2.2.1, k3]; done))
  rw [show (1200 : Int32) + nI k = nI (1200 + k) from nI_add 1200 k]
  have hx9 : sx qG u (pI s 232 (ix (nI k)) nM) := sx_pI h2 rfl
  have hloc : ∀ t : cS, sx qG u t → AG m t := fun t ht => AG_sx hA ht nP_qG
  -- the first loop
  refine wpc (K' := fun t : cS => (sx qG u t ∧ t.2 174 73 = v ∧ ∀ j, j < k → t.1 232 j = oI (gv m v j)) ∧ t.1 232 k = oI ((ff (fun i => decide (m.2 223 ((1200 + k) * 20 + i) = v)) (mz m (1200 + k))).map (fun i => (1200 + k) * 20 + i))) (whl_cnt (fun i (t : Int32 × cS) => t.1 = nI i ∧ (sx qG u t.2 ∧ t.2.2 174 73 = v ∧ ∀ j, j < k → t.2.1 232 j = oI (gv m v j)) ∧ ((t.2.1 232 k = nM ∧ ∀ j, j < i → ¬ m.2 223 ((1200 + k) * 20 + j) = v) ∨ (∃ j, j < i ∧ j < mz m (1200 + k) ∧ m.2 223 ((1200 + k) * 20 + j) = v ∧ (∀ l, l < j → ¬ m.2 223 ((1200 + k) * 20 + l) = v) ∧ t.2.1 232 k = nI ((1200 + k) * 20 + j)))) (mz m (1200 + k)) ?_ ?_ (by omega) ⟨rfl, ⟨hx9, h3, fun j hj => ?_⟩, Or.inl ⟨?_, fun j hj => by omega⟩⟩) ?_
  · rintro i ⟨a, t⟩ hi ⟨g1, ⟨g2, g3, g4⟩, g5⟩
    dsimp only at g1 g2 g3 g4 g5
    subst g1
    have hAt := hloc t g2
    rcases g5 with ⟨g5, g6⟩ | ⟨j, hj, hj2, g5, g6, g7⟩
    · (try dsimp only); repeat (first | with_reducible refine wpl ?_ | with_reducible refine wpj ?_ | with_reducible refine wpSl ?_ | with_reducible refine wpSr ?_ | with_reducible refine wpS ?_ | ((with_reducible refine wpt ?_ ?_); · simp (disch := first | omega | decide) only [↓neg1, nlit, rI, rL, rI2, rL1, nI_add, pk_mul, sbT, dvT, nmd, ixT, ↓ibT, ltT, ltF, leT, leF, eqT, eqF, nM_ltT, nM_ltF, nM_leT, nM_leF, nM_eqF, nM_eqF', nbT0, nbT1, oI_s, oI_n, natF, natT, nltT, nltF, nleT, nleF, ↓reduceIte, lgc, not_true_eq_false, not_false_eq_true, or_false, false_or, or_true, true_or, and_true, true_and, and_false, false_and, ne_eq, eq_self, or_self, and_self, hAt.2.2.2.1, z2, g5]; done) | ((with_reducible refine wpf ?_ ?_); · simp (disch := first | omega | decide) only [↓neg1, nlit, rI, rL, rI2, rL1, nI_add, pk_mul, sbT, dvT, nmd, ixT, ↓ibT, ltT, ltF, leT, leF, eqT, eqF, nM_ltT, nM_ltF, nM_leT, nM_leF, nM_eqF, nM_eqF', nbT0, nbT1, oI_s, oI_n, natF, natT, nltT, nltF, nleT, nleF, ↓reduceIte, lgc, not_true_eq_false, not_false_eq_true, or_false, false_or, or_true, true_or, and_true, true_and, and_false, false_and, ne_eq, eq_self, or_self, and_self, hAt.2.2.2.1, z2, g5]; done))
      refine wpe e392 ?_
      (try dsimp only); repeat (first | with_reducible refine wpl ?_ | with_reducible refine wpj ?_ | with_reducible refine wpSl ?_ | with_reducible refine wpSr ?_ | with_reducible refine wpS ?_ | ((with_reducible refine wpt ?_ ?_); · simp (disch := first | omega | decide) only [↓neg1, nlit, rI, rL, rI2, rL1, nI_add, pk_mul, sbT, dvT, nmd, ixT, ↓ibT, ltT, ltF, leT, leF, eqT, eqF, nM_ltT, nM_ltF, nM_leT, nM_leF, nM_eqF, nM_eqF', nbT0, nbT1, oI_s, oI_n, natF, natT, nltT, nltF, nleT, nleF, ↓reduceIte, lgc, not_true_eq_false, not_false_eq_true, or_false, false_or, or_true, true_or, and_true, true_and, and_false, false_and, ne_eq, eq_self, or_self, and_self]; done) | ((with_reducible refine wpf ?_ ?_); · simp (disch := first | omega | decide) only [↓neg1, nlit, rI, rL, rI2, rL1, nI_add, pk_mul, sbT, dvT, nmd, ixT, ↓ibT, ltT, ltF, leT, leF, eqT, eqF, nM_ltT, nM_ltF, nM_leT, nM_leF, nM_eqF, nM_eqF', nbT0, nbT1, oI_s, oI_n, natF, natT, nltT, nltF, nleT, nleF, ↓reduceIte, lgc, not_true_eq_false, not_false_eq_true, or_false, false_or, or_true, true_or, and_true, true_and, and_false, false_and, ne_eq, eq_self, or_self, and_self]; done))
      by_cases hv : m.2 223 ((1200 + k) * 20 + i) = v
      · (try dsimp only); repeat (first | with_reducible refine wpl ?_ | with_reducible refine wpj ?_ | with_reducible refine wpSl ?_ | with_reducible refine wpSr ?_ | with_reducible refine wpS ?_ | ((with_reducible refine wpt ?_ ?_); · simp (disch := first | omega | decide) only [↓neg1, nlit, rI, rL, rI2, rL1, nI_add, pk_mul, sbT, dvT, nmd, ixT, ↓ibT, ltT, ltF, leT, leF, eqT, eqF, nM_ltT, nM_ltF, nM_leT, nM_leF, nM_eqF, nM_eqF', nbT0, nbT1, oI_s, oI_n, natF, natT, nltT, nltF, nleT, nleF, ↓reduceIte, lgc, not_true_eq_false, not_false_eq_true, or_false, false_or, or_true, true_or, and_true, true_and, and_false, false_and, ne_eq, eq_self, or_self, and_self, hAt.2.2.2.2.1, hv]; done) | ((with_reducible refine wpf ?_ ?_); · simp (disch := first | omega | decide) only [↓neg1, nlit, rI, rL, rI2, rL1, nI_add, pk_mul, sbT, dvT, nmd, ixT, ↓ibT, ltT, ltF, leT, leF, eqT, eqF, nM_ltT, nM_ltF, nM_leT, nM_leF, nM_eqF, nM_eqF', nbT0, nbT1, oI_s, oI_n, natF, natT, nltT, nltF, nleT, nleF, ↓reduceIte, lgc, not_true_eq_false, not_false_eq_true, or_false, false_or, or_true, true_or, and_true, true_and, and_false, false_and, ne_eq, eq_self, or_self, and_self, hAt.2.2.2.2.1, hv]; done))
        refine wpe e392 ?_
        (try dsimp only); repeat (first | with_reducible refine wpl ?_ | with_reducible refine wpj ?_ | with_reducible refine wpSl ?_ | with_reducible refine wpSr ?_ | with_reducible refine wpS ?_ | ((with_reducible refine wpt ?_ ?_); · simp (disch := first | omega | decide) only [↓neg1, nlit, rI, rL, rI2, rL1, nI_add, pk_mul, sbT, dvT, nmd, ixT, ↓ibT, ltT, ltF, leT, leF, eqT, eqF, nM_ltT, nM_ltF, nM_leT, nM_leF, nM_eqF, nM_eqF', nbT0, nbT1, oI_s, oI_n, natF, natT, nltT, nltF, nleT, nleF, ↓reduceIte, lgc, not_true_eq_false, not_false_eq_true, or_false, false_or, or_true, true_or, and_true, true_and, and_false, false_and, ne_eq, eq_self, or_self, and_self]; done) | ((with_reducible refine wpf ?_ ?_); · simp (disch := first | omega | decide) only [↓neg1, nlit, rI, rL, rI2, rL1, nI_add, pk_mul, sbT, dvT, nmd, ixT, ↓ibT, ltT, ltF, leT, leF, eqT, eqF, nM_ltT, nM_ltF, nM_leT, nM_leF, nM_eqF, nM_eqF', nbT0, nbT1, oI_s, oI_n, natF, natT, nltT, nltF, nleT, nleF, ↓reduceIte, lgc, not_true_eq_false, not_false_eq_true, or_false, false_or, or_true, true_or, and_true, true_and, and_false, false_and, ne_eq, eq_self, or_self, and_self]; done))
        refine ⟨nI_1 _, ⟨sx_pI g2 rfl, g3, fun j hj => ?_⟩, Or.inr ⟨i, by omega, hi, hv, g6, ?_⟩⟩
        · show (pI t 232 (ix (nI k)) _).1 232 j = _
          rw [ix_n (by omega), rI, if_neg (by omega)]
          exact g4 j hj
        · show (pI t 232 (ix (nI k)) _).1 232 k = _
          rw [ix_n (by omega), rI, if_pos ⟨rfl, rfl⟩]
      · (try dsimp only); repeat (first | with_reducible refine wpl ?_ | with_reducible refine wpj ?_ | with_reducible refine wpSl ?_ | with_reducible refine wpSr ?_ | with_reducible refine wpS ?_ | ((with_reducible refine wpt ?_ ?_); · simp (disch := first | omega | decide) only [↓neg1, nlit, rI, rL, rI2, rL1, nI_add, pk_mul, sbT, dvT, nmd, ixT, ↓ibT, ltT, ltF, leT, leF, eqT, eqF, nM_ltT, nM_ltF, nM_leT, nM_leF, nM_eqF, nM_eqF', nbT0, nbT1, oI_s, oI_n, natF, natT, nltT, nltF, nleT, nleF, ↓reduceIte, lgc, not_true_eq_false, not_false_eq_true, or_false, false_or, or_true, true_or, and_true, true_and, and_false, false_and, ne_eq, eq_self, or_self, and_self, hAt.2.2.2.2.1, hv]; done) | ((with_reducible refine wpf ?_ ?_); · simp (disch := first | omega | decide) only [↓neg1, nlit, rI, rL, rI2, rL1, nI_add, pk_mul, sbT, dvT, nmd, ixT, ↓ibT, ltT, ltF, leT, leF, eqT, eqF, nM_ltT, nM_ltF, nM_leT, nM_leF, nM_eqF, nM_eqF', nbT0, nbT1, oI_s, oI_n, natF, natT, nltT, nltF, nleT, nleF, ↓reduceIte, lgc, not_true_eq_false, not_false_eq_true, or_false, false_or, or_true, true_or, and_true, true_and, and_false, false_and, ne_eq, eq_self, or_self, and_self, hAt.2.2.2.2.1, hv]; done))
        refine ⟨nI_1 _, ⟨g2, g3, g4⟩, Or.inl ⟨g5, fun j hj => ?_⟩⟩
        by_cases e : j = i
        · rw [e]
          exact hv
        · exact g6 j (by omega)
    · (try dsimp only); repeat (first | with_reducible refine wpl ?_ | with_reducible refine wpj ?_ | with_reducible refine wpSl ?_ | with_reducible refine wpSr ?_ | with_reducible refine wpS ?_ | ((with_reducible refine wpt ?_ ?_); · simp (disch := first | omega | decide) only [↓neg1, nlit, rI, rL, rI2, rL1, nI_add, pk_mul, sbT, dvT, nmd, ixT, ↓ibT, ltT, ltF, leT, leF, eqT, eqF, nM_ltT, nM_ltF, nM_leT, nM_leF, nM_eqF, nM_eqF', nbT0, nbT1, oI_s, oI_n, natF, natT, nltT, nltF, nleT, nleF, ↓reduceIte, lgc, not_true_eq_false, not_false_eq_true, or_false, false_or, or_true, true_or, and_true, true_and, and_false, false_and, ne_eq, eq_self, or_self, and_self, hAt.2.2.2.1, z2, g7]; done) | ((with_reducible refine wpf ?_ ?_); · simp (disch := first | omega | decide) only [↓neg1, nlit, rI, rL, rI2, rL1, nI_add, pk_mul, sbT, dvT, nmd, ixT, ↓ibT, ltT, ltF, leT, leF, eqT, eqF, nM_ltT, nM_ltF, nM_leT, nM_leF, nM_eqF, nM_eqF', nbT0, nbT1, oI_s, oI_n, natF, natT, nltT, nltF, nleT, nleF, ↓reduceIte, lgc, not_true_eq_false, not_false_eq_true, or_false, false_or, or_true, true_or, and_true, true_and, and_false, false_and, ne_eq, eq_self, or_self, and_self, hAt.2.2.2.1, z2, g7]; done))
      refine ⟨⟨g2, g3, g4⟩, ?_⟩
      rw [ff_is hj2 (decide_eq_true g5) (fun l hl => decide_eq_false (g6 l hl))]
      exact g7
  · rintro ⟨a, t⟩ ⟨g1, ⟨g2, g3, g4⟩, g5⟩
    dsimp only at g1 g2 g3 g4 g5
    subst g1
    have hAt := hloc t g2
    (try dsimp only); repeat (first | with_reducible refine wpl ?_ | with_reducible refine wpj ?_ | with_reducible refine wpSl ?_ | with_reducible refine wpSr ?_ | with_reducible refine wpS ?_ | ((with_reducible refine wpt ?_ ?_); · simp (disch := first | omega | decide) only [↓neg1, nlit, rI, rL, rI2, rL1, nI_add, pk_mul, sbT, dvT, nmd, ixT, ↓ibT, ltT, ltF, leT, leF, eqT, eqF, nM_ltT, nM_ltF, nM_leT, nM_leF, nM_eqF, nM_eqF', nbT0, nbT1, oI_s, oI_n, natF, natT, nltT, nltF, nleT, nleF, ↓reduceIte, lgc, not_true_eq_false, not_false_eq_true, or_false, false_or, or_true, true_or, and_true, true_and, and_false, false_and, ne_eq, eq_self, or_self, and_self, hAt.2.2.2.1, z2]; done) | ((with_reducible refine wpf ?_ ?_); · simp (disch := first | omega | decide) only [↓neg1, nlit, rI, rL, rI2, rL1, nI_add, pk_mul, sbT, dvT, nmd, ixT, ↓ibT, ltT, ltF, leT, leF, eqT, eqF, nM_ltT, nM_ltF, nM_leT, nM_leF, nM_eqF, nM_eqF', nbT0, nbT1, oI_s, oI_n, natF, natT, nltT, nltF, nleT, nleF, ↓reduceIte, lgc, not_true_eq_false, not_false_eq_true, or_false, false_or, or_true, true_or, and_true, true_and, and_false, false_and, ne_eq, eq_self, or_self, and_self, hAt.2.2.2.1, z2]; done))
    refine ⟨⟨g2, g3, g4⟩, ?_⟩
    rcases g5 with ⟨g5, g6⟩ | ⟨j, hj, hj2, g5, g6, g7⟩
    · rw [ff_no (fun l hl => decide_eq_false (g6 l hl))]
      exact g5
    · rw [ff_is hj2 (decide_eq_true g5) (fun l hl => decide_eq_false (g6 l hl))]
      exact g7
  · show (pI s 232 (ix (nI k)) nM).1 232 j = _
    rw [ix_n (by omega), rI, if_neg (by omega)]
    exact h4 j hj
  · show (pI s 232 (ix (nI k)) nM).1 232 k = _
    rw [ix_n (by omega), rI, if_pos ⟨rfl, rfl⟩]
  rintro t ⟨⟨t1, t2, t3⟩, t4⟩
  -- the second loop
  have hgv := gv_eq (v := v) hk (k7 k · · hk)
  refine wpc (K' := fun q : cS => (sx qG u q ∧ q.2 174 73 = v ∧ ∀ j, j < k → q.1 232 j = oI (gv m v j)) ∧ q.1 232 k = oI (gv m v k)) (whl_cnt (fun i (q : Int32 × cS) => q.1 = nI i ∧ (sx qG u q.2 ∧ q.2.2 174 73 = v ∧ ∀ j, j < k → q.2.1 232 j = oI (gv m v j)) ∧ ((∃ y, y < 100000 ∧ gv m v k = some y ∧ q.2.1 232 k = nI y) ∨ (q.2.1 232 k = nM ∧ ff (fun i => decide (m.2 223 ((1200 + k) * 20 + i) = v)) (mz m (1200 + k)) = none ∧ ∀ j, j < i → ((kOf m (m.2 223 ((1200 + k) * 20 + j))).bind (gv m v)) = none))) (mz m (1200 + k)) ?_ ?_ (by omega) ⟨rfl, ⟨t1, t2, t3⟩, ?_⟩) ?_
  · rintro i ⟨a, q⟩ hi ⟨g1, ⟨g2, g3, g4⟩, g5⟩
    dsimp only at g1 g2 g3 g4 g5
    subst g1
    have hAt := hloc q g2
    rcases g5 with ⟨y, hy, g5, g6⟩ | ⟨g5, g6, g7⟩
    · (try dsimp only); repeat (first | with_reducible refine wpl ?_ | with_reducible refine wpj ?_ | with_reducible refine wpSl ?_ | with_reducible refine wpSr ?_ | with_reducible refine wpS ?_ | ((with_reducible refine wpt ?_ ?_); · simp (disch := first | omega | decide) only [↓neg1, nlit, rI, rL, rI2, rL1, nI_add, pk_mul, sbT, dvT, nmd, ixT, ↓ibT, ltT, ltF, leT, leF, eqT, eqF, nM_ltT, nM_ltF, nM_leT, nM_leF, nM_eqF, nM_eqF', nbT0, nbT1, oI_s, oI_n, natF, natT, nltT, nltF, nleT, nleF, ↓reduceIte, lgc, not_true_eq_false, not_false_eq_true, or_false, false_or, or_true, true_or, and_true, true_and, and_false, false_and, ne_eq, eq_self, or_self, and_self, hAt.2.2.2.1, z2, g6]; done) | ((with_reducible refine wpf ?_ ?_); · simp (disch := first | omega | decide) only [↓neg1, nlit, rI, rL, rI2, rL1, nI_add, pk_mul, sbT, dvT, nmd, ixT, ↓ibT, ltT, ltF, leT, leF, eqT, eqF, nM_ltT, nM_ltF, nM_leT, nM_leF, nM_eqF, nM_eqF', nbT0, nbT1, oI_s, oI_n, natF, natT, nltT, nltF, nleT, nleF, ↓reduceIte, lgc, not_true_eq_false, not_false_eq_true, or_false, false_or, or_true, true_or, and_true, true_and, and_false, false_and, ne_eq, eq_self, or_self, and_self, hAt.2.2.2.1, z2, g6]; done))
      refine ⟨⟨g2, g3, g4⟩, ?_⟩
      rw [g5]
      exact g6
    · (try dsimp only); repeat (first | with_reducible refine wpl ?_ | with_reducible refine wpj ?_ | with_reducible refine wpSl ?_ | with_reducible refine wpSr ?_ | with_reducible refine wpS ?_ | ((with_reducible refine wpt ?_ ?_); · simp (disch := first | omega | decide) only [↓neg1, nlit, rI, rL, rI2, rL1, nI_add, pk_mul, sbT, dvT, nmd, ixT, ↓ibT, ltT, ltF, leT, leF, eqT, eqF, nM_ltT, nM_ltF, nM_leT, nM_leF, nM_eqF, nM_eqF', nbT0, nbT1, oI_s, oI_n, natF, natT, nltT, nltF, nleT, nleF, ↓reduceIte, lgc, not_true_eq_false, not_false_eq_true, or_false, false_or, or_true, true_or, and_true, true_and, and_false, false_and, ne_eq, eq_self, or_self, and_self, hAt.2.2.2.1, z2, g5]; done) | ((with_reducible refine wpf ?_ ?_); · simp (disch := first | omega | decide) only [↓neg1, nlit, rI, rL, rI2, rL1, nI_add, pk_mul, sbT, dvT, nmd, ixT, ↓ibT, ltT, ltF, leT, leF, eqT, eqF, nM_ltT, nM_ltF, nM_leT, nM_leF, nM_eqF, nM_eqF', nbT0, nbT1, oI_s, oI_n, natF, natT, nltT, nltF, nleT, nleF, ↓reduceIte, lgc, not_true_eq_false, not_false_eq_true, or_false, false_or, or_true, true_or, and_true, true_and, and_false, false_and, ne_eq, eq_self, or_self, and_self, hAt.2.2.2.1, z2, g5]; done))
      refine wpe e392 ?_
      (try dsimp only); repeat (first | with_reducible refine wpl ?_ | with_reducible refine wpj ?_ | with_reducible refine wpSl ?_ | with_reducible refine wpSr ?_ | with_reducible refine wpS ?_ | ((with_reducible refine wpt ?_ ?_); · simp (disch := first | omega | decide) only [↓neg1, nlit, rI, rL, rI2, rL1, nI_add, pk_mul, sbT, dvT, nmd, ixT, ↓ibT, ltT, ltF, leT, leF, eqT, eqF, nM_ltT, nM_ltF, nM_leT, nM_leF, nM_eqF, nM_eqF', nbT0, nbT1, oI_s, oI_n, natF, natT, nltT, nltF, nleT, nleF, ↓reduceIte, lgc, not_true_eq_false, not_false_eq_true, or_false, false_or, or_true, true_or, and_true, true_and, and_false, false_and, ne_eq, eq_self, or_self, and_self]; done) | ((with_reducible refine wpf ?_ ?_); · simp (disch := first | omega | decide) only [↓neg1, nlit, rI, rL, rI2, rL1, nI_add, pk_mul, sbT, dvT, nmd, ixT, ↓ibT, ltT, ltF, leT, leF, eqT, eqF, nM_ltT, nM_ltF, nM_leT, nM_leF, nM_eqF, nM_eqF', nbT0, nbT1, oI_s, oI_n, natF, natT, nltT, nltF, nleT, nleF, ↓reduceIte, lgc, not_true_eq_false, not_false_eq_true, or_false, false_or, or_true, true_or, and_true, true_and, and_false, false_and, ne_eq, eq_self, or_self, and_self]; done))
      rw [ix_n (by omega), hAt.2.2.2.2.1 _ (by omega)]
      refine wpe (e373 (by omega) hAt k1 k3) ?_
      cases hd : kOf m (m.2 223 ((1200 + k) * 20 + i)) with
      | none =>
        (try dsimp only); repeat (first | with_reducible refine wpl ?_ | with_reducible refine wpj ?_ | with_reducible refine wpSl ?_ | with_reducible refine wpSr ?_ | with_reducible refine wpS ?_ | ((with_reducible refine wpt ?_ ?_); · simp (disch := first | omega | decide) only [↓neg1, nlit, rI, rL, rI2, rL1, nI_add, pk_mul, sbT, dvT, nmd, ixT, ↓ibT, ltT, ltF, leT, leF, eqT, eqF, nM_ltT, nM_ltF, nM_leT, nM_leF, nM_eqF, nM_eqF', nbT0, nbT1, oI_s, oI_n, natF, natT, nltT, nltF, nleT, nleF, ↓reduceIte, lgc, not_true_eq_false, not_false_eq_true, or_false, false_or, or_true, true_or, and_true, true_and, and_false, false_and, ne_eq, eq_self, or_self, and_self]; done) | ((with_reducible refine wpf ?_ ?_); · simp (disch := first | omega | decide) only [↓neg1, nlit, rI, rL, rI2, rL1, nI_add, pk_mul, sbT, dvT, nmd, ixT, ↓ibT, ltT, ltF, leT, leF, eqT, eqF, nM_ltT, nM_ltF, nM_leT, nM_leF, nM_eqF, nM_eqF', nbT0, nbT1, oI_s, oI_n, natF, natT, nltT, nltF, nleT, nleF, ↓reduceIte, lgc, not_true_eq_false, not_false_eq_true, or_false, false_or, or_true, true_or, and_true, true_and, and_false, false_and, ne_eq, eq_self, or_self, and_self]; done))
        refine ⟨nI_1 _, ⟨g2, g3, g4⟩, Or.inr ⟨g5, g6, fun j hj => ?_⟩⟩
        by_cases e : j = i
        · rw [e, hd]
          rfl
        · exact g7 j (by omega)
      | some d =>
        have hd1 := k7 k i d hk hi hd
        (try dsimp only); repeat (first | with_reducible refine wpl ?_ | with_reducible refine wpj ?_ | with_reducible refine wpSl ?_ | with_reducible refine wpSr ?_ | with_reducible refine wpS ?_ | ((with_reducible refine wpt ?_ ?_); · simp (disch := first | omega | decide) only [↓neg1, nlit, rI, rL, rI2, rL1, nI_add, pk_mul, sbT, dvT, nmd, ixT, ↓ibT, ltT, ltF, leT, leF, eqT, eqF, nM_ltT, nM_ltF, nM_leT, nM_leF, nM_eqF, nM_eqF', nbT0, nbT1, oI_s, oI_n, natF, natT, nltT, nltF, nleT, nleF, ↓reduceIte, lgc, not_true_eq_false, not_false_eq_true, or_false, false_or, or_true, true_or, and_true, true_and, and_false, false_and, ne_eq, eq_self, or_self, and_self]; done) | ((with_reducible refine wpf ?_ ?_); · simp (disch := first | omega | decide) only [↓neg1, nlit, rI, rL, rI2, rL1, nI_add, pk_mul, sbT, dvT, nmd, ixT, ↓ibT, ltT, ltF, leT, leF, eqT, eqF, nM_ltT, nM_ltF, nM_leT, nM_leF, nM_eqF, nM_eqF', nbT0, nbT1, oI_s, oI_n, natF, natT, nltT, nltF, nleT, nleF, ↓reduceIte, lgc, not_true_eq_false, not_false_eq_true, or_false, false_or, or_true, true_or, and_true, true_and, and_false, false_and, ne_eq, eq_self, or_self, and_self]; done))
        refine ⟨nI_1 _, ⟨sx_pI g2 rfl, g3, fun j hj => ?_⟩, ?_⟩
        · show (pI q 232 (ix (nI k)) _).1 232 j = _
          rw [ix_n (by omega), rI, if_neg (by omega)]
          exact g4 j hj
        · show (∃ y, y < 100000 ∧ gv m v k = some y ∧ (pI q 232 (ix (nI k)) _).1 232 k = nI y) ∨ ((pI q 232 (ix (nI k)) _).1 232 k = nM ∧ _)
          rw [ix_n (by omega), rI, if_pos ⟨rfl, rfl⟩, oI, ix_n (by omega), g4 d hd1]
          cases hg : gv m v d with
          | none =>
            refine Or.inr ⟨rfl, g6, fun j hj => ?_⟩
            by_cases e : j = i
            · rw [e, hd]
              exact hg
            · exact g7 j (by omega)
          | some y =>
            have hb : (kOf m (m.2 223 ((1200 + k) * 20 + i))).bind (gv m v) = some y := by rw [hd]; exact hg
            refine Or.inl ⟨y, ?_, ?_, rfl⟩
            · obtain ⟨d', i', e1, e2, e3⟩ := gv_in k1 hg
              have := (k6 d' e1).1.1
              omega
            · rw [hgv]
              unfold gv1
              rw [g6]
              show Option.bind (ff _ _) _ = _
              rw [ff_is (j := i) hi (by rw [hb]; rfl) (fun l hl => by rw [g7 l hl]; rfl)]
              exact hb
  · rintro ⟨a, q⟩ ⟨g1, ⟨g2, g3, g4⟩, g5⟩
    dsimp only at g1 g2 g3 g4 g5
    subst g1
    have hAt := hloc q g2
    (try dsimp only); repeat (first | with_reducible refine wpl ?_ | with_reducible refine wpj ?_ | with_reducible refine wpSl ?_ | with_reducible refine wpSr ?_ | with_reducible refine wpS ?_ | ((with_reducible refine wpt ?_ ?_); · simp (disch := first | omega | decide) only [↓neg1, nlit, rI, rL, rI2, rL1, nI_add, pk_mul, sbT, dvT, nmd, ixT, ↓ibT, ltT, ltF, leT, leF, eqT, eqF, nM_ltT, nM_ltF, nM_leT, nM_leF, nM_eqF, nM_eqF', nbT0, nbT1, oI_s, oI_n, natF, natT, nltT, nltF, nleT, nleF, ↓reduceIte, lgc, not_true_eq_false, not_false_eq_true, or_false, false_or, or_true, true_or, and_true, true_and, and_false, false_and, ne_eq, eq_self, or_self, and_self, hAt.2.2.2.1, z2]; done) | ((with_reducible refine wpf ?_ ?_); · simp (disch := first | omega | decide) only [↓neg1, nlit, rI, rL, rI2, rL1, nI_add, pk_mul, sbT, dvT, nmd, ixT, ↓ibT, ltT, ltF, leT, leF, eqT, eqF, nM_ltT, nM_ltF, nM_leT, nM_leF, nM_eqF, nM_eqF', nbT0, nbT1, oI_s, oI_n, natF, natT, nltT, nltF, nleT, nleF, ↓reduceIte, lgc, not_true_eq_false, not_false_eq_true, or_false, false_or, or_true, true_or, and_true, true_and, and_false, false_and, ne_eq, eq_self, or_self, and_self, hAt.2.2.2.1, z2]; done))
    refine ⟨⟨g2, g3, g4⟩, ?_⟩
    rcases g5 with ⟨y, hy, g5, g6⟩ | ⟨g5, g6, g7⟩
    · rw [g5]
      exact g6
    · rw [hgv]
      unfold gv1
      rw [g6]
      show _ = oI (Option.bind (ff _ _) _)
      rw [ff_no (fun l hl => by rw [g7 l hl]; rfl)]
      exact g5
  · show (∃ y, _) ∨ _
    rw [t4]
    cases hf : ff (fun i => decide (m.2 223 ((1200 + k) * 20 + i) = v)) (mz m (1200 + k)) with
    | none => exact Or.inr ⟨rfl, rfl, fun j hj => by omega⟩
    | some i =>
      have := (ff_some hf).1
      refine Or.inl ⟨(1200 + k) * 20 + i, by omega, ?_, rfl⟩
      rw [hgv]
      unfold gv1
      rw [hf]
  rintro q ⟨⟨q1, q2, q3⟩, q4⟩
  (try dsimp only); repeat (first | with_reducible refine wpl ?_ | with_reducible refine wpj ?_ | with_reducible refine wpSl ?_ | with_reducible refine wpSr ?_ | with_reducible refine wpS ?_ | ((with_reducible refine wpt ?_ ?_); · simp (disch := first | omega | decide) only [↓neg1, nlit, rI, rL, rI2, rL1, nI_add, pk_mul, sbT, dvT, nmd, ixT, ↓ibT, ltT, ltF, leT, leF, eqT, eqF, nM_ltT, nM_ltF, nM_leT, nM_leF, nM_eqF, nM_eqF', nbT0, nbT1, oI_s, oI_n, natF, natT, nltT, nltF, nleT, nleF, ↓reduceIte, lgc, not_true_eq_false, not_false_eq_true, or_false, false_or, or_true, true_or, and_true, true_and, and_false, false_and, ne_eq, eq_self, or_self, and_self]; done) | ((with_reducible refine wpf ?_ ?_); · simp (disch := first | omega | decide) only [↓neg1, nlit, rI, rL, rI2, rL1, nI_add, pk_mul, sbT, dvT, nmd, ixT, ↓ibT, ltT, ltF, leT, leF, eqT, eqF, nM_ltT, nM_ltF, nM_leT, nM_leF, nM_eqF, nM_eqF', nbT0, nbT1, oI_s, oI_n, natF, natT, nltT, nltF, nleT, nleF, ↓reduceIte, lgc, not_true_eq_false, not_false_eq_true, or_false, false_or, or_true, true_or, and_true, true_and, and_false, false_and, ne_eq, eq_self, or_self, and_self]; done))
  refine ⟨nI_1 _, q1, q2, fun j hj => ?_⟩
  by_cases e : j = k
  · rw [e]
    exact q4
  · exact q3 j (by omega)
