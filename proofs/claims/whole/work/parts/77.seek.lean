/-! EFFECTIVE MARKS: the class's way up -/
theorem e159 {n k : Nat} {v : Int64} {c m : cS} (hn : 1000 ≤ n) (hC : CCS c m) (hk : k < ccn m) : d_159 n (nI k) v c = some (match ff (fun j => decide (m.2 206 (8 * k + j) = v)) (qM m k) with | some j => nI (k * 8 + j) | none => nM) := by
  have h12 := (CCS_p hC).1
  obtain ⟨q1, q2, q3⟩ := hC.1.2.2.2.2.1 k hk
  have hnm := hC.2.2.2.2 k
  unfold d_159
  refine bwf (fun k => nI k) (Sum.inl ()) (fun k => Sum.inr (nI k)) (fun j => decide (m.2 206 (8 * k + j) = v)) (cnt := qM m k) (by omega) rfl ?_ (fun j hj => ?_) ?_
  · simp (disch := first | omega | decide) only [↓neg1, nlit, rI, rL, rI2, rL1, nI_add, pk_mul, sbT, dvT, nmd, ixT, ↓ibT, ltT, ltF, leT, leF, eqT, eqF, nM_ltT, nM_ltF, nM_leT, nM_leF, nM_eqF, nM_eqF', nbT0, nbT1, oI_s, oI_n, natF, natT, nltT, nltF, nleT, nleF, ↓reduceIte, lgc, not_true_eq_false, not_false_eq_true, or_false, false_or, or_true, true_or, and_true, true_and, and_false, false_and, ne_eq, eq_self, or_self, and_self, obs, ↓jn, ↓lt, ↓reduceIte, decide_true, decide_false, Bool.false_eq_true, Bool.and_true, Bool.and_false, Bool.true_and, Bool.false_and, Bool.or_false, Bool.false_or, Bool.or_true, Bool.true_or, q2]
  · have hj' := hnm j hk hj
    by_cases hv : m.2 206 (8 * k + j) = v
    · simp (disch := first | omega | decide) only [↓neg1, nlit, rI, rL, rI2, rL1, nI_add, pk_mul, sbT, dvT, nmd, ixT, ↓ibT, ltT, ltF, leT, leF, eqT, eqF, nM_ltT, nM_ltF, nM_leT, nM_leF, nM_eqF, nM_eqF', nbT0, nbT1, oI_s, oI_n, natF, natT, nltT, nltF, nleT, nleF, ↓reduceIte, lgc, not_true_eq_false, not_false_eq_true, or_false, false_or, or_true, true_or, and_true, true_and, and_false, false_and, ne_eq, eq_self, or_self, and_self, obs, ↓jn, ↓lt, ↓reduceIte, decide_true, decide_false, Bool.false_eq_true, Bool.and_true, Bool.and_false, Bool.true_and, Bool.false_and, Bool.or_false, Bool.false_or, Bool.or_true, Bool.true_or, q2, hj', hv]
    · simp (disch := first | omega | decide) only [↓neg1, nlit, rI, rL, rI2, rL1, nI_add, pk_mul, sbT, dvT, nmd, ixT, ↓ibT, ltT, ltF, leT, leF, eqT, eqF, nM_ltT, nM_ltF, nM_leT, nM_leF, nM_eqF, nM_eqF', nbT0, nbT1, oI_s, oI_n, natF, natT, nltT, nltF, nleT, nleF, ↓reduceIte, lgc, not_true_eq_false, not_false_eq_true, or_false, false_or, or_true, true_or, and_true, true_and, and_false, false_and, ne_eq, eq_self, or_self, and_self, obs, ↓jn, ↓lt, ↓reduceIte, decide_true, decide_false, Bool.false_eq_true, Bool.and_true, Bool.and_false, Bool.true_and, Bool.false_and, Bool.or_false, Bool.false_or, Bool.or_true, Bool.true_or, q2, hj', hv]
  · cases hf : ff (fun j => decide (m.2 206 (8 * k + j) = v)) (qM m k) with
    | none => rfl
    | some j =>
      show some (nI k * 8 + nI j) = _
      simp (disch := first | omega | decide) only [↓neg1, nlit, rI, rL, rI2, rL1, nI_add, pk_mul, sbT, dvT, nmd, ixT, ↓ibT, ltT, ltF, leT, leF, eqT, eqF, nM_ltT, nM_ltF, nM_leT, nM_leF, nM_eqF, nM_eqF', nbT0, nbT1, oI_s, oI_n, natF, natT, nltT, nltF, nleT, nleF, ↓reduceIte, lgc, not_true_eq_false, not_false_eq_true, or_false, false_or, or_true, true_or, and_true, true_and, and_false, false_and, ne_eq, eq_self, or_self, and_self]
theorem e156 {n k j : Nat} (hk : k < 1000) (hj : j < 8) : d_156 n (nI (k * 8 + j)) = some (nI (100 * k + 20 + 10 * j)) := by
  unfold d_156
  simp (disch := first | omega | decide) only [↓neg1, nlit, rI, rL, rI2, rL1, nI_add, pk_mul, sbT, dvT, nmd, ixT, ↓ibT, ltT, ltF, leT, leF, eqT, eqF, nM_ltT, nM_ltF, nM_leT, nM_leF, nM_eqF, nM_eqF', nbT0, nbT1, oI_s, oI_n, natF, natT, nltT, nltF, nleT, nleF, ↓reduceIte, lgc, not_true_eq_false, not_false_eq_true, or_false, false_or, or_true, true_or, and_true, true_and, and_false, false_and, ne_eq, eq_self, or_self, and_self, obs, ↓jn, ↓lt, ↓reduceIte, decide_true, decide_false, Bool.false_eq_true, Bool.and_true, Bool.and_false, Bool.true_and, Bool.false_and, Bool.or_false, Bool.false_or, Bool.or_true, Bool.true_or]
  rw [show (k * 8 + j) / 8 = k by omega, show (k * 8 + j) % 8 = j by omega]
  exact congrArg (fun z => some (nI z)) (by omega)
theorem e160 {n k : Nat} {v : Int64} {c m : cS} (hn : 1000 ≤ n) (hC : CCS c m) (hk : k < ccn m) : d_160 n (nI k) v c = some (match nrM m v 12 k with | some q => nI (100 * q.1 + 20 + 10 * q.2) | none => nM) := by
  obtain ⟨h12, hp⟩ := CCS_p hC
  have e159' := fun k (hk : k < ccn m) => e159 (n := n) (v := v) hn hC hk
  unfold d_160
  have hb := fun (f : Int32 × Int32 → Option ((Int32 × Int32) ⊕ (Unit ⊕ Int32))) h1 h2 => whl_up (m := m) (f := f) (g := fun k => ((ff (fun j => decide (m.2 206 (8 * k + j) = v)) (qM m k)).map (fun j => (k, j))).map (fun q => Sum.inr (nI (q.1 * 8 + q.2)))) (E := Sum.inl ()) (fun t s => (s, nI t)) h12 hp h1 h2 12 k 0 n hk (by omega) (by omega) (by omega)
  refine (congrArg (fun z => Option.bind z _) (hb _ ?_ ?_)).trans ?_
  · intro t ht
    by_cases h : 12 ≤ t
    · simp (disch := first | omega | decide) only [↓neg1, nlit, rI, rL, rI2, rL1, nI_add, pk_mul, sbT, dvT, nmd, ixT, ↓ibT, ltT, ltF, leT, leF, eqT, eqF, nM_ltT, nM_ltF, nM_leT, nM_leF, nM_eqF, nM_eqF', nbT0, nbT1, oI_s, oI_n, natF, natT, nltT, nltF, nleT, nleF, ↓reduceIte, lgc, not_true_eq_false, not_false_eq_true, or_false, false_or, or_true, true_or, and_true, true_and, and_false, false_and, ne_eq, eq_self, or_self, and_self, obs, ↓jn, ↓lt, ↓reduceIte, decide_true, decide_false, Bool.false_eq_true, Bool.and_true, Bool.and_false, Bool.true_and, Bool.false_and, Bool.or_false, Bool.false_or, Bool.or_true, Bool.true_or]
    · simp (disch := first | omega | decide) only [↓neg1, nlit, rI, rL, rI2, rL1, nI_add, pk_mul, sbT, dvT, nmd, ixT, ↓ibT, ltT, ltF, leT, leF, eqT, eqF, nM_ltT, nM_ltF, nM_leT, nM_leF, nM_eqF, nM_eqF', nbT0, nbT1, oI_s, oI_n, natF, natT, nltT, nltF, nleT, nleF, ↓reduceIte, lgc, not_true_eq_false, not_false_eq_true, or_false, false_or, or_true, true_or, and_true, true_and, and_false, false_and, ne_eq, eq_self, or_self, and_self, obs, ↓jn, ↓lt, ↓reduceIte, decide_true, decide_false, Bool.false_eq_true, Bool.and_true, Bool.and_false, Bool.true_and, Bool.false_and, Bool.or_false, Bool.false_or, Bool.or_true, Bool.true_or]
  · intro t j ht hj
    have hpar := (hC.2.2.1 j hj).2.1
    cases hf : ff (fun i => decide (m.2 206 (8 * j + i) = v)) (qM m j) with
    | none => simp (disch := first | omega | decide) only [↓neg1, nlit, rI, rL, rI2, rL1, nI_add, pk_mul, sbT, dvT, nmd, ixT, ↓ibT, ltT, ltF, leT, leF, eqT, eqF, nM_ltT, nM_ltF, nM_leT, nM_leF, nM_eqF, nM_eqF', nbT0, nbT1, oI_s, oI_n, natF, natT, nltT, nltF, nleT, nleF, ↓reduceIte, lgc, not_true_eq_false, not_false_eq_true, or_false, false_or, or_true, true_or, and_true, true_and, and_false, false_and, ne_eq, eq_self, or_self, and_self, obs, ↓jn, ↓lt, ↓reduceIte, decide_true, decide_false, Bool.false_eq_true, Bool.and_true, Bool.and_false, Bool.true_and, Bool.false_and, Bool.or_false, Bool.false_or, Bool.or_true, Bool.true_or, e159' j hj, hf, hpar, Option.map_none]
    | some i =>
      have := (ff_some hf).1
      have := (hC.1.2.2.2.2.1 j hj).1
      simp (disch := first | omega | decide) only [↓neg1, nlit, rI, rL, rI2, rL1, nI_add, pk_mul, sbT, dvT, nmd, ixT, ↓ibT, ltT, ltF, leT, leF, eqT, eqF, nM_ltT, nM_ltF, nM_leT, nM_leF, nM_eqF, nM_eqF', nbT0, nbT1, oI_s, oI_n, natF, natT, nltT, nltF, nleT, nleF, ↓reduceIte, lgc, not_true_eq_false, not_false_eq_true, or_false, false_or, or_true, true_or, and_true, true_and, and_false, false_and, ne_eq, eq_self, or_self, and_self, obs, ↓jn, ↓lt, ↓reduceIte, decide_true, decide_false, Bool.false_eq_true, Bool.and_true, Bool.and_false, Bool.true_and, Bool.false_and, Bool.or_false, Bool.false_or, Bool.or_true, Bool.true_or, e159' j hj, hf, Option.map_some]
  · rw [upO_map]
    show Option.bind (some (((nrM m v 12 k).map _).elim _ _)) _ = _
    cases hr : nrM m v 12 k with
    | none => rfl
    | some q =>
      obtain ⟨q1, q2, q3⟩ := nrM_ok hC hk hr
      have hq8 := (hC.1.2.2.2.2.1 q.1 q1).1
      show Option.bind (d_156 n (nI (q.1 * 8 + q.2))) _ = _
      rw [e156 (by omega) (by omega)]
      rfl
theorem e184 {n p s : Nat} {c m : cS} (hn : 1000 ≤ n) (hC : CCS c m) (h : isP m p s) : d_184 n (nI p) c = some (oI (abv m p)) := by
  obtain ⟨h12, hp⟩ := CCS_p hC
  have hc := isP_c h
  have hpp : p < 1200 := by omega
  have hpar := (hC.2.2.1 _ hc).2.1
  unfold d_184 abv
  have e160' := fun (d : Nat) (hd : d < ccn m) v => e160 (n := n) (k := d) (v := v) hn hC hd
  rcases hp _ hc with e | ⟨d, hd, e⟩
  · simp (disch := first | omega | decide) only [↓neg1, nlit, rI, rL, rI2, rL1, nI_add, pk_mul, sbT, dvT, nmd, ixT, ↓ibT, ltT, ltF, leT, leF, eqT, eqF, nM_ltT, nM_ltF, nM_leT, nM_leF, nM_eqF, nM_eqF', nbT0, nbT1, oI_s, oI_n, natF, natT, nltT, nltF, nleT, nleF, ↓reduceIte, lgc, not_true_eq_false, not_false_eq_true, or_false, false_or, or_true, true_or, and_true, true_and, and_false, false_and, ne_eq, eq_self, or_self, and_self, obs, ↓jn, ↓lt, ↓reduceIte, decide_true, decide_false, Bool.false_eq_true, Bool.and_true, Bool.and_false, Bool.true_and, Bool.false_and, Bool.or_false, Bool.false_or, Bool.or_true, Bool.true_or, hpar, e, par_none e]
    all_goals rfl
  · by_cases h0 : p % 100 = 0
    · simp (disch := first | omega | decide) only [↓neg1, nlit, rI, rL, rI2, rL1, nI_add, pk_mul, sbT, dvT, nmd, ixT, ↓ibT, ltT, ltF, leT, leF, eqT, eqF, nM_ltT, nM_ltF, nM_leT, nM_leF, nM_eqF, nM_eqF', nbT0, nbT1, oI_s, oI_n, natF, natT, nltT, nltF, nleT, nleF, ↓reduceIte, lgc, not_true_eq_false, not_false_eq_true, or_false, false_or, or_true, true_or, and_true, true_and, and_false, false_and, ne_eq, eq_self, or_self, and_self, obs, ↓jn, ↓lt, ↓reduceIte, decide_true, decide_false, Bool.false_eq_true, Bool.and_true, Bool.and_false, Bool.true_and, Bool.false_and, Bool.or_false, Bool.false_or, Bool.or_true, Bool.true_or, hpar, e, par_some e (show d < 2147483648 by omega), h0]
      all_goals rfl
    · by_cases h1 : p % 100 < 20
      · simp (disch := first | omega | decide) only [↓neg1, nlit, rI, rL, rI2, rL1, nI_add, pk_mul, sbT, dvT, nmd, ixT, ↓ibT, ltT, ltF, leT, leF, eqT, eqF, nM_ltT, nM_ltF, nM_leT, nM_leF, nM_eqF, nM_eqF', nbT0, nbT1, oI_s, oI_n, natF, natT, nltT, nltF, nleT, nleF, ↓reduceIte, lgc, not_true_eq_false, not_false_eq_true, or_false, false_or, or_true, true_or, and_true, true_and, and_false, false_and, ne_eq, eq_self, or_self, and_self, obs, ↓jn, ↓lt, ↓reduceIte, decide_true, decide_false, Bool.false_eq_true, Bool.and_true, Bool.and_false, Bool.true_and, Bool.false_and, Bool.or_false, Bool.false_or, Bool.or_true, Bool.true_or, hpar, e, par_some e (show d < 2147483648 by omega)]
        all_goals rfl
      · have h20 : 20 ≤ p % 100 := by omega
        have hm := mAt_lt hC h h20
        obtain ⟨g1, g2, g3⟩ := CCS_pM hC h h20
        have hnm : c.2 115 (mAt p) = m.2 206 (mAt p) := by
          have := hC.2.2.2.2 _ _ hc (isP_m h h20).1
          rw [Nat.mul_comm] at this
          exact this
        have hd' : d < ccn m := by omega
        cases hr : nrM m (m.2 206 (mAt p)) 12 d with
        | none =>
          simp (disch := first | omega | decide) only [↓neg1, nlit, rI, rL, rI2, rL1, nI_add, pk_mul, sbT, dvT, nmd, ixT, ↓ibT, ltT, ltF, leT, leF, eqT, eqF, nM_ltT, nM_ltF, nM_leT, nM_leF, nM_eqF, nM_eqF', nbT0, nbT1, oI_s, oI_n, natF, natT, nltT, nltF, nleT, nleF, ↓reduceIte, lgc, not_true_eq_false, not_false_eq_true, or_false, false_or, or_true, true_or, and_true, true_and, and_false, false_and, ne_eq, eq_self, or_self, and_self, obs, ↓jn, ↓lt, ↓reduceIte, decide_true, decide_false, Bool.false_eq_true, Bool.and_true, Bool.and_false, Bool.true_and, Bool.false_and, Bool.or_false, Bool.false_or, Bool.or_true, Bool.true_or, hpar, e, par_some e (show d < 2147483648 by omega), e22m, hnm, e160' d hd', hr]
          all_goals rfl
        | some q =>
          obtain ⟨q1, q2, q3⟩ := nrM_ok hC hd' hr
          have hq8 := (hC.1.2.2.2.2.1 q.1 q1).1
          obtain ⟨hp4, hp5, -⟩ := hC.1.2.2.2.2.2 q.1 q.2 q1 q3
          have e1 : mAt (100 * q.1 + 20 + 10 * q.2) = 8 * q.1 + q.2 := by unfold mAt; omega
          have e2 : 20 ≤ (100 * q.1 + 20 + 10 * q.2) % 100 := by omega
          by_cases he : pM m (8 * q.1 + q.2) = pM m (mAt p)
          · simp (disch := first | omega | decide) only [↓neg1, nlit, rI, rL, rI2, rL1, nI_add, pk_mul, sbT, dvT, nmd, ixT, ↓ibT, ltT, ltF, leT, leF, eqT, eqF, nM_ltT, nM_ltF, nM_leT, nM_leF, nM_eqF, nM_eqF', nbT0, nbT1, oI_s, oI_n, natF, natT, nltT, nltF, nleT, nleF, ↓reduceIte, lgc, not_true_eq_false, not_false_eq_true, or_false, false_or, or_true, true_or, and_true, true_and, and_false, false_and, ne_eq, eq_self, or_self, and_self, obs, ↓jn, ↓lt, ↓reduceIte, decide_true, decide_false, Bool.false_eq_true, Bool.and_true, Bool.and_false, Bool.true_and, Bool.false_and, Bool.or_false, Bool.false_or, Bool.or_true, Bool.true_or, hpar, e, par_some e (show d < 2147483648 by omega), e22m, hnm, e160' d hd', hr, e1, hp5, g2, he]
            all_goals exact congrArg (fun z => some (nI z)) (by omega)
          · simp (disch := first | omega | decide) only [↓neg1, nlit, rI, rL, rI2, rL1, nI_add, pk_mul, sbT, dvT, nmd, ixT, ↓ibT, ltT, ltF, leT, leF, eqT, eqF, nM_ltT, nM_ltF, nM_leT, nM_leF, nM_eqF, nM_eqF', nbT0, nbT1, oI_s, oI_n, natF, natT, nltT, nltF, nleT, nleF, ↓reduceIte, lgc, not_true_eq_false, not_false_eq_true, or_false, false_or, or_true, true_or, and_true, true_and, and_false, false_and, ne_eq, eq_self, or_self, and_self, obs, ↓jn, ↓lt, ↓reduceIte, decide_true, decide_false, Bool.false_eq_true, Bool.and_true, Bool.and_false, Bool.true_and, Bool.false_and, Bool.or_false, Bool.false_or, Bool.or_true, Bool.true_or, hpar, e, par_some e (show d < 2147483648 by omega), e22m, hnm, e160' d hd', hr, e1, hp5, g2, he]
            all_goals rfl
theorem gAt_in {m : cS} {p y : Nat} {v : Int64} (h : gAt m p v = some y) : ∃ i, i < mz m p ∧ gb m p i v = some y := by
  unfold gAt at h
  cases hf : ff (fun i => (gb m p i v).isSome) (mz m p) with
  | none =>
    rw [hf] at h
    cases h
  | some i =>
    rw [hf] at h
    exact ⟨i, (ff_some hf).1, h⟩
/-- what the class has found -/
def EFC (c : cS) (e : Nat × Nat × Nat × Option Nat) (d : cS) : Prop := 0 < e.1 → d.1 146 3 = nI e.2.1 ∧ d.1 146 4 = nI e.2.2.1 ∧ d.1 146 5 = oX c e.2.2.2
theorem e180 {n p t s : Nat} {c m : cS} (hn : 1000 ≤ n) (hE : EC c m) (hP : isP m p s) (ht : isKy m t) : wp (d_180 n (nI p) (nI t) c) (fun r => r.1 = nI (eff m t 13 p 0).1 ∧ sx qS c r.2 ∧ EFC c (eff m t 13 p 0) r.2) := by
  obtain ⟨hO, hK, hC, hPP⟩ := id hE
  obtain ⟨k1, -, k3, k4, k5, k6, k7, -⟩ := id hK
  have h104 := isKy_lt k1 hO.1 ht
  have h12 := (CCS_p hC).1
  have hpc := isP_c hP
  generalize hee : eff m t 13 p 0 = e
  unfold d_180
  (try dsimp only); repeat (first | with_reducible refine wpl ?_ | with_reducible refine wpj ?_ | with_reducible refine wpSl ?_ | with_reducible refine wpSr ?_ | with_reducible refine wpS ?_ | ((with_reducible refine wpt ?_ ?_); · simp (disch := first | omega | decide) only [↓neg1, nlit, rI, rL, rI2, rL1, nI_add, pk_mul, sbT, dvT, nmd, ixT, ↓ibT, ltT, ltF, leT, leF, eqT, eqF, nM_ltT, nM_ltF, nM_leT, nM_leF, nM_eqF, nM_eqF', nbT0, nbT1, oI_s, oI_n, natF, natT, nltT, nltF, nleT, nleF, ↓reduceIte, lgc, not_true_eq_false, not_false_eq_true, or_false, false_or, or_true, true_or, and_true, true_and, and_false, false_and, ne_eq, eq_self, or_self, and_self]; done) | ((with_reducible refine wpf ?_ ?_); · simp (disch := first | omega | decide) only [↓neg1, nlit, rI, rL, rI2, rL1, nI_add, pk_mul, sbT, dvT, nmd, ixT, ↓ibT, ltT, ltF, leT, leF, eqT, eqF, nM_ltT, nM_ltF, nM_leT, nM_leF, nM_eqF, nM_eqF', nbT0, nbT1, oI_s, oI_n, natF, natT, nltT, nltF, nleT, nleF, ↓reduceIte, lgc, not_true_eq_false, not_false_eq_true, or_false, false_or, or_true, true_or, and_true, true_and, and_false, false_and, ne_eq, eq_self, or_self, and_self]; done))
  have hgo : ∀ (x : cS) (z : Int32), sx qS c x → x.1 146 3 = nI p → x.1 146 4 = nI 0 → x.1 146 5 = nM → (z = if t < 100 ∧ m.1 196 t = nI 0 then nI 0 else nI 1) → wp (Option.bind (whl (R := (cS) ⊕ (Int32 × cS) ⊕ (cS)) (fun s10 : Int32 × cS =>
      if nI 12 < s10.1 then some (.inr (.inl s10.2)) else
      if (s10.2.1 146 3) < nI 0 then some (.inr (.inl s10.2)) else
        Option.bind (d_181 n (s10.2.1 146 3) (nI t) s10.2) (fun v11 =>
        if v11 = nI 0 then
          Option.bind (d_182 n (s10.2.1 146 3) (nI t) s10.2) (fun v13 =>
          lt (pI s10.2 146 5 v13) (fun c14 =>
          if (c14.1 146 5) < nI 0 then
            jn (fun p16 : Int32 =>
              lt (pI c14 146 3 p16) (fun c17 =>
              lt (pI c17 146 4 ((c17.1 146 4) + nI 1)) (fun c19 =>
              lt (s10.1 + nI 1 : Int32) (fun v22 =>
              some (.inl (v22, c19))))))
            (fun j121 =>
            if z = nI 0 then j121 nM
            else
              Option.bind (d_184 n (c14.1 146 3) c14) (fun v24 =>
              j121 v24))
          else
            some (.inr (.inr (.inr c14)))))
        else
          some (.inr (.inr (.inl (v11, s10.2)))))) n (nI 0, x)) (Sum.elim (fun x25 : cS => some (nI 0, x25)) (Sum.elim (fun x26 : Int32 × cS => some ((if x26.1 < nI 0 then nI 0 else x26.1), x26.2)) (fun x27 : cS => some (nI 1, x27))))) (fun r => r.1 = nI e.1 ∧ sx qS c r.2 ∧ EFC c e r.2) := by
    intro x z hx1 hx2 hx3 hx4 hz
    refine wpc (K' := Sum.elim (fun w : cS => sx qS c w ∧ e.1 = 0) (Sum.elim (fun w : Int32 × cS => sx qS c w.2 ∧ (if w.1 < nI 0 then nI 0 else w.1) = nI e.1 ∧ EFC c e w.2) (fun w : cS => sx qS c w ∧ e.1 = 1 ∧ EFC c e w))) (whl_run (fun μ (st : Int32 × cS) => sx qS c st.2 ∧ ((μ = 0 ∧ st.2.1 146 3 = nM ∧ e.1 = 0 ∧ ∃ k, k ≤ 13 ∧ st.1 = nI k) ∨ ∃ q S F, μ = q / 100 + 1 ∧ st.2.1 146 3 = nI q ∧ isP m q s ∧ q / 100 < F ∧ S + q / 100 ≤ 12 ∧ st.1 = nI S ∧ st.2.1 146 4 = nI S ∧ st.2.1 146 5 = nM ∧ e = eff m t F q S)) ?_ n (p / 100 + 1) _ (by omega) ⟨hx1, Or.inr ⟨p, 0, 13, rfl, hx2, hP, by omega, by omega, rfl, hx3, hx4, hee.symm⟩⟩) ?_
    rotate_left
    · rintro r hr
      rcases r with r | r | r
      · refine ⟨?_, hr.1, fun z => ?_⟩
        · rw [hr.2]
        · have := hr.2
          omega
      · exact ⟨hr.2.1, hr.1, hr.2.2⟩
      · refine ⟨?_, hr.1, hr.2.2⟩
        rw [hr.2.1]
    rintro μ ⟨a, w⟩ ⟨g1, g5⟩
    dsimp only at g1 g5
    have hcw := CA_sx g1 nC_qS
    have hEw := EC_CA hcw hE
    rcases g5 with ⟨rfl, g3, g4, k, hk, rfl⟩ | ⟨q, S, F, rfl, g3, hq, hF, hS, rfl, g6, g8, g7⟩
    · by_cases h : 12 < k
      · (try dsimp only); repeat (first | with_reducible refine wpl ?_ | with_reducible refine wpj ?_ | with_reducible refine wpSl ?_ | with_reducible refine wpSr ?_ | with_reducible refine wpS ?_ | ((with_reducible refine wpt ?_ ?_); · simp (disch := first | omega | decide) only [↓neg1, nlit, rI, rL, rI2, rL1, nI_add, pk_mul, sbT, dvT, nmd, ixT, ↓ibT, ltT, ltF, leT, leF, eqT, eqF, nM_ltT, nM_ltF, nM_leT, nM_leF, nM_eqF, nM_eqF', nbT0, nbT1, oI_s, oI_n, natF, natT, nltT, nltF, nleT, nleF, ↓reduceIte, lgc, not_true_eq_false, not_false_eq_true, or_false, false_or, or_true, true_or, and_true, true_and, and_false, false_and, ne_eq, eq_self, or_self, and_self]; done) | ((with_reducible refine wpf ?_ ?_); · simp (disch := first | omega | decide) only [↓neg1, nlit, rI, rL, rI2, rL1, nI_add, pk_mul, sbT, dvT, nmd, ixT, ↓ibT, ltT, ltF, leT, leF, eqT, eqF, nM_ltT, nM_ltF, nM_leT, nM_leF, nM_eqF, nM_eqF', nbT0, nbT1, oI_s, oI_n, natF, natT, nltT, nltF, nleT, nleF, ↓reduceIte, lgc, not_true_eq_false, not_false_eq_true, or_false, false_or, or_true, true_or, and_true, true_and, and_false, false_and, ne_eq, eq_self, or_self, and_self]; done))
        exact ⟨g1, g4⟩
      · (try dsimp only); repeat (first | with_reducible refine wpl ?_ | with_reducible refine wpj ?_ | with_reducible refine wpSl ?_ | with_reducible refine wpSr ?_ | with_reducible refine wpS ?_ | ((with_reducible refine wpt ?_ ?_); · simp (disch := first | omega | decide) only [↓neg1, nlit, rI, rL, rI2, rL1, nI_add, pk_mul, sbT, dvT, nmd, ixT, ↓ibT, ltT, ltF, leT, leF, eqT, eqF, nM_ltT, nM_ltF, nM_leT, nM_leF, nM_eqF, nM_eqF', nbT0, nbT1, oI_s, oI_n, natF, natT, nltT, nltF, nleT, nleF, ↓reduceIte, lgc, not_true_eq_false, not_false_eq_true, or_false, false_or, or_true, true_or, and_true, true_and, and_false, false_and, ne_eq, eq_self, or_self, and_self, g3]; done) | ((with_reducible refine wpf ?_ ?_); · simp (disch := first | omega | decide) only [↓neg1, nlit, rI, rL, rI2, rL1, nI_add, pk_mul, sbT, dvT, nmd, ixT, ↓ibT, ltT, ltF, leT, leF, eqT, eqF, nM_ltT, nM_ltF, nM_leT, nM_leF, nM_eqF, nM_eqF', nbT0, nbT1, oI_s, oI_n, natF, natT, nltT, nltF, nleT, nleF, ↓reduceIte, lgc, not_true_eq_false, not_false_eq_true, or_false, false_or, or_true, true_or, and_true, true_and, and_false, false_and, ne_eq, eq_self, or_self, and_self, g3]; done))
        exact ⟨g1, g4⟩
    have hqc := isP_c hq
    obtain ⟨s1, s2, s3⟩ := EC_sz hEw hq
    have hown : own m q (kyN m t) ≤ mz m q := cntN_le _
    (try dsimp only); repeat (first | with_reducible refine wpl ?_ | with_reducible refine wpj ?_ | with_reducible refine wpSl ?_ | with_reducible refine wpSr ?_ | with_reducible refine wpS ?_ | ((with_reducible refine wpt ?_ ?_); · simp (disch := first | omega | decide) only [↓neg1, nlit, rI, rL, rI2, rL1, nI_add, pk_mul, sbT, dvT, nmd, ixT, ↓ibT, ltT, ltF, leT, leF, eqT, eqF, nM_ltT, nM_ltF, nM_leT, nM_leF, nM_eqF, nM_eqF', nbT0, nbT1, oI_s, oI_n, natF, natT, nltT, nltF, nleT, nleF, ↓reduceIte, lgc, not_true_eq_false, not_false_eq_true, or_false, false_or, or_true, true_or, and_true, true_and, and_false, false_and, ne_eq, eq_self, or_self, and_self, g3]; done) | ((with_reducible refine wpf ?_ ?_); · simp (disch := first | omega | decide) only [↓neg1, nlit, rI, rL, rI2, rL1, nI_add, pk_mul, sbT, dvT, nmd, ixT, ↓ibT, ltT, ltF, leT, leF, eqT, eqF, nM_ltT, nM_ltF, nM_leT, nM_leF, nM_eqF, nM_eqF', nbT0, nbT1, oI_s, oI_n, natF, natT, nltT, nltF, nleT, nleF, ↓reduceIte, lgc, not_true_eq_false, not_false_eq_true, or_false, false_or, or_true, true_or, and_true, true_and, and_false, false_and, ne_eq, eq_self, or_self, and_self, g3]; done))
    rw [g3]
    refine wpe (e181 hn hEw hq ht) ?_
    have hF' : ∃ F', F = F' + 1 := ⟨F - 1, by omega⟩
    obtain ⟨F, rfl⟩ := hF'
    unfold eff at g7
    by_cases h1 : 0 < own m q (kyN m t)
    · rw [if_pos h1] at g7
      rw [if_pos h1]
      (try dsimp only); repeat (first | with_reducible refine wpl ?_ | with_reducible refine wpj ?_ | with_reducible refine wpSl ?_ | with_reducible refine wpSr ?_ | with_reducible refine wpS ?_ | ((with_reducible refine wpt ?_ ?_); · simp (disch := first | omega | decide) only [↓neg1, nlit, rI, rL, rI2, rL1, nI_add, pk_mul, sbT, dvT, nmd, ixT, ↓ibT, ltT, ltF, leT, leF, eqT, eqF, nM_ltT, nM_ltF, nM_leT, nM_leF, nM_eqF, nM_eqF', nbT0, nbT1, oI_s, oI_n, natF, natT, nltT, nltF, nleT, nleF, ↓reduceIte, lgc, not_true_eq_false, not_false_eq_true, or_false, false_or, or_true, true_or, and_true, true_and, and_false, false_and, ne_eq, eq_self, or_self, and_self]; done) | ((with_reducible refine wpf ?_ ?_); · simp (disch := first | omega | decide) only [↓neg1, nlit, rI, rL, rI2, rL1, nI_add, pk_mul, sbT, dvT, nmd, ixT, ↓ibT, ltT, ltF, leT, leF, eqT, eqF, nM_ltT, nM_ltF, nM_leT, nM_leF, nM_eqF, nM_eqF', nbT0, nbT1, oI_s, oI_n, natF, natT, nltT, nltF, nleT, nleF, ↓reduceIte, lgc, not_true_eq_false, not_false_eq_true, or_false, false_or, or_true, true_or, and_true, true_and, and_false, false_and, ne_eq, eq_self, or_self, and_self]; done))
      refine ⟨g1, ?_, fun _ => ?_⟩
      · rw [g7]
        simp (disch := first | omega | decide) only [↓neg1, nlit, rI, rL, rI2, rL1, nI_add, pk_mul, sbT, dvT, nmd, ixT, ↓ibT, ltT, ltF, leT, leF, eqT, eqF, nM_ltT, nM_ltF, nM_leT, nM_leF, nM_eqF, nM_eqF', nbT0, nbT1, oI_s, oI_n, natF, natT, nltT, nltF, nleT, nleF, ↓reduceIte, lgc, not_true_eq_false, not_false_eq_true, or_false, false_or, or_true, true_or, and_true, true_and, and_false, false_and, ne_eq, eq_self, or_self, and_self, ↓reduceIte]
      · rw [g7]
        exact ⟨g3, g6, g8⟩
    rw [if_neg h1] at g7
    rw [if_neg h1]
    by_cases h2 : nos m q (kyN m t) = true
    · rw [if_pos h2] at g7
      rw [if_pos h2]
      (try dsimp only); repeat (first | with_reducible refine wpl ?_ | with_reducible refine wpj ?_ | with_reducible refine wpSl ?_ | with_reducible refine wpSr ?_ | with_reducible refine wpS ?_ | ((with_reducible refine wpt ?_ ?_); · simp (disch := first | omega | decide) only [↓neg1, nlit, rI, rL, rI2, rL1, nI_add, pk_mul, sbT, dvT, nmd, ixT, ↓ibT, ltT, ltF, leT, leF, eqT, eqF, nM_ltT, nM_ltF, nM_leT, nM_leF, nM_eqF, nM_eqF', nbT0, nbT1, oI_s, oI_n, natF, natT, nltT, nltF, nleT, nleF, ↓reduceIte, lgc, not_true_eq_false, not_false_eq_true, or_false, false_or, or_true, true_or, and_true, true_and, and_false, false_and, ne_eq, eq_self, or_self, and_self]; done) | ((with_reducible refine wpf ?_ ?_); · simp (disch := first | omega | decide) only [↓neg1, nlit, rI, rL, rI2, rL1, nI_add, pk_mul, sbT, dvT, nmd, ixT, ↓ibT, ltT, ltF, leT, leF, eqT, eqF, nM_ltT, nM_ltF, nM_leT, nM_leF, nM_eqF, nM_eqF', nbT0, nbT1, oI_s, oI_n, natF, natT, nltT, nltF, nleT, nleF, ↓reduceIte, lgc, not_true_eq_false, not_false_eq_true, or_false, false_or, or_true, true_or, and_true, true_and, and_false, false_and, ne_eq, eq_self, or_self, and_self]; done))
      refine ⟨g1, ?_, fun z => ?_⟩
      · rw [g7]
        simp (disch := first | omega | decide) only [↓neg1, nlit, rI, rL, rI2, rL1, nI_add, pk_mul, sbT, dvT, nmd, ixT, ↓ibT, ltT, ltF, leT, leF, eqT, eqF, nM_ltT, nM_ltF, nM_leT, nM_leF, nM_eqF, nM_eqF', nbT0, nbT1, oI_s, oI_n, natF, natT, nltT, nltF, nleT, nleF, ↓reduceIte, lgc, not_true_eq_false, not_false_eq_true, or_false, false_or, or_true, true_or, and_true, true_and, and_false, false_and, ne_eq, eq_self, or_self, and_self, ↓reduceIte]
      · rw [g7] at z
        exact absurd z (Nat.lt_irrefl 0)
    rw [if_neg h2] at g7
    rw [if_neg h2]
    (try dsimp only); repeat (first | with_reducible refine wpl ?_ | with_reducible refine wpj ?_ | with_reducible refine wpSl ?_ | with_reducible refine wpSr ?_ | with_reducible refine wpS ?_ | ((with_reducible refine wpt ?_ ?_); · simp (disch := first | omega | decide) only [↓neg1, nlit, rI, rL, rI2, rL1, nI_add, pk_mul, sbT, dvT, nmd, ixT, ↓ibT, ltT, ltF, leT, leF, eqT, eqF, nM_ltT, nM_ltF, nM_leT, nM_leF, nM_eqF, nM_eqF', nbT0, nbT1, oI_s, oI_n, natF, natT, nltT, nltF, nleT, nleF, ↓reduceIte, lgc, not_true_eq_false, not_false_eq_true, or_false, false_or, or_true, true_or, and_true, true_and, and_false, false_and, ne_eq, eq_self, or_self, and_self]; done) | ((with_reducible refine wpf ?_ ?_); · simp (disch := first | omega | decide) only [↓neg1, nlit, rI, rL, rI2, rL1, nI_add, pk_mul, sbT, dvT, nmd, ixT, ↓ibT, ltT, ltF, leT, leF, eqT, eqF, nM_ltT, nM_ltF, nM_leT, nM_leF, nM_eqF, nM_eqF', nbT0, nbT1, oI_s, oI_n, natF, natT, nltT, nltF, nleT, nleF, ↓reduceIte, lgc, not_true_eq_false, not_false_eq_true, or_false, false_or, or_true, true_or, and_true, true_and, and_false, false_and, ne_eq, eq_self, or_self, and_self]; done))
    refine wpe (e182 hn hEw hq ht) ?_
    rw [oX_CA hcw]
    cases hg : gAt m q (kyN m t) with
    | some y =>
      rw [hg] at g7
      have hy : xi c y < 4096 := by
        obtain ⟨i, hi, hgi⟩ := gAt_in hg
        exact gb_x hE hq hi hgi
      (try dsimp only); repeat (first | with_reducible refine wpl ?_ | with_reducible refine wpj ?_ | with_reducible refine wpSl ?_ | with_reducible refine wpSr ?_ | with_reducible refine wpS ?_ | ((with_reducible refine wpt ?_ ?_); · simp (disch := first | omega | decide) only [↓neg1, nlit, rI, rL, rI2, rL1, nI_add, pk_mul, sbT, dvT, nmd, ixT, ↓ibT, ltT, ltF, leT, leF, eqT, eqF, nM_ltT, nM_ltF, nM_leT, nM_leF, nM_eqF, nM_eqF', nbT0, nbT1, oI_s, oI_n, natF, natT, nltT, nltF, nleT, nleF, ↓reduceIte, lgc, not_true_eq_false, not_false_eq_true, or_false, false_or, or_true, true_or, and_true, true_and, and_false, false_and, ne_eq, eq_self, or_self, and_self, oX]; done) | ((with_reducible refine wpf ?_ ?_); · simp (disch := first | omega | decide) only [↓neg1, nlit, rI, rL, rI2, rL1, nI_add, pk_mul, sbT, dvT, nmd, ixT, ↓ibT, ltT, ltF, leT, leF, eqT, eqF, nM_ltT, nM_ltF, nM_leT, nM_leF, nM_eqF, nM_eqF', nbT0, nbT1, oI_s, oI_n, natF, natT, nltT, nltF, nleT, nleF, ↓reduceIte, lgc, not_true_eq_false, not_false_eq_true, or_false, false_or, or_true, true_or, and_true, true_and, and_false, false_and, ne_eq, eq_self, or_self, and_self, oX]; done))
      refine ⟨sx_pI g1 rfl, ?_, fun _ => ?_⟩
      · rw [g7]
      · rw [g7]
        refine ⟨?_, ?_, ?_⟩
        · simp (disch := first | omega | decide) only [↓neg1, nlit, rI, rL, rI2, rL1, nI_add, pk_mul, sbT, dvT, nmd, ixT, ↓ibT, ltT, ltF, leT, leF, eqT, eqF, nM_ltT, nM_ltF, nM_leT, nM_leF, nM_eqF, nM_eqF', nbT0, nbT1, oI_s, oI_n, natF, natT, nltT, nltF, nleT, nleF, ↓reduceIte, lgc, not_true_eq_false, not_false_eq_true, or_false, false_or, or_true, true_or, and_true, true_and, and_false, false_and, ne_eq, eq_self, or_self, and_self, g3]
        · simp (disch := first | omega | decide) only [↓neg1, nlit, rI, rL, rI2, rL1, nI_add, pk_mul, sbT, dvT, nmd, ixT, ↓ibT, ltT, ltF, leT, leF, eqT, eqF, nM_ltT, nM_ltF, nM_leT, nM_leF, nM_eqF, nM_eqF', nbT0, nbT1, oI_s, oI_n, natF, natT, nltT, nltF, nleT, nleF, ↓reduceIte, lgc, not_true_eq_false, not_false_eq_true, or_false, false_or, or_true, true_or, and_true, true_and, and_false, false_and, ne_eq, eq_self, or_self, and_self, g6]
        · simp (disch := first | omega | decide) only [↓neg1, nlit, rI, rL, rI2, rL1, nI_add, pk_mul, sbT, dvT, nmd, ixT, ↓ibT, ltT, ltF, leT, leF, eqT, eqF, nM_ltT, nM_ltF, nM_leT, nM_leF, nM_eqF, nM_eqF', nbT0, nbT1, oI_s, oI_n, natF, natT, nltT, nltF, nleT, nleF, ↓reduceIte, lgc, not_true_eq_false, not_false_eq_true, or_false, false_or, or_true, true_or, and_true, true_and, and_false, false_and, ne_eq, eq_self, or_self, and_self]
    | none =>
      rw [hg] at g7
      have g7 : e = if t < 100 ∧ m.1 196 t = nI 0 then (0, q, S, none) else match abv m q with | some q' => eff m t F q' (S + 1) | none => (0, q, S, none) := g7
      (try dsimp only); repeat (first | with_reducible refine wpl ?_ | with_reducible refine wpj ?_ | with_reducible refine wpSl ?_ | with_reducible refine wpSr ?_ | with_reducible refine wpS ?_ | ((with_reducible refine wpt ?_ ?_); · simp (disch := first | omega | decide) only [↓neg1, nlit, rI, rL, rI2, rL1, nI_add, pk_mul, sbT, dvT, nmd, ixT, ↓ibT, ltT, ltF, leT, leF, eqT, eqF, nM_ltT, nM_ltF, nM_leT, nM_leF, nM_eqF, nM_eqF', nbT0, nbT1, oI_s, oI_n, natF, natT, nltT, nltF, nleT, nleF, ↓reduceIte, lgc, not_true_eq_false, not_false_eq_true, or_false, false_or, or_true, true_or, and_true, true_and, and_false, false_and, ne_eq, eq_self, or_self, and_self, oX]; done) | ((with_reducible refine wpf ?_ ?_); · simp (disch := first | omega | decide) only [↓neg1, nlit, rI, rL, rI2, rL1, nI_add, pk_mul, sbT, dvT, nmd, ixT, ↓ibT, ltT, ltF, leT, leF, eqT, eqF, nM_ltT, nM_ltF, nM_leT, nM_leF, nM_eqF, nM_eqF', nbT0, nbT1, oI_s, oI_n, natF, natT, nltT, nltF, nleT, nleF, ↓reduceIte, lgc, not_true_eq_false, not_false_eq_true, or_false, false_or, or_true, true_or, and_true, true_and, and_false, false_and, ne_eq, eq_self, or_self, and_self, oX]; done))
      by_cases hno : t < 100 ∧ m.1 196 t = nI 0
      · rw [if_pos hno] at g7 hz
        subst hz
        (try dsimp only); repeat (first | with_reducible refine wpl ?_ | with_reducible refine wpj ?_ | with_reducible refine wpSl ?_ | with_reducible refine wpSr ?_ | with_reducible refine wpS ?_ | ((with_reducible refine wpt ?_ ?_); · simp (disch := first | omega | decide) only [↓neg1, nlit, rI, rL, rI2, rL1, nI_add, pk_mul, sbT, dvT, nmd, ixT, ↓ibT, ltT, ltF, leT, leF, eqT, eqF, nM_ltT, nM_ltF, nM_leT, nM_leF, nM_eqF, nM_eqF', nbT0, nbT1, oI_s, oI_n, natF, natT, nltT, nltF, nleT, nleF, ↓reduceIte, lgc, not_true_eq_false, not_false_eq_true, or_false, false_or, or_true, true_or, and_true, true_and, and_false, false_and, ne_eq, eq_self, or_self, and_self]; done) | ((with_reducible refine wpf ?_ ?_); · simp (disch := first | omega | decide) only [↓neg1, nlit, rI, rL, rI2, rL1, nI_add, pk_mul, sbT, dvT, nmd, ixT, ↓ibT, ltT, ltF, leT, leF, eqT, eqF, nM_ltT, nM_ltF, nM_leT, nM_leF, nM_eqF, nM_eqF', nbT0, nbT1, oI_s, oI_n, natF, natT, nltT, nltF, nleT, nleF, ↓reduceIte, lgc, not_true_eq_false, not_false_eq_true, or_false, false_or, or_true, true_or, and_true, true_and, and_false, false_and, ne_eq, eq_self, or_self, and_self]; done))
        refine ⟨0, by omega, sx_pI (sx_pI (sx_pI g1 rfl) rfl) rfl, Or.inl ⟨rfl, ?_, by rw [g7], S + 1, by omega, ?_⟩⟩
        · simp (disch := first | omega | decide) only [↓neg1, nlit, rI, rL, rI2, rL1, nI_add, pk_mul, sbT, dvT, nmd, ixT, ↓ibT, ltT, ltF, leT, leF, eqT, eqF, nM_ltT, nM_ltF, nM_leT, nM_leF, nM_eqF, nM_eqF', nbT0, nbT1, oI_s, oI_n, natF, natT, nltT, nltF, nleT, nleF, ↓reduceIte, lgc, not_true_eq_false, not_false_eq_true, or_false, false_or, or_true, true_or, and_true, true_and, and_false, false_and, ne_eq, eq_self, or_self, and_self]
        · exact nI_1 _
      · rw [if_neg hno] at g7 hz
        subst hz
        (try dsimp only); repeat (first | with_reducible refine wpl ?_ | with_reducible refine wpj ?_ | with_reducible refine wpSl ?_ | with_reducible refine wpSr ?_ | with_reducible refine wpS ?_ | ((with_reducible refine wpt ?_ ?_); · simp (disch := first | omega | decide) only [↓neg1, nlit, rI, rL, rI2, rL1, nI_add, pk_mul, sbT, dvT, nmd, ixT, ↓ibT, ltT, ltF, leT, leF, eqT, eqF, nM_ltT, nM_ltF, nM_leT, nM_leF, nM_eqF, nM_eqF', nbT0, nbT1, oI_s, oI_n, natF, natT, nltT, nltF, nleT, nleF, ↓reduceIte, lgc, not_true_eq_false, not_false_eq_true, or_false, false_or, or_true, true_or, and_true, true_and, and_false, false_and, ne_eq, eq_self, or_self, and_self]; done) | ((with_reducible refine wpf ?_ ?_); · simp (disch := first | omega | decide) only [↓neg1, nlit, rI, rL, rI2, rL1, nI_add, pk_mul, sbT, dvT, nmd, ixT, ↓ibT, ltT, ltF, leT, leF, eqT, eqF, nM_ltT, nM_ltF, nM_leT, nM_leF, nM_eqF, nM_eqF', nbT0, nbT1, oI_s, oI_n, natF, natT, nltT, nltF, nleT, nleF, ↓reduceIte, lgc, not_true_eq_false, not_false_eq_true, or_false, false_or, or_true, true_or, and_true, true_and, and_false, false_and, ne_eq, eq_self, or_self, and_self]; done))
        have hc14 : CA c (pI w 146 5 (oX c none)) := CA_sx (sx_pI g1 rfl) nC_qS
        rw [show (pI w 146 5 (oX c none)).1 146 3 = nI q by simp (disch := first | omega | decide) only [↓neg1, nlit, rI, rL, rI2, rL1, nI_add, pk_mul, sbT, dvT, nmd, ixT, ↓ibT, ltT, ltF, leT, leF, eqT, eqF, nM_ltT, nM_ltF, nM_leT, nM_leF, nM_eqF, nM_eqF', nbT0, nbT1, oI_s, oI_n, natF, natT, nltT, nltF, nleT, nleF, ↓reduceIte, lgc, not_true_eq_false, not_false_eq_true, or_false, false_or, or_true, true_or, and_true, true_and, and_false, false_and, ne_eq, eq_self, or_self, and_self, g3]]
        refine wpe (e184 hn (CCS_CA hc14 hC) hq) ?_
        cases hab : abv m q with
        | none =>
          rw [hab] at g7
          (try dsimp only); repeat (first | with_reducible refine wpl ?_ | with_reducible refine wpj ?_ | with_reducible refine wpSl ?_ | with_reducible refine wpSr ?_ | with_reducible refine wpS ?_ | ((with_reducible refine wpt ?_ ?_); · simp (disch := first | omega | decide) only [↓neg1, nlit, rI, rL, rI2, rL1, nI_add, pk_mul, sbT, dvT, nmd, ixT, ↓ibT, ltT, ltF, leT, leF, eqT, eqF, nM_ltT, nM_ltF, nM_leT, nM_leF, nM_eqF, nM_eqF', nbT0, nbT1, oI_s, oI_n, natF, natT, nltT, nltF, nleT, nleF, ↓reduceIte, lgc, not_true_eq_false, not_false_eq_true, or_false, false_or, or_true, true_or, and_true, true_and, and_false, false_and, ne_eq, eq_self, or_self, and_self]; done) | ((with_reducible refine wpf ?_ ?_); · simp (disch := first | omega | decide) only [↓neg1, nlit, rI, rL, rI2, rL1, nI_add, pk_mul, sbT, dvT, nmd, ixT, ↓ibT, ltT, ltF, leT, leF, eqT, eqF, nM_ltT, nM_ltF, nM_leT, nM_leF, nM_eqF, nM_eqF', nbT0, nbT1, oI_s, oI_n, natF, natT, nltT, nltF, nleT, nleF, ↓reduceIte, lgc, not_true_eq_false, not_false_eq_true, or_false, false_or, or_true, true_or, and_true, true_and, and_false, false_and, ne_eq, eq_self, or_self, and_self]; done))
          refine ⟨0, by omega, sx_pI (sx_pI (sx_pI g1 rfl) rfl) rfl, Or.inl ⟨rfl, ?_, by rw [g7], S + 1, by omega, ?_⟩⟩
          · simp (disch := first | omega | decide) only [↓neg1, nlit, rI, rL, rI2, rL1, nI_add, pk_mul, sbT, dvT, nmd, ixT, ↓ibT, ltT, ltF, leT, leF, eqT, eqF, nM_ltT, nM_ltF, nM_leT, nM_leF, nM_eqF, nM_eqF', nbT0, nbT1, oI_s, oI_n, natF, natT, nltT, nltF, nleT, nleF, ↓reduceIte, lgc, not_true_eq_false, not_false_eq_true, or_false, false_or, or_true, true_or, and_true, true_and, and_false, false_and, ne_eq, eq_self, or_self, and_self]
            all_goals rfl
          · exact nI_1 _
        | some q' =>
          rw [hab] at g7
          obtain ⟨hq', hlt⟩ := abv_P hC hq hab
          (try dsimp only); repeat (first | with_reducible refine wpl ?_ | with_reducible refine wpj ?_ | with_reducible refine wpSl ?_ | with_reducible refine wpSr ?_ | with_reducible refine wpS ?_ | ((with_reducible refine wpt ?_ ?_); · simp (disch := first | omega | decide) only [↓neg1, nlit, rI, rL, rI2, rL1, nI_add, pk_mul, sbT, dvT, nmd, ixT, ↓ibT, ltT, ltF, leT, leF, eqT, eqF, nM_ltT, nM_ltF, nM_leT, nM_leF, nM_eqF, nM_eqF', nbT0, nbT1, oI_s, oI_n, natF, natT, nltT, nltF, nleT, nleF, ↓reduceIte, lgc, not_true_eq_false, not_false_eq_true, or_false, false_or, or_true, true_or, and_true, true_and, and_false, false_and, ne_eq, eq_self, or_self, and_self]; done) | ((with_reducible refine wpf ?_ ?_); · simp (disch := first | omega | decide) only [↓neg1, nlit, rI, rL, rI2, rL1, nI_add, pk_mul, sbT, dvT, nmd, ixT, ↓ibT, ltT, ltF, leT, leF, eqT, eqF, nM_ltT, nM_ltF, nM_leT, nM_leF, nM_eqF, nM_eqF', nbT0, nbT1, oI_s, oI_n, natF, natT, nltT, nltF, nleT, nleF, ↓reduceIte, lgc, not_true_eq_false, not_false_eq_true, or_false, false_or, or_true, true_or, and_true, true_and, and_false, false_and, ne_eq, eq_self, or_self, and_self]; done))
          refine ⟨q' / 100 + 1, by omega, sx_pI (sx_pI (sx_pI g1 rfl) rfl) rfl, Or.inr ⟨q', S + 1, F, rfl, ?_, hq', by omega, by omega, ?_, ?_, ?_, g7⟩⟩
          · simp (disch := first | omega | decide) only [↓neg1, nlit, rI, rL, rI2, rL1, nI_add, pk_mul, sbT, dvT, nmd, ixT, ↓ibT, ltT, ltF, leT, leF, eqT, eqF, nM_ltT, nM_ltF, nM_leT, nM_leF, nM_eqF, nM_eqF', nbT0, nbT1, oI_s, oI_n, natF, natT, nltT, nltF, nleT, nleF, ↓reduceIte, lgc, not_true_eq_false, not_false_eq_true, or_false, false_or, or_true, true_or, and_true, true_and, and_false, false_and, ne_eq, eq_self, or_self, and_self]
            all_goals rfl
          · exact nI_1 _
          · simp (disch := first | omega | decide) only [↓neg1, nlit, rI, rL, rI2, rL1, nI_add, pk_mul, sbT, dvT, nmd, ixT, ↓ibT, ltT, ltF, leT, leF, eqT, eqF, nM_ltT, nM_ltF, nM_leT, nM_leF, nM_eqF, nM_eqF', nbT0, nbT1, oI_s, oI_n, natF, natT, nltT, nltF, nleT, nleF, ↓reduceIte, lgc, not_true_eq_false, not_false_eq_true, or_false, false_or, or_true, true_or, and_true, true_and, and_false, false_and, ne_eq, eq_self, or_self, and_self, g6]
          · simp (disch := first | omega | decide) only [↓neg1, nlit, rI, rL, rI2, rL1, nI_add, pk_mul, sbT, dvT, nmd, ixT, ↓ibT, ltT, ltF, leT, leF, eqT, eqF, nM_ltT, nM_ltF, nM_leT, nM_leF, nM_eqF, nM_eqF', nbT0, nbT1, oI_s, oI_n, natF, natT, nltT, nltF, nleT, nleF, ↓reduceIte, lgc, not_true_eq_false, not_false_eq_true, or_false, false_or, or_true, true_or, and_true, true_and, and_false, false_and, ne_eq, eq_self, or_self, and_self]
            all_goals rfl
  by_cases h3 : t < 100
  · have ht' : t < kcn m := by
      rcases ht with h | h
      · exact h
      · omega
    obtain ⟨-, -, -, -, -, -, -, -, n9, n10, -⟩ := k4 t ht'
    rcases n9 with h4 | h4
    · have h4 : m.1 196 t = nI 0 := h4
      (try dsimp only); repeat (first | with_reducible refine wpl ?_ | with_reducible refine wpj ?_ | with_reducible refine wpSl ?_ | with_reducible refine wpSr ?_ | with_reducible refine wpS ?_ | ((with_reducible refine wpt ?_ ?_); · simp (disch := first | omega | decide) only [↓neg1, nlit, rI, rL, rI2, rL1, nI_add, pk_mul, sbT, dvT, nmd, ixT, ↓ibT, ltT, ltF, leT, leF, eqT, eqF, nM_ltT, nM_ltF, nM_leT, nM_leF, nM_eqF, nM_eqF', nbT0, nbT1, oI_s, oI_n, natF, natT, nltT, nltF, nleT, nleF, ↓reduceIte, lgc, not_true_eq_false, not_false_eq_true, or_false, false_or, or_true, true_or, and_true, true_and, and_false, false_and, ne_eq, eq_self, or_self, and_self, n10, h4]; done) | ((with_reducible refine wpf ?_ ?_); · simp (disch := first | omega | decide) only [↓neg1, nlit, rI, rL, rI2, rL1, nI_add, pk_mul, sbT, dvT, nmd, ixT, ↓ibT, ltT, ltF, leT, leF, eqT, eqF, nM_ltT, nM_ltF, nM_leT, nM_leF, nM_eqF, nM_eqF', nbT0, nbT1, oI_s, oI_n, natF, natT, nltT, nltF, nleT, nleF, ↓reduceIte, lgc, not_true_eq_false, not_false_eq_true, or_false, false_or, or_true, true_or, and_true, true_and, and_false, false_and, ne_eq, eq_self, or_self, and_self, n10, h4]; done))
      refine hgo _ _ (sx_pI (sx_pI (sx_pI sx_rfl rfl) rfl) rfl) ?_ ?_ ?_ (by rw [if_pos ⟨h3, h4⟩]; rfl)
      · simp (disch := first | omega | decide) only [↓neg1, nlit, rI, rL, rI2, rL1, nI_add, pk_mul, sbT, dvT, nmd, ixT, ↓ibT, ltT, ltF, leT, leF, eqT, eqF, nM_ltT, nM_ltF, nM_leT, nM_leF, nM_eqF, nM_eqF', nbT0, nbT1, oI_s, oI_n, natF, natT, nltT, nltF, nleT, nleF, ↓reduceIte, lgc, not_true_eq_false, not_false_eq_true, or_false, false_or, or_true, true_or, and_true, true_and, and_false, false_and, ne_eq, eq_self, or_self, and_self]
      · simp (disch := first | omega | decide) only [↓neg1, nlit, rI, rL, rI2, rL1, nI_add, pk_mul, sbT, dvT, nmd, ixT, ↓ibT, ltT, ltF, leT, leF, eqT, eqF, nM_ltT, nM_ltF, nM_leT, nM_leF, nM_eqF, nM_eqF', nbT0, nbT1, oI_s, oI_n, natF, natT, nltT, nltF, nleT, nleF, ↓reduceIte, lgc, not_true_eq_false, not_false_eq_true, or_false, false_or, or_true, true_or, and_true, true_and, and_false, false_and, ne_eq, eq_self, or_self, and_self]
      · simp (disch := first | omega | decide) only [↓neg1, nlit, rI, rL, rI2, rL1, nI_add, pk_mul, sbT, dvT, nmd, ixT, ↓ibT, ltT, ltF, leT, leF, eqT, eqF, nM_ltT, nM_ltF, nM_leT, nM_leF, nM_eqF, nM_eqF', nbT0, nbT1, oI_s, oI_n, natF, natT, nltT, nltF, nleT, nleF, ↓reduceIte, lgc, not_true_eq_false, not_false_eq_true, or_false, false_or, or_true, true_or, and_true, true_and, and_false, false_and, ne_eq, eq_self, or_self, and_self]
    · have h4 : m.1 196 t = nI 1 := h4
      (try dsimp only); repeat (first | with_reducible refine wpl ?_ | with_reducible refine wpj ?_ | with_reducible refine wpSl ?_ | with_reducible refine wpSr ?_ | with_reducible refine wpS ?_ | ((with_reducible refine wpt ?_ ?_); · simp (disch := first | omega | decide) only [↓neg1, nlit, rI, rL, rI2, rL1, nI_add, pk_mul, sbT, dvT, nmd, ixT, ↓ibT, ltT, ltF, leT, leF, eqT, eqF, nM_ltT, nM_ltF, nM_leT, nM_leF, nM_eqF, nM_eqF', nbT0, nbT1, oI_s, oI_n, natF, natT, nltT, nltF, nleT, nleF, ↓reduceIte, lgc, not_true_eq_false, not_false_eq_true, or_false, false_or, or_true, true_or, and_true, true_and, and_false, false_and, ne_eq, eq_self, or_self, and_self, n10, h4]; done) | ((with_reducible refine wpf ?_ ?_); · simp (disch := first | omega | decide) only [↓neg1, nlit, rI, rL, rI2, rL1, nI_add, pk_mul, sbT, dvT, nmd, ixT, ↓ibT, ltT, ltF, leT, leF, eqT, eqF, nM_ltT, nM_ltF, nM_leT, nM_leF, nM_eqF, nM_eqF', nbT0, nbT1, oI_s, oI_n, natF, natT, nltT, nltF, nleT, nleF, ↓reduceIte, lgc, not_true_eq_false, not_false_eq_true, or_false, false_or, or_true, true_or, and_true, true_and, and_false, false_and, ne_eq, eq_self, or_self, and_self, n10, h4]; done))
      refine hgo _ _ (sx_pI (sx_pI (sx_pI sx_rfl rfl) rfl) rfl) ?_ ?_ ?_ (by rw [if_neg (fun z => by rw [h4] at z; exact absurd z.2 (by decide))]; rfl)
      · simp (disch := first | omega | decide) only [↓neg1, nlit, rI, rL, rI2, rL1, nI_add, pk_mul, sbT, dvT, nmd, ixT, ↓ibT, ltT, ltF, leT, leF, eqT, eqF, nM_ltT, nM_ltF, nM_leT, nM_leF, nM_eqF, nM_eqF', nbT0, nbT1, oI_s, oI_n, natF, natT, nltT, nltF, nleT, nleF, ↓reduceIte, lgc, not_true_eq_false, not_false_eq_true, or_false, false_or, or_true, true_or, and_true, true_and, and_false, false_and, ne_eq, eq_self, or_self, and_self]
      · simp (disch := first | omega | decide) only [↓neg1, nlit, rI, rL, rI2, rL1, nI_add, pk_mul, sbT, dvT, nmd, ixT, ↓ibT, ltT, ltF, leT, leF, eqT, eqF, nM_ltT, nM_ltF, nM_leT, nM_leF, nM_eqF, nM_eqF', nbT0, nbT1, oI_s, oI_n, natF, natT, nltT, nltF, nleT, nleF, ↓reduceIte, lgc, not_true_eq_false, not_false_eq_true, or_false, false_or, or_true, true_or, and_true, true_and, and_false, false_and, ne_eq, eq_self, or_self, and_self]
      · simp (disch := first | omega | decide) only [↓neg1, nlit, rI, rL, rI2, rL1, nI_add, pk_mul, sbT, dvT, nmd, ixT, ↓ibT, ltT, ltF, leT, leF, eqT, eqF, nM_ltT, nM_ltF, nM_leT, nM_leF, nM_eqF, nM_eqF', nbT0, nbT1, oI_s, oI_n, natF, natT, nltT, nltF, nleT, nleF, ↓reduceIte, lgc, not_true_eq_false, not_false_eq_true, or_false, false_or, or_true, true_or, and_true, true_and, and_false, false_and, ne_eq, eq_self, or_self, and_self]
  · (try dsimp only); repeat (first | with_reducible refine wpl ?_ | with_reducible refine wpj ?_ | with_reducible refine wpSl ?_ | with_reducible refine wpSr ?_ | with_reducible refine wpS ?_ | ((with_reducible refine wpt ?_ ?_); · simp (disch := first | omega | decide) only [↓neg1, nlit, rI, rL, rI2, rL1, nI_add, pk_mul, sbT, dvT, nmd, ixT, ↓ibT, ltT, ltF, leT, leF, eqT, eqF, nM_ltT, nM_ltF, nM_leT, nM_leF, nM_eqF, nM_eqF', nbT0, nbT1, oI_s, oI_n, natF, natT, nltT, nltF, nleT, nleF, ↓reduceIte, lgc, not_true_eq_false, not_false_eq_true, or_false, false_or, or_true, true_or, and_true, true_and, and_false, false_and, ne_eq, eq_self, or_self, and_self]; done) | ((with_reducible refine wpf ?_ ?_); · simp (disch := first | omega | decide) only [↓neg1, nlit, rI, rL, rI2, rL1, nI_add, pk_mul, sbT, dvT, nmd, ixT, ↓ibT, ltT, ltF, leT, leF, eqT, eqF, nM_ltT, nM_ltF, nM_leT, nM_leF, nM_eqF, nM_eqF', nbT0, nbT1, oI_s, oI_n, natF, natT, nltT, nltF, nleT, nleF, ↓reduceIte, lgc, not_true_eq_false, not_false_eq_true, or_false, false_or, or_true, true_or, and_true, true_and, and_false, false_and, ne_eq, eq_self, or_self, and_self]; done))
    refine hgo _ _ (sx_pI (sx_pI (sx_pI sx_rfl rfl) rfl) rfl) ?_ ?_ ?_ (by rw [if_neg (fun z => h3 z.1)]; rfl)
    · simp (disch := first | omega | decide) only [↓neg1, nlit, rI, rL, rI2, rL1, nI_add, pk_mul, sbT, dvT, nmd, ixT, ↓ibT, ltT, ltF, leT, leF, eqT, eqF, nM_ltT, nM_ltF, nM_leT, nM_leF, nM_eqF, nM_eqF', nbT0, nbT1, oI_s, oI_n, natF, natT, nltT, nltF, nleT, nleF, ↓reduceIte, lgc, not_true_eq_false, not_false_eq_true, or_false, false_or, or_true, true_or, and_true, true_and, and_false, false_and, ne_eq, eq_self, or_self, and_self]
    · simp (disch := first | omega | decide) only [↓neg1, nlit, rI, rL, rI2, rL1, nI_add, pk_mul, sbT, dvT, nmd, ixT, ↓ibT, ltT, ltF, leT, leF, eqT, eqF, nM_ltT, nM_ltF, nM_leT, nM_leF, nM_eqF, nM_eqF', nbT0, nbT1, oI_s, oI_n, natF, natT, nltT, nltF, nleT, nleF, ↓reduceIte, lgc, not_true_eq_false, not_false_eq_true, or_false, false_or, or_true, true_or, and_true, true_and, and_false, false_and, ne_eq, eq_self, or_self, and_self]
    · simp (disch := first | omega | decide) only [↓neg1, nlit, rI, rL, rI2, rL1, nI_add, pk_mul, sbT, dvT, nmd, ixT, ↓ibT, ltT, ltF, leT, leF, eqT, eqF, nM_ltT, nM_ltF, nM_leT, nM_leF, nM_eqF, nM_eqF', nbT0, nbT1, oI_s, oI_n, natF, natT, nltT, nltF, nleT, nleF, ↓reduceIte, lgc, not_true_eq_false, not_false_eq_true, or_false, false_or, or_true, true_or, and_true, true_and, and_false, false_and, ne_eq, eq_self, or_self, and_self]
