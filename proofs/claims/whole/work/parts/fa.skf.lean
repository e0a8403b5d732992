/-! NAMES: FIELDS, upwards; CLASSES as they are read -/
section SKF
variable {n i N k U tot oc kc mc cc : Nat} {c d u v m : cS} {K P : Nat → Nat} {V : Nat → Int64} {x : Int64}
theorem CLV_C (h : CLV K P V N c u oc kc mc cc U tot i) (h1 : 1 ≤ cc) : CCS c u := by
  have ecc := ccn_of h
  obtain ⟨-, -, ⟨-, -, -, g6, g7, g8⟩, -, -, g13, -⟩ := h
  unfold CCS PC
  rw [ecc]
  refine ⟨⟨g6, g7, g8, fun k hk => ?_, fun k hk => ?_, fun k j hk hj => ?_⟩, h1, fun k hk => ?_, fun k j hk hj => ?_, fun k j hk hj => ?_⟩
  · obtain ⟨a1, a2, a3, -⟩ := (g13 k hk).2.1
    exact ⟨a1, a2, a3⟩
  · obtain ⟨a1, a2, a3, -⟩ := (g13 k hk).2.2
    exact ⟨a1, a2, a3⟩
  · obtain ⟨t, L, na, a0, -, x2⟩ := (g13 k hk).2.2.2.2.2 j hj
    obtain ⟨-, ⟨t1, t2, t3⟩, -⟩ := x2
    have : pM u (8 * k + j) = t := by
      unfold pM
      rw [t3, ix_n (by omega)]
    rw [this]
    exact ⟨t1, t2, t3⟩
  · obtain ⟨a1, a2, a3, a4⟩ := (g13 k hk).1
    exact ⟨a1, a3, a4⟩
  · obtain ⟨-, -, -, a4, -⟩ := (g13 k hk).2.1
    exact ⟨(a4 j hj).1, (a4 j hj).2.1⟩
  · obtain ⟨t, L, na, a0, -, x2⟩ := (g13 k hk).2.2.2.2.2 j hj
    rw [Nat.mul_comm k 8]
    exact x2.1
theorem e253 (hn : 1000 ≤ n) (hC : CCS c m) (hk : k < ccn m) : d_253 n (nI k) x c = some (match ff (fun j => decide (m.2 204 (8 * k + j) = x)) (fM m k) with | some j => nI j | none => nM) := by
  have h12 := (CCS_p hC).1
  obtain ⟨q1, q2, q3⟩ := hC.1.2.2.2.1 k hk
  have hnm := hC.2.2.2.1 k
  unfold d_253
  refine bwf (fun k => nI k) (Sum.inl ()) (fun k => Sum.inr (nI k)) (fun j => decide (m.2 204 (8 * k + j) = x)) (cnt := fM m k) (by omega) rfl ?_ (fun j hj => ?_) ?_
  · simp (disch := first | omega | decide) only [↓neg1, nlit, rI, rL, rI2, rL1, nI_add, pk_mul, sbT, dvT, nmd, ixT, ↓ibT, ltT, ltF, leT, leF, eqT, eqF, nM_ltT, nM_ltF, nM_leT, nM_leF, nM_eqF, nM_eqF', nbT0, nbT1, oI_s, oI_n, natF, natT, nltT, nltF, nleT, nleF, ↓reduceIte, lgc, not_true_eq_false, not_false_eq_true, or_false, false_or, or_true, true_or, and_true, true_and, and_false, false_and, ne_eq, eq_self, or_self, and_self, obs, ↓jn, ↓lt, ↓reduceIte, decide_true, decide_false, Bool.false_eq_true, Bool.and_true, Bool.and_false, Bool.true_and, Bool.false_and, Bool.or_false, Bool.false_or, Bool.or_true, Bool.true_or, q2]
  · have hj' := (hnm j hk hj).1
    by_cases hv : m.2 204 (8 * k + j) = x
    · simp (disch := first | omega | decide) only [↓neg1, nlit, rI, rL, rI2, rL1, nI_add, pk_mul, sbT, dvT, nmd, ixT, ↓ibT, ltT, ltF, leT, leF, eqT, eqF, nM_ltT, nM_ltF, nM_leT, nM_leF, nM_eqF, nM_eqF', nbT0, nbT1, oI_s, oI_n, natF, natT, nltT, nltF, nleT, nleF, ↓reduceIte, lgc, not_true_eq_false, not_false_eq_true, or_false, false_or, or_true, true_or, and_true, true_and, and_false, false_and, ne_eq, eq_self, or_self, and_self, obs, ↓jn, ↓lt, ↓reduceIte, decide_true, decide_false, Bool.false_eq_true, Bool.and_true, Bool.and_false, Bool.true_and, Bool.false_and, Bool.or_false, Bool.false_or, Bool.or_true, Bool.true_or, q2, hj', hv]
    · simp (disch := first | omega | decide) only [↓neg1, nlit, rI, rL, rI2, rL1, nI_add, pk_mul, sbT, dvT, nmd, ixT, ↓ibT, ltT, ltF, leT, leF, eqT, eqF, nM_ltT, nM_ltF, nM_leT, nM_leF, nM_eqF, nM_eqF', nbT0, nbT1, oI_s, oI_n, natF, natT, nltT, nltF, nleT, nleF, ↓reduceIte, lgc, not_true_eq_false, not_false_eq_true, or_false, false_or, or_true, true_or, and_true, true_and, and_false, false_and, ne_eq, eq_self, or_self, and_self, obs, ↓jn, ↓lt, ↓reduceIte, decide_true, decide_false, Bool.false_eq_true, Bool.and_true, Bool.and_false, Bool.true_and, Bool.false_and, Bool.or_false, Bool.false_or, Bool.or_true, Bool.true_or, q2, hj', hv]
  · cases hf : ff (fun j => decide (m.2 204 (8 * k + j) = x)) (fM m k) <;> rfl
theorem nrF_ok {t : Nat} (h12 : ccn m ≤ 12) (hp : PRS m (ccn m)) : ∀ {t k q}, k < ccn m → nrF m x t k = some q → q.1 < ccn m ∧ q.2 < fM m q.1 ∧ m.2 204 (8 * q.1 + q.2) = x := by
  intro t
  induction t with
  | zero =>
    intro k q hk h
    unfold nrF upO at h
    cases h
  | succ t ih =>
    intro k q hk h
    unfold nrF upO at h
    cases hf : ff (fun j => decide (m.2 204 (8 * k + j) = x)) (fM m k) with
    | some j =>
      rw [hf] at h
      cases h
      exact ⟨hk, (ff_some hf).1, of_decide_eq_true (ff_some hf).2.1⟩
    | none =>
      rw [hf] at h
      change (par m k).bind _ = some q at h
      cases hd : par m k with
      | none =>
        rw [hd] at h
        cases h
      | some d =>
        rw [hd] at h
        refine ih (k := d) ?_ h
        unfold par at hd
        rcases hp k hk with e | ⟨d', hd', e⟩
        · rw [e, if_pos (by decide)] at hd
          cases hd
        · rw [e, if_neg (nI_pos (by omega)), ix_n (by omega)] at hd
          cases hd
          omega
theorem e254 (hn : 1000 ≤ n) (hC : CCS c m) (hk : k < ccn m) : d_254 n (nI k) x c = some (match nrF m x 12 k with | some q => nI (100 * q.1 + 1 + q.2) | none => nM) := by
  obtain ⟨h12, hp⟩ := CCS_p hC
  have e253' := fun k (hk : k < ccn m) => e253 (n := n) (x := x) hn hC hk
  unfold d_254
  have hb := fun (f : Int32 × Int32 → Option ((Int32 × Int32) ⊕ (Unit ⊕ (Int32 × Int32)))) h1 h2 => whl_up (m := m) (f := f) (g := fun k => ((ff (fun j => decide (m.2 204 (8 * k + j) = x)) (fM m k)).map (fun j => (k, j))).map (fun q => Sum.inr (nI q.1, nI q.2))) (E := Sum.inl ()) (fun t s => (s, nI t)) h12 hp h1 h2 12 k 0 n hk (by omega) (by omega) (by omega)
  refine (congrArg (fun z => Option.bind z _) (hb _ ?_ ?_)).trans ?_
  · intro t ht
    by_cases h : 12 ≤ t
    · simp (disch := first | omega | decide) only [↓neg1, nlit, rI, rL, rI2, rL1, nI_add, pk_mul, sbT, dvT, nmd, ixT, ↓ibT, ltT, ltF, leT, leF, eqT, eqF, nM_ltT, nM_ltF, nM_leT, nM_leF, nM_eqF, nM_eqF', nbT0, nbT1, oI_s, oI_n, natF, natT, nltT, nltF, nleT, nleF, ↓reduceIte, lgc, not_true_eq_false, not_false_eq_true, or_false, false_or, or_true, true_or, and_true, true_and, and_false, false_and, ne_eq, eq_self, or_self, and_self, obs, ↓jn, ↓lt, ↓reduceIte, decide_true, decide_false, Bool.false_eq_true, Bool.and_true, Bool.and_false, Bool.true_and, Bool.false_and, Bool.or_false, Bool.false_or, Bool.or_true, Bool.true_or]
    · simp (disch := first | omega | decide) only [↓neg1, nlit, rI, rL, rI2, rL1, nI_add, pk_mul, sbT, dvT, nmd, ixT, ↓ibT, ltT, ltF, leT, leF, eqT, eqF, nM_ltT, nM_ltF, nM_leT, nM_leF, nM_eqF, nM_eqF', nbT0, nbT1, oI_s, oI_n, natF, natT, nltT, nltF, nleT, nleF, ↓reduceIte, lgc, not_true_eq_false, not_false_eq_true, or_false, false_or, or_true, true_or, and_true, true_and, and_false, false_and, ne_eq, eq_self, or_self, and_self, obs, ↓jn, ↓lt, ↓reduceIte, decide_true, decide_false, Bool.false_eq_true, Bool.and_true, Bool.and_false, Bool.true_and, Bool.false_and, Bool.or_false, Bool.false_or, Bool.or_true, Bool.true_or]
  · intro t j ht hj
    have hpar := (hC.2.2.1 j hj).2.1
    cases hf : ff (fun i => decide (m.2 204 (8 * j + i) = x)) (fM m j) with
    | none => simp (disch := first | omega | decide) only [↓neg1, nlit, rI, rL, rI2, rL1, nI_add, pk_mul, sbT, dvT, nmd, ixT, ↓ibT, ltT, ltF, leT, leF, eqT, eqF, nM_ltT, nM_ltF, nM_leT, nM_leF, nM_eqF, nM_eqF', nbT0, nbT1, oI_s, oI_n, natF, natT, nltT, nltF, nleT, nleF, ↓reduceIte, lgc, not_true_eq_false, not_false_eq_true, or_false, false_or, or_true, true_or, and_true, true_and, and_false, false_and, ne_eq, eq_self, or_self, and_self, obs, ↓jn, ↓lt, ↓reduceIte, decide_true, decide_false, Bool.false_eq_true, Bool.and_true, Bool.and_false, Bool.true_and, Bool.false_and, Bool.or_false, Bool.false_or, Bool.or_true, Bool.true_or, e253' j hj, hf, hpar, Option.map_none]
    | some i =>
      have := (ff_some hf).1
      have := (hC.1.2.2.2.1 j hj).1
      simp (disch := first | omega | decide) only [↓neg1, nlit, rI, rL, rI2, rL1, nI_add, pk_mul, sbT, dvT, nmd, ixT, ↓ibT, ltT, ltF, leT, leF, eqT, eqF, nM_ltT, nM_ltF, nM_leT, nM_leF, nM_eqF, nM_eqF', nbT0, nbT1, oI_s, oI_n, natF, natT, nltT, nltF, nleT, nleF, ↓reduceIte, lgc, not_true_eq_false, not_false_eq_true, or_false, false_or, or_true, true_or, and_true, true_and, and_false, false_and, ne_eq, eq_self, or_self, and_self, obs, ↓jn, ↓lt, ↓reduceIte, decide_true, decide_false, Bool.false_eq_true, Bool.and_true, Bool.and_false, Bool.true_and, Bool.false_and, Bool.or_false, Bool.false_or, Bool.or_true, Bool.true_or, e253' j hj, hf, Option.map_some]
  · rw [upO_map]
    show Option.bind (some (((nrF m x 12 k).map _).elim _ _)) _ = _
    cases hr : nrF m x 12 k with
    | none => rfl
    | some q =>
      show some (100 * nI q.1 + 1 + nI q.2) = some (nI (100 * q.1 + 1 + q.2))
      rw [show (100 : Int32) = nI 100 from rfl, show (1 : Int32) = nI 1 from rfl, pk_mul, nI_add, nI_add]
theorem e413 (hn : 1000 ≤ n) (hA : AG m u) (hC : CCS c m) (hk : k < ccn m) : d_413 n (nI k) x u = some (match nrF m x 12 k with | some q => nI (100 * q.1 + q.2) | none => nM) := by
  obtain ⟨h12, hp⟩ := CCS_p hC
  have hq := hC.1.2.2.2.1
  have hloop : ∀ j, j < ccn m → ∀ {R : Type} {f : Int32 → Option (Int32 ⊕ R)} {G : R → Option (Int32 ⊕ (Unit ⊕ (Int32 × Int32)))} {e : R} {g : Nat → R} {r : Option (Int32 ⊕ (Unit ⊕ (Int32 × Int32)))}, (f (nI (fM m j)) = some (.inr e)) → (∀ i, i < fM m j → f (nI i) = some (if decide (m.2 204 (8 * j + i) = x) = true then .inr (g i) else .inl (nI (i + 1)))) → (∀ o, o = ff (fun i => decide (m.2 204 (8 * j + i) = x)) (fM m j) → G (o.elim e g) = r) → Option.bind (whl f n (nI 0)) G = r := by
    intro j hj R f G e g r h1 h2 h3
    have := (hq j hj).1
    exact bwf (fun k => nI k) e g _ (cnt := fM m j) (by omega) rfl h1 h2 (h3 _ rfl)
  unfold d_413
  have hb := fun (f : Int32 → Option (Int32 ⊕ (Unit ⊕ (Int32 × Int32)))) h1 h2 => whl_up (m := m) (f := f) (g := fun k => ((ff (fun j => decide (m.2 204 (8 * k + j) = x)) (fM m k)).map (fun j => (k, j))).map (fun q => Sum.inr (nI q.1, nI q.2))) (E := Sum.inl ()) (fun _ s => s) h12 hp h1 h2 12 k 0 n hk (by omega) (by omega) (by omega)
  rw [hb _ ?_ ?_]
  · rw [upO_map]
    show Option.bind (some (((nrF m x 12 k).map _).elim _ _)) _ = _
    cases hr : nrF m x 12 k with
    | none => rfl
    | some q =>
      show some (100 * nI q.1 + nI q.2) = some (nI (100 * q.1 + q.2))
      rw [show (100 : Int32) = nI 100 from rfl, pk_mul, nI_add]
  · intro t _
    rfl
  · intro t j _ hj
    obtain ⟨q1, -, q3⟩ := hq j hj
    simp (disch := first | omega | decide) only [↓neg1, nlit, rI, rL, rI2, rL1, nI_add, pk_mul, sbT, dvT, nmd, ixT, ↓ibT, ltT, ltF, leT, leF, eqT, eqF, nM_ltT, nM_ltF, nM_leT, nM_leF, nM_eqF, nM_eqF', nbT0, nbT1, oI_s, oI_n, natF, natT, nltT, nltF, nleT, nleF, ↓reduceIte, lgc, not_true_eq_false, not_false_eq_true, or_false, false_or, or_true, true_or, and_true, true_and, and_false, false_and, ne_eq, eq_self, or_self, and_self, obs, ↓jn, ↓lt, ↓reduceIte, decide_true, decide_false, Bool.false_eq_true, Bool.and_true, Bool.and_false, Bool.true_and, Bool.false_and, Bool.or_false, Bool.false_or, Bool.or_true, Bool.true_or]
    refine hloop j hj (e := Sum.inl ()) (g := fun i => Sum.inr (nI i)) ?_ (fun i hi => ?_) (fun o ho => ?_)
    · simp (disch := first | omega | decide) only [↓neg1, nlit, rI, rL, rI2, rL1, nI_add, pk_mul, sbT, dvT, nmd, ixT, ↓ibT, ltT, ltF, leT, leF, eqT, eqF, nM_ltT, nM_ltF, nM_leT, nM_leF, nM_eqF, nM_eqF', nbT0, nbT1, oI_s, oI_n, natF, natT, nltT, nltF, nleT, nleF, ↓reduceIte, lgc, not_true_eq_false, not_false_eq_true, or_false, false_or, or_true, true_or, and_true, true_and, and_false, false_and, ne_eq, eq_self, or_self, and_self, obs, ↓jn, ↓lt, ↓reduceIte, decide_true, decide_false, Bool.false_eq_true, Bool.and_true, Bool.and_false, Bool.true_and, Bool.false_and, Bool.or_false, Bool.false_or, Bool.or_true, Bool.true_or, hA.1, q3]
    · by_cases hv : m.2 204 (8 * j + i) = x
      · simp (disch := first | omega | decide) only [↓neg1, nlit, rI, rL, rI2, rL1, nI_add, pk_mul, sbT, dvT, nmd, ixT, ↓ibT, ltT, ltF, leT, leF, eqT, eqF, nM_ltT, nM_ltF, nM_leT, nM_leF, nM_eqF, nM_eqF', nbT0, nbT1, oI_s, oI_n, natF, natT, nltT, nltF, nleT, nleF, ↓reduceIte, lgc, not_true_eq_false, not_false_eq_true, or_false, false_or, or_true, true_or, and_true, true_and, and_false, false_and, ne_eq, eq_self, or_self, and_self, obs, ↓jn, ↓lt, ↓reduceIte, decide_true, decide_false, Bool.false_eq_true, Bool.and_true, Bool.and_false, Bool.true_and, Bool.false_and, Bool.or_false, Bool.false_or, Bool.or_true, Bool.true_or, hA.1, hA.2.1, q3, hv]
      · simp (disch := first | omega | decide) only [↓neg1, nlit, rI, rL, rI2, rL1, nI_add, pk_mul, sbT, dvT, nmd, ixT, ↓ibT, ltT, ltF, leT, leF, eqT, eqF, nM_ltT, nM_ltF, nM_leT, nM_leF, nM_eqF, nM_eqF', nbT0, nbT1, oI_s, oI_n, natF, natT, nltT, nltF, nleT, nleF, ↓reduceIte, lgc, not_true_eq_false, not_false_eq_true, or_false, false_or, or_true, true_or, and_true, true_and, and_false, false_and, ne_eq, eq_self, or_self, and_self, obs, ↓jn, ↓lt, ↓reduceIte, decide_true, decide_false, Bool.false_eq_true, Bool.and_true, Bool.and_false, Bool.true_and, Bool.false_and, Bool.or_false, Bool.false_or, Bool.or_true, Bool.true_or, hA.1, hA.2.1, q3, hv]
    · rw [← ho]
      cases o with
      | none => simp (disch := first | omega | decide) only [↓neg1, nlit, rI, rL, rI2, rL1, nI_add, pk_mul, sbT, dvT, nmd, ixT, ↓ibT, ltT, ltF, leT, leF, eqT, eqF, nM_ltT, nM_ltF, nM_leT, nM_leF, nM_eqF, nM_eqF', nbT0, nbT1, oI_s, oI_n, natF, natT, nltT, nltF, nleT, nleF, ↓reduceIte, lgc, not_true_eq_false, not_false_eq_true, or_false, false_or, or_true, true_or, and_true, true_and, and_false, false_and, ne_eq, eq_self, or_self, and_self, obs, ↓jn, ↓lt, ↓reduceIte, decide_true, decide_false, Bool.false_eq_true, Bool.and_true, Bool.and_false, Bool.true_and, Bool.false_and, Bool.or_false, Bool.false_or, Bool.or_true, Bool.true_or, Option.elim, Sum.elim_inl, hA.1, Option.map_none]
                all_goals rfl
      | some i => rfl
end SKF
