/-! UPWARDS: PARENTS, the nearest METHOD, the PLACE ABOVE -/
section UP
variable {m : cS}
theorem par_none {k : Nat} (h : m.1 201 k = nM) : par m k = none := by
  unfold par
  rw [h, if_pos (by decide)]
theorem par_some {k d : Nat} (h : m.1 201 k = nI d) (hd : d < 2147483648) : par m k = some d := by
  unfold par
  rw [h, if_neg (nI_pos hd), ix_n hd]
def PRS (m : cS) (C : Nat) : Prop := ∀ k, k < C → m.1 201 k = nM ∨ ∃ d, d < k ∧ m.1 201 k = nI d
theorem par_lt {C k d : Nat} (hC : C ≤ 12) (hp : PRS m C) (hk : k < C) (h : par m k = some d) : d < k ∧ m.1 201 k = nI d := by
  rcases hp k hk with e | ⟨d', hd, e⟩
  · rw [par_none e] at h
    cases h
  · rw [par_some e (by omega)] at h
    cases h
    exact ⟨hd, e⟩
theorem upO_lt {α : Type} {g : Nat → Option α} {Q : α → Prop} {C : Nat} (hC : C ≤ 12) (hp : PRS m C) (hg : ∀ k r, k < C → g k = some r → Q r) : ∀ {f k : Nat} {r : α}, k < C → upO m g f k = some r → Q r
  | 0, _, _, _, h => by cases h
  | f + 1, k, r, hk, h => by
    unfold upO at h
    split at h
    · rename_i r' hr
      cases h
      exact hg k _ hk hr
    · cases hd : par m k with
      | none =>
        rw [hd] at h
        cases h
      | some d =>
        rw [hd] at h
        have := (par_lt hC hp hk hd).1
        exact upO_lt hC hp hg (f := f) (k := d) (by omega) h
theorem upO_fuel {α : Type} {g : Nat → Option α} {C : Nat} (hC : C ≤ 12) (hp : PRS m C) : ∀ {f f' k : Nat}, k < C → k < f → k < f' → upO m g f k = upO m g f' k
  | 0, _, _, _, h, _ => by omega
  | _ + 1, 0, _, _, _, h => by omega
  | f + 1, f' + 1, k, hk, h1, h2 => by
    unfold upO
    split
    · rfl
    · cases hd : par m k with
      | none => rfl
      | some d =>
        have := (par_lt hC hp hk hd).1
        exact upO_fuel hC hp (f := f) (f' := f') (k := d) (by omega) (by omega) (by omega)
theorem whl_up {S R : Type} {f : S → Option (S ⊕ R)} {g : Nat → Option R} {E : R} {C : Nat} (st : Nat → Int32 → S) (hC : C ≤ 12) (hp : PRS m C) (hneg : ∀ t, t ≤ 12 → f (st t nM) = some (.inr E)) (hst : ∀ t k, t + k < 12 → k < C → f (st t (nI k)) = some (match g k with | some r => .inr r | none => .inl (st (t + 1) (m.1 201 k)))) : ∀ (F k t n : Nat), k < C → t + k < 12 → k < F → k + 1 < n → whl f n (st t (nI k)) = some ((upO m g F k).elim E id)
  | 0, _, _, _, _, _, h, _ => by omega
  | F + 1, k, t, 0, _, _, _, h => by omega
  | F + 1, k, t, n + 1, hk, ht, hF, hn => by
    show (f (st t (nI k))).bind _ = _
    rw [hst t k ht hk]
    unfold upO
    cases hg : g k with
    | some r => rfl
    | none =>
      show whl f n (st (t + 1) (m.1 201 k)) = some (((par m k).bind (upO m g F)).elim E id)
      rcases hp k hk with e | ⟨d, hd, e⟩
      · rw [par_none e, e]
        cases n with
        | zero => omega
        | succ n =>
          show (f (st (t + 1) nM)).bind _ = _
          rw [hneg (t + 1) (by omega)]
          rfl
      · rw [par_some e (by omega), e]
        exact whl_up st hC hp hneg hst F d (t + 1) n (by omega) (by omega) (by omega) (by omega)
theorem upO_map {α β : Type} {g : Nat → Option α} {h : α → β} : ∀ {f k : Nat}, upO m (fun k => (g k).map h) f k = (upO m g f k).map h
  | 0, _ => rfl
  | f + 1, k => by
    unfold upO
    cases hg : g k with
    | some r => rfl
    | none =>
      show (par m k).bind _ = ((par m k).bind _).map h
      cases hd : par m k with
      | none => rfl
      | some d => exact upO_map (f := f) (k := d)
end UP
theorem CCS_p {c m : cS} (h : CCS c m) : ccn m ≤ 12 ∧ PRS m (ccn m) := ⟨h.1.1, fun k hk => (h.2.2.1 k hk).2.2⟩
theorem e414 {n k : Nat} {v : Int64} {c m u : cS} (hn : 1000 ≤ n) (hA : AG m u) (hC : CCS c m) (hk : k < ccn m) : d_414 n (nI k) v u = some (match nrM m v 12 k with | some q => nI (100 * q.1 + q.2) | none => nM) := by
  obtain ⟨h12, hp⟩ := CCS_p hC
  have hq := hC.1.2.2.2.2.1
  have hloop : ∀ j, j < ccn m → ∀ {R : Type} {f : Int32 → Option (Int32 ⊕ R)} {G : R → Option (Int32 ⊕ (Unit ⊕ (Int32 × Int32)))} {e : R} {g : Nat → R} {r : Option (Int32 ⊕ (Unit ⊕ (Int32 × Int32)))}, (f (nI (qM m j)) = some (.inr e)) → (∀ i, i < qM m j → f (nI i) = some (if decide (m.2 206 (8 * j + i) = v) = true then .inr (g i) else .inl (nI (i + 1)))) → (∀ o, o = ff (fun i => decide (m.2 206 (8 * j + i) = v)) (qM m j) → G (o.elim e g) = r) → Option.bind (whl f n (nI 0)) G = r := by
    intro j hj R f G e g r h1 h2 h3
    have := (hq j hj).1
    exact bwf (fun k => nI k) e g _ (cnt := qM m j) (by omega) rfl h1 h2 (h3 _ rfl)
  unfold d_414
  have hb := fun (f : Int32 → Option (Int32 ⊕ (Unit ⊕ (Int32 × Int32)))) h1 h2 => whl_up (m := m) (f := f) (g := fun k => ((ff (fun j => decide (m.2 206 (8 * k + j) = v)) (qM m k)).map (fun j => (k, j))).map (fun q => Sum.inr (nI q.1, nI q.2))) (E := Sum.inl ()) (fun _ s => s) h12 hp h1 h2 12 k 0 n hk (by omega) (by omega) (by omega)
  rw [hb _ ?_ ?_]
  · rw [upO_map]
    show Option.bind (some (((nrM m v 12 k).map _).elim _ _)) _ = _
    cases hr : nrM m v 12 k with
    | none => rfl
    | some q =>
      show some (100 * nI q.1 + nI q.2) = some (nI (100 * q.1 + q.2))
      rw [show (100 : Int32) = nI 100 from rfl, pk_mul, nI_add]
  · intro t _
    rfl
  · intro t j _ hj
    obtain ⟨q1, -, q3⟩ := hq j hj
    simp (disch := first | omega | decide) only [↓neg1, nlit, rI, rL, rI2, rL1, nI_add, pk_mul, sbT, dvT, nmd, ixT, ↓ibT, ltT, ltF, leT, leF, eqT, eqF, nM_ltT, nM_ltF, nM_leT, nM_leF, nM_eqF, nM_eqF', nbT0, nbT1, oI_s, oI_n, natF, natT, nltT, nltF, nleT, nleF, ↓reduceIte, lgc, not_true_eq_false, not_false_eq_true, or_false, false_or, or_true, true_or, and_true, true_and, and_false, false_and, ne_eq, eq_self, or_self, and_self, obs, ↓jn, ↓lt, ↓reduceIte, decide_true, decide_false, Bool.false_eq_true, Bool.and_true, Bool.and_false, Bool.true_and, Bool.false_and, Bool.or_false, Bool.false_or, Bool.or_true, Bool.true_or]
    refine hloop j hj (e := Sum.inl ()) (g := fun i => Sum.inr (nI i)) ?_ (fun i hi => ?_) (fun o ho => ?_)
    · simp (disch := first | omega | decide) only [↓neg1, nlit, rI, rL, rI2, rL1, nI_add, pk_mul, sbT, dvT, nmd, ixT, ↓ibT, ltT, ltF, leT, leF, eqT, eqF, nM_ltT, nM_ltF, nM_leT, nM_leF, nM_eqF, nM_eqF', nbT0, nbT1, oI_s, oI_n, natF, natT, nltT, nltF, nleT, nleF, ↓reduceIte, lgc, not_true_eq_false, not_false_eq_true, or_false, false_or, or_true, true_or, and_true, true_and, and_false, false_and, ne_eq, eq_self, or_self, and_self, obs, ↓jn, ↓lt, ↓reduceIte, decide_true, decide_false, Bool.false_eq_true, Bool.and_true, Bool.and_false, Bool.true_and, Bool.false_and, Bool.or_false, Bool.false_or, Bool.or_true, Bool.true_or, hA.1, q3]
    · by_cases hv : m.2 206 (8 * j + i) = v
      · simp (disch := first | omega | decide) only [↓neg1, nlit, rI, rL, rI2, rL1, nI_add, pk_mul, sbT, dvT, nmd, ixT, ↓ibT, ltT, ltF, leT, leF, eqT, eqF, nM_ltT, nM_ltF, nM_leT, nM_leF, nM_eqF, nM_eqF', nbT0, nbT1, oI_s, oI_n, natF, natT, nltT, nltF, nleT, nleF, ↓reduceIte, lgc, not_true_eq_false, not_false_eq_true, or_false, false_or, or_true, true_or, and_true, true_and, and_false, false_and, ne_eq, eq_self, or_self, and_self, obs, ↓jn, ↓lt, ↓reduceIte, decide_true, decide_false, Bool.false_eq_true, Bool.and_true, Bool.and_false, Bool.true_and, Bool.false_and, Bool.or_false, Bool.false_or, Bool.or_true, Bool.true_or, hA.1, hA.2.1, q3, hv]
      · simp (disch := first | omega | decide) only [↓neg1, nlit, rI, rL, rI2, rL1, nI_add, pk_mul, sbT, dvT, nmd, ixT, ↓ibT, ltT, ltF, leT, leF, eqT, eqF, nM_ltT, nM_ltF, nM_leT, nM_leF, nM_eqF, nM_eqF', nbT0, nbT1, oI_s, oI_n, natF, natT, nltT, nltF, nleT, nleF, ↓reduceIte, lgc, not_true_eq_false, not_false_eq_true, or_false, false_or, or_true, true_or, and_true, true_and, and_false, false_and, ne_eq, eq_self, or_self, and_self, obs, ↓jn, ↓lt, ↓reduceIte, decide_true, decide_false, Bool.false_eq_true, Bool.and_true, Bool.and_false, Bool.true_and, Bool.false_and, Bool.or_false, Bool.false_or, Bool.or_true, Bool.true_or, hA.1, hA.2.1, q3, hv]
    · rw [← ho]
      cases o with
      | none => simp (disch := first | omega | decide) only [↓neg1, nlit, rI, rL, rI2, rL1, nI_add, pk_mul, sbT, dvT, nmd, ixT, ↓ibT, ltT, ltF, leT, leF, eqT, eqF, nM_ltT, nM_ltF, nM_leT, nM_leF, nM_eqF, nM_eqF', nbT0, nbT1, oI_s, oI_n, natF, natT, nltT, nltF, nleT, nleF, ↓reduceIte, lgc, not_true_eq_false, not_false_eq_true, or_false, false_or, or_true, true_or, and_true, true_and, and_false, false_and, ne_eq, eq_self, or_self, and_self, obs, ↓jn, ↓lt, ↓reduceIte, decide_true, decide_false, Bool.false_eq_true, Bool.and_true, Bool.and_false, Bool.true_and, Bool.false_and, Bool.or_false, Bool.false_or, Bool.or_true, Bool.true_or, Option.elim, Sum.elim_inl, hA.1, Option.map_none]
                all_goals rfl
      | some i => rfl
/-! PLACES -/
section ISP
variable {m : cS} {p s : Nat}
theorem isP_c (h : isP m p s) : p / 100 < ccn m := by
  unfold isP srt at h
  split at h
  · cases h
  · omega
theorem isP_s (h : isP m p s) : s = si p := by
  unfold isP srt at h
  unfold si
  split at h
  · cases h
  split at h
  · rename_i g
    rw [if_pos g]
    cases h
    rfl
  rename_i g
  rw [if_neg g]
  split at h
  · rename_i g
    rw [if_pos g]
    split at h
    · cases h
      rfl
    · cases h
  rename_i g
  rw [if_neg g]
  split at h
  · cases h
  · cases h
    rfl
theorem isP_f (h : isP m p s) (h0 : p % 100 ≠ 0) (h1 : p % 100 < 20) : p % 100 ≤ fM m (p / 100) := by
  unfold isP srt at h
  split at h
  · cases h
  split at h
  · assumption
  · cases h
theorem isP_m (h : isP m p s) (h1 : 20 ≤ p % 100) : (p % 100 - 20) / 10 < qM m (p / 100) ∧ p % 10 ≤ pM m (mAt p) := by
  unfold isP srt at h
  split at h
  · cases h
  rw [if_neg (by omega), if_neg (by omega)] at h
  split at h
  · cases h
  · unfold mAt
    omega
theorem isP_C {k : Nat} (hk : k < ccn m) : isP m (100 * k) 0 := by
  unfold isP srt
  rw [if_neg (by omega), if_pos (by omega)]
theorem isP_F {k f : Nat} (hk : k < ccn m) (hf : f < fM m k) (h8 : fM m k ≤ 8) : isP m (100 * k + 1 + f) 1 := by
  unfold isP srt
  rw [if_neg (by omega), if_neg (by omega), if_pos (by omega), if_pos (by rw [show (100 * k + 1 + f) / 100 = k by omega]; omega)]
theorem isP_M {k j r : Nat} (hk : k < ccn m) (hj : j < qM m k) (hq : qM m k ≤ 8) (hr : r ≤ pM m (8 * k + j)) (h4 : pM m (8 * k + j) ≤ 4) : isP m (100 * k + 20 + 10 * j + r) (if r = 0 then 2 else 3) := by
  unfold isP srt
  have e1 : (100 * k + 20 + 10 * j + r) / 100 = k := by omega
  have e2 : (100 * k + 20 + 10 * j + r) % 100 = 20 + 10 * j + r := by omega
  have e3 : (20 + 10 * j + r - 20) / 10 = j := by omega
  have e4 : (100 * k + 20 + 10 * j + r) % 10 = r := by omega
  rw [e1, e2, e3, e4, if_neg (by omega), if_neg (by omega), if_neg (by omega), if_neg (by omega)]
end ISP
theorem nrM_ok {c m : cS} {v : Int64} {f k : Nat} {q : Nat × Nat} (hC : CCS c m) (hk : k < ccn m) (h : nrM m v f k = some q) : q.1 < ccn m ∧ q.1 ≤ k ∧ q.2 < qM m q.1 := by
  obtain ⟨h12, hp⟩ := CCS_p hC
  have : (q.1 < ccn m ∧ q.2 < qM m q.1) := by
    refine upO_lt (Q := fun q : Nat × Nat => q.1 < ccn m ∧ q.2 < qM m q.1) h12 hp ?_ hk h
    intro k' r hk' hr
    cases hf : ff (fun j => decide (m.2 206 (8 * k' + j) = v)) (qM m k') with
    | none =>
      rw [hf] at hr
      cases hr
    | some j =>
      rw [hf] at hr
      cases hr
      exact ⟨hk', (ff_some hf).1⟩
  refine ⟨this.1, ?_, this.2⟩
  refine upO_lt (Q := fun q : Nat × Nat => q.1 ≤ k) (C := k + 1) (by omega) (fun i hi => hp i (by omega)) ?_ (by omega) h
  intro k' r hk' hr
  cases hf : ff (fun j => decide (m.2 206 (8 * k' + j) = v)) (qM m k') with
  | none =>
    rw [hf] at hr
    cases hr
  | some j =>
    rw [hf] at hr
    cases hr
    show k' ≤ k
    omega
/-- the PLACE ABOVE is one of its sort, in a CLASS ahead -/
theorem abv_P {c m : cS} {p q s : Nat} (hC : CCS c m) (h : isP m p s) (ha : abv m p = some q) : isP m q s ∧ q / 100 < p / 100 := by
  obtain ⟨h12, hp⟩ := CCS_p hC
  have hc := isP_c h
  have hs := isP_s h
  unfold abv at ha
  cases hd : par m (p / 100) with
  | none =>
    rw [hd] at ha
    cases ha
  | some d =>
    rw [hd] at ha
    have ha : (if p % 100 = 0 then some (100 * d) else if p % 100 < 20 then none else (nrM m (m.2 206 (mAt p)) 12 d).bind (fun q => if pM m (8 * q.1 + q.2) = pM m (mAt p) then some (100 * q.1 + 20 + 10 * q.2 + p % 10) else none)) = some q := ha
    have hdl := (par_lt h12 hp hc hd).1
    by_cases h0 : p % 100 = 0
    · rw [if_pos h0] at ha
      cases ha
      have : s = 0 := by rw [hs]; unfold si; rw [if_pos h0]
      subst this
      exact ⟨isP_C (by omega), by omega⟩
    rw [if_neg h0] at ha
    by_cases h1 : p % 100 < 20
    · rw [if_pos h1] at ha
      cases ha
    rw [if_neg h1] at ha
    cases hn : nrM m (m.2 206 (mAt p)) 12 d with
    | none =>
      rw [hn] at ha
      cases ha
    | some r =>
      rw [hn] at ha
      have ha : (if pM m (8 * r.1 + r.2) = pM m (mAt p) then some (100 * r.1 + 20 + 10 * r.2 + p % 10) else none) = some q := ha
      obtain ⟨r1, r2, r3⟩ := nrM_ok hC (by omega) hn
      have hq8 := (hC.1.2.2.2.2.1 r.1 r1).1
      have hp4 := (hC.1.2.2.2.2.2 r.1 r.2 r1 r3).1
      have hm := isP_m h (by omega)
      by_cases h2 : pM m (8 * r.1 + r.2) = pM m (mAt p)
      · rw [if_pos h2] at ha
        cases ha
        refine ⟨?_, by omega⟩
        have : s = if p % 10 = 0 then 2 else 3 := by rw [hs]; unfold si; rw [if_neg h0, if_neg h1]
        rw [this]
        exact isP_M r1 r3 hq8 (by omega) hp4
      · rw [if_neg h2] at ha
        cases ha
theorem mAt_lt {c m : cS} {p s : Nat} (hC : CCS c m) (h : isP m p s) (h1 : 20 ≤ p % 100) : mAt p < 96 := by
  have := isP_c h
  have := (CCS_p hC).1
  unfold mAt
  omega
theorem e421m {n p : Nat} (h : p < 2 ^ 31) (h20 : 20 ≤ p % 100) : d_421 n (nI p) = some (nI (mAt p)) := e421 h h20
theorem e22m {n p : Nat} (h : p < 2 ^ 31) (h20 : 20 ≤ p % 100) : d_22 n (nI p) = some (nI (mAt p)) := e22 h h20
theorem e422 {n k j : Nat} (hk : k < 1000) (hj : j < 8) : d_422 n (nI (8 * k + j)) = some (nI (100 * k + 20 + 10 * j)) := by
  unfold d_422
  simp (disch := first | omega | decide) only [↓neg1, nlit, rI, rL, rI2, rL1, nI_add, pk_mul, sbT, dvT, nmd, ixT, ↓ibT, ltT, ltF, leT, leF, eqT, eqF, nM_ltT, nM_ltF, nM_leT, nM_leF, nM_eqF, nM_eqF', nbT0, nbT1, oI_s, oI_n, natF, natT, nltT, nltF, nleT, nleF, ↓reduceIte, lgc, not_true_eq_false, not_false_eq_true, or_false, false_or, or_true, true_or, and_true, true_and, and_false, false_and, ne_eq, eq_self, or_self, and_self, obs, ↓jn, ↓lt, ↓reduceIte, decide_true, decide_false, Bool.false_eq_true, Bool.and_true, Bool.and_false, Bool.true_and, Bool.false_and, Bool.or_false, Bool.false_or, Bool.or_true, Bool.true_or]
  rw [show (8 * k + j) / 8 = k by omega, show (8 * k + j) % 8 = j by omega]
theorem CCS_pM {c m : cS} {p s : Nat} (hC : CCS c m) (h : isP m p s) (h1 : 20 ≤ p % 100) : m.1 207 (mAt p) = nI (pM m (mAt p)) ∧ c.1 116 (mAt p) = nI (pM m (mAt p)) ∧ pM m (mAt p) ≤ 4 := by
  obtain ⟨h2, -⟩ := isP_m h h1
  obtain ⟨g1, g2, g3⟩ := hC.1.2.2.2.2.2 _ _ (isP_c h) h2
  exact ⟨g3, g2, g1⟩
theorem e423 {n p s : Nat} {c m u : cS} (hn : 1000 ≤ n) (hA : AG m u) (hC : CCS c m) (h : isP m p s) : d_423 n (nI p) u = some (oI (abv m p)) := by
  obtain ⟨h12, hp⟩ := CCS_p hC
  have hc := isP_c h
  have hpp : p < 1200 := by omega
  have hsi := si_lt p
  unfold d_423 abv
  have e414' := fun (d : Nat) (hd : d < ccn m) v => e414 (n := n) (k := d) (v := v) hn hA hC hd
  by_cases h0 : p % 100 = 0
  · have hs0 : si p = 0 := by unfold si; rw [if_pos h0]
    rcases hp _ hc with e | ⟨d, hd, e⟩
    · simp (disch := first | omega | decide) only [↓neg1, nlit, rI, rL, rI2, rL1, nI_add, pk_mul, sbT, dvT, nmd, ixT, ↓ibT, ltT, ltF, leT, leF, eqT, eqF, nM_ltT, nM_ltF, nM_leT, nM_leF, nM_eqF, nM_eqF', nbT0, nbT1, oI_s, oI_n, natF, natT, nltT, nltF, nleT, nleF, ↓reduceIte, lgc, not_true_eq_false, not_false_eq_true, or_false, false_or, or_true, true_or, and_true, true_and, and_false, false_and, ne_eq, eq_self, or_self, and_self, obs, ↓jn, ↓lt, ↓reduceIte, decide_true, decide_false, Bool.false_eq_true, Bool.and_true, Bool.and_false, Bool.true_and, Bool.false_and, Bool.or_false, Bool.false_or, Bool.or_true, Bool.true_or, e110s, hs0, pow1, hA.1, e, par_none e]
      all_goals rfl
    · simp (disch := first | omega | decide) only [↓neg1, nlit, rI, rL, rI2, rL1, nI_add, pk_mul, sbT, dvT, nmd, ixT, ↓ibT, ltT, ltF, leT, leF, eqT, eqF, nM_ltT, nM_ltF, nM_leT, nM_leF, nM_eqF, nM_eqF', nbT0, nbT1, oI_s, oI_n, natF, natT, nltT, nltF, nleT, nleF, ↓reduceIte, lgc, not_true_eq_false, not_false_eq_true, or_false, false_or, or_true, true_or, and_true, true_and, and_false, false_and, ne_eq, eq_self, or_self, and_self, obs, ↓jn, ↓lt, ↓reduceIte, decide_true, decide_false, Bool.false_eq_true, Bool.and_true, Bool.and_false, Bool.true_and, Bool.false_and, Bool.or_false, Bool.false_or, Bool.or_true, Bool.true_or, e110s, hs0, pow1, hA.1, e, par_some e (show d < 2147483648 by omega), h0]
      all_goals rfl
  · by_cases h1 : p % 100 < 20
    · have hs0 : si p = 1 := by unfold si; rw [if_neg h0, if_pos h1]
      simp (disch := first | omega | decide) only [↓neg1, nlit, rI, rL, rI2, rL1, nI_add, pk_mul, sbT, dvT, nmd, ixT, ↓ibT, ltT, ltF, leT, leF, eqT, eqF, nM_ltT, nM_ltF, nM_leT, nM_leF, nM_eqF, nM_eqF', nbT0, nbT1, oI_s, oI_n, natF, natT, nltT, nltF, nleT, nleF, ↓reduceIte, lgc, not_true_eq_false, not_false_eq_true, or_false, false_or, or_true, true_or, and_true, true_and, and_false, false_and, ne_eq, eq_self, or_self, and_self, obs, ↓jn, ↓lt, ↓reduceIte, decide_true, decide_false, Bool.false_eq_true, Bool.and_true, Bool.and_false, Bool.true_and, Bool.false_and, Bool.or_false, Bool.false_or, Bool.or_true, Bool.true_or, e110s, hs0]
      cases par m (p / 100) with
      | none => rfl
      | some d => rfl
    · have h20 : 20 ≤ p % 100 := by omega
      have hm := mAt_lt hC h h20
      obtain ⟨g1, g2, g3⟩ := CCS_pM hC h h20
      have hs1 : (nI (2 ^ si p) = nI 1) = False := by
        rw [pow1 hsi]
        refine eq_false ?_
        unfold si
        rw [if_neg h0, if_neg h1]
        split <;> omega
      have hs2 : (nI (2 ^ si p) = nI 2) = False := by
        refine eq_false ?_
        unfold si
        rw [if_neg h0, if_neg h1]
        split <;> decide
      rcases hp _ hc with e | ⟨d, hd, e⟩
      · simp (disch := first | omega | decide) only [↓neg1, nlit, rI, rL, rI2, rL1, nI_add, pk_mul, sbT, dvT, nmd, ixT, ↓ibT, ltT, ltF, leT, leF, eqT, eqF, nM_ltT, nM_ltF, nM_leT, nM_leF, nM_eqF, nM_eqF', nbT0, nbT1, oI_s, oI_n, natF, natT, nltT, nltF, nleT, nleF, ↓reduceIte, lgc, not_true_eq_false, not_false_eq_true, or_false, false_or, or_true, true_or, and_true, true_and, and_false, false_and, ne_eq, eq_self, or_self, and_self, obs, ↓jn, ↓lt, ↓reduceIte, decide_true, decide_false, Bool.false_eq_true, Bool.and_true, Bool.and_false, Bool.true_and, Bool.false_and, Bool.or_false, Bool.false_or, Bool.or_true, Bool.true_or, e110s, hs1, hs2, hA.1, e, par_none e]
        all_goals rfl
      · have hd' : d < ccn m := by omega
        cases hr : nrM m (m.2 206 (mAt p)) 12 d with
        | none =>
          simp (disch := first | omega | decide) only [↓neg1, nlit, rI, rL, rI2, rL1, nI_add, pk_mul, sbT, dvT, nmd, ixT, ↓ibT, ltT, ltF, leT, leF, eqT, eqF, nM_ltT, nM_ltF, nM_leT, nM_leF, nM_eqF, nM_eqF', nbT0, nbT1, oI_s, oI_n, natF, natT, nltT, nltF, nleT, nleF, ↓reduceIte, lgc, not_true_eq_false, not_false_eq_true, or_false, false_or, or_true, true_or, and_true, true_and, and_false, false_and, ne_eq, eq_self, or_self, and_self, obs, ↓jn, ↓lt, ↓reduceIte, decide_true, decide_false, Bool.false_eq_true, Bool.and_true, Bool.and_false, Bool.true_and, Bool.false_and, Bool.or_false, Bool.false_or, Bool.or_true, Bool.true_or, e110s, hs1, hs2, hA.1, hA.2.1, e, par_some e (show d < 2147483648 by omega), e421m, e414' d hd', hr, h0, h1, Option.bind_some, Option.bind_none]
          all_goals rfl
        | some q =>
          obtain ⟨q1, q2, q3⟩ := nrM_ok hC hd' hr
          have hq8 := (hC.1.2.2.2.2.1 q.1 q1).1
          obtain ⟨hp4, -, hp5⟩ := hC.1.2.2.2.2.2 q.1 q.2 q1 q3
          have e1 : (100 * q.1 + q.2) / 100 = q.1 := by omega
          have e2 : 100 * q.1 + q.2 - q.1 * 100 = q.2 := by omega
          by_cases he : pM m (8 * q.1 + q.2) = pM m (mAt p)
          · simp (disch := first | omega | decide) only [↓neg1, nlit, rI, rL, rI2, rL1, nI_add, pk_mul, sbT, dvT, nmd, ixT, ↓ibT, ltT, ltF, leT, leF, eqT, eqF, nM_ltT, nM_ltF, nM_leT, nM_leF, nM_eqF, nM_eqF', nbT0, nbT1, oI_s, oI_n, natF, natT, nltT, nltF, nleT, nleF, ↓reduceIte, lgc, not_true_eq_false, not_false_eq_true, or_false, false_or, or_true, true_or, and_true, true_and, and_false, false_and, ne_eq, eq_self, or_self, and_self, obs, ↓jn, ↓lt, ↓reduceIte, decide_true, decide_false, Bool.false_eq_true, Bool.and_true, Bool.and_false, Bool.true_and, Bool.false_and, Bool.or_false, Bool.false_or, Bool.or_true, Bool.true_or, e110s, hs1, hs2, hA.1, hA.2.1, e, par_some e (show d < 2147483648 by omega), e421m, e414' d hd', hr, h0, h1, Option.bind_some, e1, e2, hp5, g1, e422, he]
            exact congrArg (fun z => some (nI z)) (by omega)
          · simp (disch := first | omega | decide) only [↓neg1, nlit, rI, rL, rI2, rL1, nI_add, pk_mul, sbT, dvT, nmd, ixT, ↓ibT, ltT, ltF, leT, leF, eqT, eqF, nM_ltT, nM_ltF, nM_leT, nM_leF, nM_eqF, nM_eqF', nbT0, nbT1, oI_s, oI_n, natF, natT, nltT, nltF, nleT, nleF, ↓reduceIte, lgc, not_true_eq_false, not_false_eq_true, or_false, false_or, or_true, true_or, and_true, true_and, and_false, false_and, ne_eq, eq_self, or_self, and_self, obs, ↓jn, ↓lt, ↓reduceIte, decide_true, decide_false, Bool.false_eq_true, Bool.and_true, Bool.and_false, Bool.true_and, Bool.false_and, Bool.or_false, Bool.false_or, Bool.or_true, Bool.true_or, e110s, hs1, hs2, hA.1, hA.2.1, e, par_some e (show d < 2147483648 by omega), e421m, e414' d hd', hr, h0, h1, Option.bind_some, e1, e2, hp5, g1, e422, he]
            all_goals rfl
