/-! WIRING: ancestors -/
section ANC
variable {n : Nat} {c m u : cS}
/-- the CLASS s above x -/
def anc (m : cS) (x : Nat) : Nat → Option Nat
  | 0 => some x
  | s + 1 => (anc m x s).bind (par m)
theorem anc_lt {C x : Nat} (hC : C ≤ 12) (hp : PRS m C) (hx : x < C) : ∀ {s y : Nat}, anc m x s = some y → y + s ≤ x
  | 0, y, h => by cases h; omega
  | s + 1, y, h => by
    unfold anc at h
    cases hy : anc m x s with
    | none => rw [hy] at h; cases h
    | some z =>
      rw [hy] at h
      have h1 := anc_lt hC hp hx hy
      have h2 := (par_lt hC hp (show z < C by omega) h).1
      omega
theorem anc_par {x : Nat} {s : Nat} : anc m x (s + 1) = (anc m x s).bind (par m) := rfl
theorem anc_none {x s : Nat} (h : anc m x s = none) : ∀ d, anc m x (s + d) = none
  | 0 => h
  | d + 1 => by
    show (anc m x (s + d)).bind (par m) = none
    rw [anc_none h d]
    rfl
theorem par_oI {C k : Nat} (hC : C ≤ 12) (hp : PRS m C) (hk : k < C) : m.1 201 k = oI (par m k) := by
  rcases hp k hk with e | ⟨d', hd, e⟩
  · rw [par_none e]
    exact e
  · rw [par_some e (by omega)]
    exact e
theorem e255 {x s : Nat} (hn : 100 ≤ n) (hC : CCS c m) (hx : x < ccn m) (hs : s ≤ 12) : d_255 n (nI x) (nI s) c = some (oI (anc m x s)) := by
  obtain ⟨h12, hp⟩ := CCS_p hC
  unfold d_255
  refine eq_wp ?_
  refine wpc (K' := fun r : Int32 => r = oI (anc m x s)) (whl_cnt (fun k (st : Int32 × Int32) => st.1 = oI (anc m x k) ∧ st.2 = nI k) s ?_ ?_ (by omega) ⟨rfl, rfl⟩) (fun r hr => hr)
  · rintro k ⟨a, b⟩ hk ⟨g1, g2⟩
    dsimp only at g1 g2
    subst g1 g2
    dsimp only
    refine wpf (by simp (disch := first | omega | decide) only [↓neg1, nlit, rI, rL, rI2, rL1, nI_add, pk_mul, sbT, dvT, nmd, ixT, ↓ibT, ltT, ltF, leT, leF, eqT, eqF, nM_ltT, nM_ltF, nM_leT, nM_leF, nM_eqF, nM_eqF', nbT0, nbT1, oI_s, oI_n, natF, natT, nltT, nltF, nleT, nleF, ↓reduceIte, lgc, not_true_eq_false, not_false_eq_true, or_false, false_or, or_true, true_or, and_true, true_and, and_false, false_and, ne_eq, eq_self, or_self, and_self]) ?_
    cases hy : anc m x k with
    | none =>
      refine wpt (by decide) ?_
      have := anc_none hy (s - k)
      rw [show k + (s - k) = s by omega] at this
      rw [this]
      exact rfl
    | some y =>
      have hyl := anc_lt h12 hp hx hy
      rw [oI_s]
      refine wpf (by simp (disch := first | omega | decide) only [↓neg1, nlit, rI, rL, rI2, rL1, nI_add, pk_mul, sbT, dvT, nmd, ixT, ↓ibT, ltT, ltF, leT, leF, eqT, eqF, nM_ltT, nM_ltF, nM_leT, nM_leF, nM_eqF, nM_eqF', nbT0, nbT1, oI_s, oI_n, natF, natT, nltT, nltF, nleT, nleF, ↓reduceIte, lgc, not_true_eq_false, not_false_eq_true, or_false, false_or, or_true, true_or, and_true, true_and, and_false, false_and, ne_eq, eq_self, or_self, and_self]) (wpt (by simp (disch := first | omega | decide) only [↓neg1, nlit, rI, rL, rI2, rL1, nI_add, pk_mul, sbT, dvT, nmd, ixT, ↓ibT, ltT, ltF, leT, leF, eqT, eqF, nM_ltT, nM_ltF, nM_leT, nM_leF, nM_eqF, nM_eqF', nbT0, nbT1, oI_s, oI_n, natF, natT, nltT, nltF, nleT, nleF, ↓reduceIte, lgc, not_true_eq_false, not_false_eq_true, or_false, false_or, or_true, true_or, and_true, true_and, and_false, false_and, ne_eq, eq_self, or_self, and_self]) ?_)
      rw [ix_n (by omega), (hC.2.2.1 y (by omega)).2.1, par_oI h12 hp (show y < ccn m by omega)]
      refine wpl (wpl ⟨?_, nI_1 _⟩)
      rw [anc_par, hy]
      rfl
  · rintro ⟨a, b⟩ ⟨g1, g2⟩
    dsimp only at g1 g2
    subst g1 g2
    exact wpt (by dsimp only; simp (disch := first | omega | decide) only [↓neg1, nlit, rI, rL, rI2, rL1, nI_add, pk_mul, sbT, dvT, nmd, ixT, ↓ibT, ltT, ltF, leT, leF, eqT, eqF, nM_ltT, nM_ltF, nM_leT, nM_leF, nM_eqF, nM_eqF', nbT0, nbT1, oI_s, oI_n, natF, natT, nltT, nltF, nleT, nleF, ↓reduceIte, lgc, not_true_eq_false, not_false_eq_true, or_false, false_or, or_true, true_or, and_true, true_and, and_false, false_and, ne_eq, eq_self, or_self, and_self]) rfl
/-- y is x or above it -/
def und (m : cS) (x y : Nat) : Bool := (List.range 12).any (fun s => decide (anc m x s = some y))
theorem und_iff {x y : Nat} : und m x y = true ↔ ∃ s, s < 12 ∧ anc m x s = some y := by
  unfold und
  rw [List.any_eq_true]
  constructor
  · rintro ⟨s, h1, h2⟩
    exact ⟨s, List.mem_range.mp h1, of_decide_eq_true h2⟩
  · rintro ⟨s, h1, h2⟩
    exact ⟨s, List.mem_range.mpr h1, decide_eq_true h2⟩
theorem e256 {x y : Nat} (hn : 100 ≤ n) (hC : CCS c m) (hx : x < ccn m) (hy : y < ccn m) : d_256 n (nI x) (nI y) c = some (if und m x y = true then nI 1 else nI 0) := by
  obtain ⟨h12, hp⟩ := CCS_p hC
  unfold d_256
  refine eq_wp ?_
  refine wpc (K' := fun r : Unit ⊕ Unit => r = if und m x y = true then .inr () else .inl ()) (whl_cnt (fun k (st : Int32) => st = nI k ∧ ∀ s, s < k → anc m x s ≠ some y) 12 ?_ ?_ (by omega) ⟨rfl, fun s h => absurd h (Nat.not_lt_zero _)⟩) ?_
  · rintro k a hk ⟨g1, g2⟩
    subst g1
    refine wpf (by simp (disch := first | omega | decide) only [↓neg1, nlit, rI, rL, rI2, rL1, nI_add, pk_mul, sbT, dvT, nmd, ixT, ↓ibT, ltT, ltF, leT, leF, eqT, eqF, nM_ltT, nM_ltF, nM_leT, nM_leF, nM_eqF, nM_eqF', nbT0, nbT1, oI_s, oI_n, natF, natT, nltT, nltF, nleT, nleF, ↓reduceIte, lgc, not_true_eq_false, not_false_eq_true, or_false, false_or, or_true, true_or, and_true, true_and, and_false, false_and, ne_eq, eq_self, or_self, and_self]) (wpe (e255 hn hC hx (by omega)) ?_)
    by_cases e : anc m x k = some y
    · rw [e]
      refine wpt rfl ?_
      show _ = _
      rw [if_pos (und_iff.mpr ⟨k, hk, e⟩)]
    · refine wpf (fun z => ?_) (wpl ⟨nI_1 _, fun s hs => ?_⟩)
      · cases ha : anc m x k with
        | none =>
          rw [ha] at z
          exact absurd z (fun q => by rw [oI_n, eq_comm, nM_eqF (by omega)] at q; exact q)
        | some w =>
          rw [ha, oI_s] at z
          have hwl := anc_lt h12 hp hx ha
          have := (nI_eq (by omega) (by omega)).mp z
          subst this
          exact e ha
      · by_cases es : s = k
        · rw [es]
          exact e
        · exact g2 s (by omega)
  · rintro a ⟨g1, g2⟩
    subst g1
    refine wpt (by decide) ?_
    show _ = _
    rw [if_neg (fun z => by
      obtain ⟨s, h1, h2⟩ := und_iff.mp z
      exact g2 s h1 h2)]
  · rintro r rfl
    by_cases e : und m x y = true
    · rw [if_pos e, if_pos e]
      exact rfl
    · rw [if_neg e, if_neg e]
      exact rfl
end ANC
