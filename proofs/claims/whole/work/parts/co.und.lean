/-! WIRING: ancestors, the reference -/
section UND
variable {n : Nat} {c m u : cS}
theorem anc_end {C x : Nat} (hC : C ≤ 12) (hp : PRS m C) (hx : x < C) : anc m x 12 = none := by
  cases h : anc m x 12 with
  | none => rfl
  | some y =>
    have := anc_lt hC hp hx h
    omega
theorem e476 {x y : Nat} (hn : 100 ≤ n) (hA : AG m u) (hC : CCS c m) (hx : x < ccn m) (hy : y < ccn m) : d_476 n (nI x) (nI y) u = some (if und m x y = true then nI 1 else nI 0) := by
  obtain ⟨h12, hp⟩ := CCS_p hC
  unfold d_476
  refine eq_wp ?_
  have none_ : ∀ k, k ≤ 12 → anc m x k = none → (∀ s, s < k → anc m x s ≠ some y) → ¬ und m x y = true := fun k hk h1 h2 z => by
    obtain ⟨s, s1, s2⟩ := und_iff.mp z
    by_cases e : s < k
    · exact h2 s e s2
    · have := anc_none h1 (s - k)
      rw [show k + (s - k) = s by omega, s2] at this
      cases this
  refine wpc (K' := fun r : Unit ⊕ Unit => r = if und m x y = true then .inr () else .inl ()) (whl_cnt (fun k (st : Int32) => st = oI (anc m x k) ∧ ∀ s, s < k → anc m x s ≠ some y) 12 ?_ ?_ (by omega) ⟨rfl, fun s h => absurd h (Nat.not_lt_zero _)⟩) ?_
  · rintro k a hk ⟨g1, g2⟩
    subst g1
    cases ha : anc m x k with
    | none =>
      refine wpt (by decide) ?_
      show _ = _
      rw [if_neg (none_ k (by omega) ha g2)]
    | some w =>
      have hwl := anc_lt h12 hp hx ha
      rw [oI_s]
      refine wpf (by simp (disch := first | omega | decide) only [↓neg1, nlit, rI, rL, rI2, rL1, nI_add, pk_mul, sbT, dvT, nmd, ixT, ↓ibT, ltT, ltF, leT, leF, eqT, eqF, nM_ltT, nM_ltF, nM_leT, nM_leF, nM_eqF, nM_eqF', nbT0, nbT1, oI_s, oI_n, natF, natT, nltT, nltF, nleT, nleF, ↓reduceIte, lgc, not_true_eq_false, not_false_eq_true, or_false, false_or, or_true, true_or, and_true, true_and, and_false, false_and, ne_eq, eq_self, or_self, and_self]) ?_
      by_cases e : w = y
      · refine wpt (by rw [e]) ?_
        show _ = _
        rw [if_pos (und_iff.mpr ⟨k, hk, by rw [ha, e]⟩)]
      · refine wpf (fun z => e ((nI_eq (by omega) (by omega)).mp z)) (wpt (by simp (disch := first | omega | decide) only [↓neg1, nlit, rI, rL, rI2, rL1, nI_add, pk_mul, sbT, dvT, nmd, ixT, ↓ibT, ltT, ltF, leT, leF, eqT, eqF, nM_ltT, nM_ltF, nM_leT, nM_leF, nM_eqF, nM_eqF', nbT0, nbT1, oI_s, oI_n, natF, natT, nltT, nltF, nleT, nleF, ↓reduceIte, lgc, not_true_eq_false, not_false_eq_true, or_false, false_or, or_true, true_or, and_true, true_and, and_false, false_and, ne_eq, eq_self, or_self, and_self]) ?_)
        rw [ix_n (by omega), hA.1 201 _ rfl, par_oI h12 hp (show w < ccn m by omega)]
        refine wpl ⟨?_, fun s hs => ?_⟩
        · rw [anc_par, ha]
          rfl
        · by_cases es : s = k
          · rw [es, ha]
            exact fun z => e (by cases z; rfl)
          · exact g2 s (by omega)
  · rintro a ⟨g1, g2⟩
    subst g1
    rw [anc_end h12 hp hx]
    refine wpt (by decide) ?_
    show _ = _
    rw [if_neg (none_ 12 (by omega) (anc_end h12 hp hx) g2)]
  · rintro r rfl
    by_cases e : und m x y = true
    · rw [if_pos e, if_pos e]
      exact rfl
    · rw [if_neg e, if_neg e]
      exact rfl
end UND
