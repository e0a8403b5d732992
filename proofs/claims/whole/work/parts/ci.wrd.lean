/-! WIRING: what is told of it -/
section WRD
variable {n : Nat} {c u : cS}
def WRD (c u : cS) : Prop := (c.1 167 7 = nI 0 ∧ c.1 167 8 = nM ∧ c.1 167 9 = nM ∧ (u.1 174 14 = nI 0 ∨ u.1 174 130 = nI 0)) ∨ (u.1 174 14 ≠ nI 0 ∧ u.1 174 130 ≠ nI 0 ∧ ∃ k, k ≤ 12 ∧ c.1 167 7 = nI k ∧ u.1 174 134 = nI k ∧ c.1 167 8 = u.1 174 132 ∧ c.1 167 9 = u.1 174 133 ∧ ∀ i, i < k → c.1 171 i = u.1 261 i)
theorem a_sub2 {a : Int32} {k : Nat} (hk : k ≤ 12) (h1 : ¬ a < 2) (h2 : ¬ nI k ≤ a - 2) : ∃ i, i < k ∧ a - 2 = nI i := by
  have e1 : ¬ a.toInt < 2 := fun z => h1 (Int32.lt_iff_toInt_lt.mpr (by rw [show (2 : Int32).toInt = 2 by decide]; exact z))
  have e2 : ¬ (k : Int) ≤ (a - 2).toInt := fun z => h2 (Int32.le_iff_toInt_le.mpr (by rw [nI_toInt (by omega)]; exact z))
  have e3 : (a - 2).toInt = a.toInt - 2 := by
    have hl := a.toInt_lt
    rw [Int32.toInt_sub, show (2 : Int32).toInt = 2 by decide]
    have := a.le_toInt
    exact Int.bmod_eq_of_le (by omega) (by omega)
  refine ⟨(a - 2).toInt.toNat, by omega, Int32.toInt_inj.mp ?_⟩
  rw [nI_toInt (by omega)]
  omega
theorem c_wired {a1 : Int32} (h : WRD c (pI u 174 0 0)) : br (d_89 n a1 c) (d_144 n a1 u) (fun w => w = pI u 174 0 0) := by
  unfold br d_89 d_144 d_54
  simp only [lt]
  generalize pI u 174 0 0 = v at h ⊢
  rcases h with ⟨h1, h2, h3, h4⟩ | ⟨h1, h2, k, hk, h3, h4, h5, h6, h7⟩
  · have hu : ∀ {K : Int32 × cS → Prop}, K (-1, v) → wp (jn (fun p3 : Unit =>
    some ((-1 : Int32), v))
  (fun j19 =>
  if (v.1 174 14) = 0 then
    j19 ()
  else
    if (v.1 174 130) = 0 then
      j19 ()
    else
      if a1 = 0 then
        some ((v.1 174 132), v)
      else
        if a1 = 1 then
          some ((v.1 174 133), v)
        else
          jn (fun p4 : Int32 =>
            some (p4, v))
          (fun j67 =>
          jn (fun p5 : Unit =>
            j67 (-1))
          (fun j66 =>
          if a1 < 2 then
            j66 ()
          else
            if (v.1 174 134) ≤ (a1 - 2) then
              j66 ()
            else
              if ib (a1 - 2) 12 then
              j67 (v.1 261 (ix (a1 - 2)))
              else none)))) K := fun {K} hK => by
      refine wpj ?_
      by_cases e : v.1 174 14 = 0
      · exact wpt e hK
      · exact wpf e (wpt (h4.resolve_left e) hK)
    have hc : wp (if a1 = 0 then
    some (c.1 167 8)
  else
    if a1 = 1 then
      some (c.1 167 9)
    else
      jn (fun p1 : Int32 =>
        some p1)
      (fun j46 =>
      jn (fun p2 : Unit =>
        j46 (-1))
      (fun j45 =>
      if a1 < 2 then
        j45 ()
      else
        if (c.1 167 7) ≤ (a1 - 2) then
          j45 ()
        else
          if ib (a1 - 2) 12 then
          j46 (c.1 171 (ix (a1 - 2)))
          else none))) (fun r => r = nM) := by
      by_cases e0 : a1 = 0
      · exact wpt e0 h2
      · refine wpf e0 ?_
        by_cases e1 : a1 = 1
        · exact wpt e1 h3
        · refine wpf e1 (wpj (wpj ?_))
          by_cases e2 : a1 < 2
          · exact wpt e2 rfl
          · refine wpf e2 ?_
            by_cases e3 : c.1 167 7 ≤ a1 - 2
            · exact wpt e3 rfl
            · obtain ⟨i, hi, -⟩ := a_sub2 (k := 0) (by omega) e2 (by rw [← h1]; exact e3)
              omega
    exact wpc hc (fun r hr => wp_of rfl (hu ⟨hr, rfl⟩))
  · refine wpb ?_
    by_cases e0 : a1 = 0
    · exact wpt e0 (wp_of rfl (wpj (wpf h1 (wpf h2 (wpt e0 ⟨h5, rfl⟩)))))
    · refine wpf e0 ?_
      by_cases e1 : a1 = 1
      · exact wpt e1 (wp_of rfl (wpj (wpf h1 (wpf h2 (wpf e0 (wpt e1 ⟨h6, rfl⟩))))))
      · refine wpf e1 (wpj (wpj ?_))
        by_cases e2 : a1 < 2
        · exact wpt e2 (wp_of rfl (wp_of rfl (wpj (wpf h1 (wpf h2 (wpf e0 (wpf e1 (wpj (wpj (wpt e2 ⟨rfl, rfl⟩))))))))))
        · refine wpf e2 ?_
          by_cases e3 : nI k ≤ a1 - 2
          · exact wpt (by rw [h3]; exact e3) (wp_of rfl (wp_of rfl (wpj (wpf h1 (wpf h2 (wpf e0 (wpf e1 (wpj (wpj (wpf e2 (wpt (by rw [h4]; exact e3) ⟨rfl, rfl⟩)))))))))))
          · obtain ⟨i, hi, e⟩ := a_sub2 hk e2 e3
            refine wpf (by rw [h3]; exact e3) (wpt (by rw [e]; simp (disch := first | omega | decide) only [↓neg1, nlit, rI, rL, rI2, rL1, nI_add, pk_mul, sbT, dvT, nmd, ixT, ↓ibT, ltT, ltF, leT, leF, eqT, eqF, nM_ltT, nM_ltF, nM_leT, nM_leF, nM_eqF, nM_eqF', nbT0, nbT1, oI_s, oI_n, natF, natT, nltT, nltF, nleT, nleF, ↓reduceIte, lgc, not_true_eq_false, not_false_eq_true, or_false, false_or, or_true, true_or, and_true, true_and, and_false, false_and, ne_eq, eq_self, or_self, and_self]) (wp_of rfl (wp_of rfl (wpj (wpf h1 (wpf h2 (wpf e0 (wpf e1 (wpj (wpj (wpf e2 (wpf (by rw [h4]; exact e3) (wpt (by rw [e]; simp (disch := first | omega | decide) only [↓neg1, nlit, rI, rL, rI2, rL1, nI_add, pk_mul, sbT, dvT, nmd, ixT, ↓ibT, ltT, ltF, leT, leF, eqT, eqF, nM_ltT, nM_ltF, nM_leT, nM_leF, nM_eqF, nM_eqF', nbT0, nbT1, oI_s, oI_n, natF, natT, nltT, nltF, nleT, nleF, ↓reduceIte, lgc, not_true_eq_false, not_false_eq_true, or_false, false_or, or_true, true_or, and_true, true_and, and_false, false_and, ne_eq, eq_self, or_self, and_self]) ⟨?_, rfl⟩)))))))))))))
            show c.1 171 (ix (a1 - 2)) = v.1 261 (ix (a1 - 2))
            rw [e, ix_n (by omega)]
            exact h7 i hi
end WRD
