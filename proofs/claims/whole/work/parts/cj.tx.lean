/-! WIRING: values of MEMBERS -/
section TX
variable {n t p s vs : Nat} {a : Int64} {c d m u : cS}
/-- a MEMBER's value in the first MARK that is EFFECTIVE, if it is of the sort vs; else 0 -/
def mvx (m : cS) (t p vs : Nat) (a : Int64) : Int64 := match jOf m t a with
  | none => 0
  | some j => match efm m t (eff m t 13 p 0) 0 with
    | none => 0
    | some y => if mbS m y t j = nI vs then mbV m y t j else 0
theorem mvx_n (h : jOf m t a = none) : mvx m t p vs a = 0 := by
  unfold mvx
  rw [h]
theorem mvx_s {j y : Nat} (h : jOf m t a = some j) (hy : efm m t (eff m t 13 p 0) 0 = some y) : mvx m t p vs a = if mbS m y t j = nI vs then mbV m y t j else 0 := by
  unfold mvx
  rw [h, hy]
theorem e346 (hn : 1000 ≤ n) (hE : EC c m) (hP : isP m p s) (ht : t < kcn m) (he : 0 < (eff m t 13 p 0).1) (hd : sx qS c d) (hf : EFC c (eff m t 13 p 0) d) (hvs : vs = 1 ∨ vs = 2) : d_346 n (nI t) a (nI vs) d = some (mvx m t p vs a) := by
  obtain ⟨k1, -, k3, k4, k5, k6, k7, -⟩ := id hE.2.1
  obtain ⟨y, y1, y2, y3, y4, y5⟩ := e185 (n := n) (i := 0) hn hE hP (Or.inl ht) rfl he hd hf
  have hcd := CA_sx hd nC_qS
  have hK := RK_CA hcd (by omega) (k4 t ht)
  have hM := MKR_CA hcd y3
  have hx := y3.1
  have h218 := e218 (n := n) (d := t) (v := a) (c := d) (m := m) (by omega) hK.2.1 hK.2.2.2.1 (fun j hj => (hK.2.2.2.2.1 j hj).1)
  unfold d_346
  refine eq_wp (wpt (by simp (disch := first | omega | decide) only [↓neg1, nlit, rI, rL, rI2, rL1, nI_add, pk_mul, sbT, dvT, nmd, ixT, ↓ibT, ltT, ltF, leT, leF, eqT, eqF, nM_ltT, nM_ltF, nM_leT, nM_leF, nM_eqF, nM_eqF', nbT0, nbT1, oI_s, oI_n, natF, natT, nltT, nltF, nleT, nleF, ↓reduceIte, lgc, not_true_eq_false, not_false_eq_true, or_false, false_or, or_true, true_or, and_true, true_and, and_false, false_and, ne_eq, eq_self, or_self, and_self]) ?_)
  rw [ix_n (by omega)]
  refine wpe h218 (wpe y2 (wpj ?_))
  cases hj : jOf m t a with
  | none =>
    rw [mvx_n hj]
    exact wpt (by decide) rfl
  | some j =>
    have hjl : j < kn m t := (ff_some hj).1
    have h4 := hK.2.1
    refine wpf (by rw [oI_s]; simp (disch := first | omega | decide) only [↓neg1, nlit, rI, rL, rI2, rL1, nI_add, pk_mul, sbT, dvT, nmd, ixT, ↓ibT, ltT, ltF, leT, leF, eqT, eqF, nM_ltT, nM_ltF, nM_leT, nM_leF, nM_eqF, nM_eqF', nbT0, nbT1, oI_s, oI_n, natF, natT, nltT, nltF, nleT, nleF, ↓reduceIte, lgc, not_true_eq_false, not_false_eq_true, or_false, false_or, or_true, true_or, and_true, true_and, and_false, false_and, ne_eq, eq_self, or_self, and_self]) (wpf (by simp (disch := first | omega | decide) only [↓neg1, nlit, rI, rL, rI2, rL1, nI_add, pk_mul, sbT, dvT, nmd, ixT, ↓ibT, ltT, ltF, leT, leF, eqT, eqF, nM_ltT, nM_ltF, nM_leT, nM_leF, nM_eqF, nM_eqF', nbT0, nbT1, oI_s, oI_n, natF, natT, nltT, nltF, nleT, nleF, ↓reduceIte, lgc, not_true_eq_false, not_false_eq_true, or_false, false_or, or_true, true_or, and_true, true_and, and_false, false_and, ne_eq, eq_self, or_self, and_self]) (wpe (e232 hn hK hjl hM y4) ?_))
    by_cases e : mbS m y t j = nI vs
    · rw [show mvx m t p vs a = mbV m y t j by rw [mvx_s hj y1, if_pos e]]
      exact wpt e (wpe (e233v hn hK hjl hM y4 (by rcases hvs with rfl | rfl; exact Or.inl e; exact Or.inr e)) rfl)
    · rw [show mvx m t p vs a = 0 by rw [mvx_s hj y1, if_neg e]]
      exact wpf e rfl
/-- the reference: sx of what it leaves -/
def q79 (A i : Nat) : Bool := decide (A = 174 ∧ i = 79)
theorem e474 {y : Nat} (hn : 1000 ≤ n) (hA : AG m u) (hE : EC c m) (ht : t < kcn m) (hy : efm m t (eff m t 13 p 0) 0 = some y) (hM : MR m y) : wp (d_474 n (nI y) (nI t) a u) (fun r => r.1 = mvx m t p 2 a ∧ sx q79 u r.2) := by
  obtain ⟨k1, -, k3, k4, k5, k6, k7, -⟩ := id hE.2.1
  have hK := k4 t ht
  have h378 := e378 (n := n) (d := t) (v := a) (by omega) hA (by omega) hK.2.1 hK.2.2.1
  unfold d_474
  refine wpe h378 (wpj (wpj ?_))
  cases hj : jOf m t a with
  | none => exact wpt (by decide) ⟨(mvx_n hj).symm, sx_rfl⟩
  | some j =>
    have hjl : j < kn m t := (ff_some hj).1
    have h4 := hK.2.1
    refine wpf (by rw [oI_s]; simp (disch := first | omega | decide) only [↓neg1, nlit, rI, rL, rI2, rL1, nI_add, pk_mul, sbT, dvT, nmd, ixT, ↓ibT, ltT, ltF, leT, leF, eqT, eqF, nM_ltT, nM_ltF, nM_leT, nM_leF, nM_eqF, nM_eqF', nbT0, nbT1, oI_s, oI_n, natF, natT, nltT, nltF, nleT, nleF, ↓reduceIte, lgc, not_true_eq_false, not_false_eq_true, or_false, false_or, or_true, true_or, and_true, true_and, and_false, false_and, ne_eq, eq_self, or_self, and_self]) (wpe (e429 hn hA (by omega) hK hjl hM) ?_)
    by_cases e : mbS m y t j = nI 2
    · refine wpt e ⟨?_, sx_pL sx_rfl rfl⟩
      rw [mvx_s hj hy, if_pos e]
      dsimp only
      rw [rL, if_pos ⟨rfl, rfl⟩]
    · refine wpf e ⟨?_, sx_pL sx_rfl rfl⟩
      rw [mvx_s hj hy, if_neg e]
def mht (m : cS) (t p : Nat) (a : Int64) : Bool := match jOf m t a with
  | none => false
  | some j => match efm m t (eff m t 13 p 0) 0 with
    | none => false
    | some y => decide (mbS m y t j = nI 2)
theorem mht_f (h : mht m t p a = false) : mvx m t p 2 a = 0 := by
  unfold mht at h
  unfold mvx
  cases hj : jOf m t a with
  | none => rfl
  | some j =>
    rw [hj] at h
    dsimp only at h ⊢
    cases hy : efm m t (eff m t 13 p 0) 0 with
    | none => rfl
    | some y =>
      rw [hy] at h
      dsimp only at h ⊢
      rw [if_neg (of_decide_eq_false h)]
theorem e475 {y : Nat} (hn : 1000 ≤ n) (hA : AG m u) (hE : EC c m) (ht : t < kcn m) (hy : efm m t (eff m t 13 p 0) 0 = some y) (hM : MR m y) : wp (d_475 n (nI y) (nI t) a u) (fun r => (r.1 = 0 ↔ mht m t p a = false) ∧ sx q79 u r.2) := by
  obtain ⟨k1, -, k3, k4, k5, k6, k7, -⟩ := id hE.2.1
  have hK := k4 t ht
  have h378 := e378 (n := n) (d := t) (v := a) (by omega) hA (by omega) hK.2.1 hK.2.2.1
  unfold d_475
  refine wpe h378 (wpj (wpj ?_))
  cases hj : jOf m t a with
  | none => exact wpt (by decide) (wpt (show nb (0 : Int32) by decide) ⟨⟨fun _ => by unfold mht; rw [hj], fun _ => rfl⟩, sx_rfl⟩)
  | some j =>
    have hjl : j < kn m t := (ff_some hj).1
    have h4 := hK.2.1
    have hm : mht m t p a = decide (mbS m y t j = nI 2) := by
      unfold mht
      rw [hj, hy]
    refine wpf (by rw [oI_s]; simp (disch := first | omega | decide) only [↓neg1, nlit, rI, rL, rI2, rL1, nI_add, pk_mul, sbT, dvT, nmd, ixT, ↓ibT, ltT, ltF, leT, leF, eqT, eqF, nM_ltT, nM_ltF, nM_leT, nM_leF, nM_eqF, nM_eqF', nbT0, nbT1, oI_s, oI_n, natF, natT, nltT, nltF, nleT, nleF, ↓reduceIte, lgc, not_true_eq_false, not_false_eq_true, or_false, false_or, or_true, true_or, and_true, true_and, and_false, false_and, ne_eq, eq_self, or_self, and_self]) (wpe (e429 hn hA (by omega) hK hjl hM) ?_)
    by_cases e : mbS m y t j = nI 2
    · refine wpt e (wpt (show nb (1 : Int32) by decide) ⟨⟨fun z => absurd (show (1 : Int32) = 0 from z) (by decide), fun z => ?_⟩, sx_pL sx_rfl rfl⟩)
      rw [hm, decide_eq_true e] at z
      cases z
    · exact wpf e (wpt (show nb (0 : Int32) by decide) ⟨⟨fun _ => hm.trans (decide_eq_false e), fun _ => rfl⟩, sx_pL sx_rfl rfl⟩)
end TX
