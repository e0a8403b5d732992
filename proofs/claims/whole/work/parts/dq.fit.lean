/-! READING MARKS: may it stand there, may it stand twice -/
section FIT
variable {n t s k w oc kc : Nat} {c d u : cS}
/-- whether a MARK of KIND or ORDER t fits where w: 0..3 at a PLACE, 4 behind =, 5 behind adds, 6 in an ACT -/
def ftW (u : cS) (t w : Nat) : Bool := if w = 4 then true else if w = 6 then decide (100 ≤ t) else cst u t (if w = 5 then 0 else w)
def aw (w : Nat) : Nat := if w = 4 then 15 else if w = 5 then 1 else if w = 6 then 16 else 2 ^ w
theorem e250 (ht : t < 12 ∨ (100 ≤ t ∧ t < 104)) (hK : t < 12 → RK c u t) (hs : s < 4) : d_250 n (nI t) (nI s) c = some (bI (cst u t s)) := by
  unfold d_250
  refine eq_wp (wpj ?_)
  by_cases e : t < 100
  · have hk := hK (by omega)
    obtain ⟨-, -, -, -, -, w1, w2, w3, -⟩ := hk
    have hc : cst u t s = (kw u t).testBit s := if_pos e
    rw [hc]
    refine wpt (by simp (disch := first | omega | decide) only [↓neg1, nlit, rI, rL, rI2, rL1, nI_add, pk_mul, sbT, dvT, nmd, ixT, ↓ibT, ltT, ltF, leT, leF, eqT, eqF, nM_ltT, nM_ltF, nM_leT, nM_leF, nM_eqF, nM_eqF', nbT0, nbT1, oI_s, oI_n, natF, natT, nltT, nltF, nleT, nleF, ↓reduceIte, lgc, not_true_eq_false, not_false_eq_true, or_false, false_or, or_true, true_or, and_true, true_and, and_false, false_and, ne_eq, eq_self, or_self, and_self]) (wpt (ib_n (by omega) (by decide)) ?_)
    rw [ix_n (show t < 2147483648 by omega), w3]
    have hb := bit_n (u := kw u t) (b := s) (by omega) (by omega)
    cases hq : (kw u t).testBit s with
    | false => exact wpt (hb.mpr hq) (wpt (show nb (0 : Int32) by decide) rfl)
    | true => exact wpf (fun z => by rw [hb.mp z] at hq; cases hq) (wpt (show nb (1 : Int32) by decide) rfl)
  · have hc : cst u t s = decide (s ≠ 0) := if_neg e
    rw [hc]
    refine wpf (by simp (disch := first | omega | decide) only [↓neg1, nlit, rI, rL, rI2, rL1, nI_add, pk_mul, sbT, dvT, nmd, ixT, ↓ibT, ltT, ltF, leT, leF, eqT, eqF, nM_ltT, nM_ltF, nM_leT, nM_leF, nM_eqF, nM_eqF', nbT0, nbT1, oI_s, oI_n, natF, natT, nltT, nltF, nleT, nleF, ↓reduceIte, lgc, not_true_eq_false, not_false_eq_true, or_false, false_or, or_true, true_or, and_true, true_and, and_false, false_and, ne_eq, eq_self, or_self, and_self]) ?_
    by_cases e2 : s = 0
    · rw [decide_eq_false (fun z => z e2)]
      exact wpt (by rw [e2]; rfl) (wpt (show nb (0 : Int32) by decide) rfl)
    · rw [decide_eq_true e2]
      exact wpf (fun z => e2 ((nI_eq (by omega) (by decide)).mp (show _ = nI 0 from z))) (wpt (show nb (1 : Int32) by decide) rfl)
theorem e275 (ht : t < 12 ∨ (100 ≤ t ∧ t < 104)) (hK : t < 12 → RK c u t) (hw : w ≤ 6) : d_275 n (nI t) (nI w) c = some (bI (ftW u t w)) := by
  have h1 : nb (1 : Int32) := by decide
  have h0 : nb (0 : Int32) := by decide
  by_cases e4 : w = 4
  · rw [show ftW u t w = true from if_pos e4]
    unfold d_275
    exact eq_wp (wpt (by rw [e4]; rfl) rfl)
  by_cases e5 : w = 5
  · rw [show ftW u t w = cst u t 0 by unfold ftW; rw [if_neg e4, if_neg (by omega), if_pos e5]]
    unfold d_275
    exact eq_wp (wpf (by rw [e5]; decide) (wpt (by rw [e5]; rfl) (wpe (e250 (s := 0) ht hK (by decide)) (wpt bI_nb rfl))))
  by_cases e6 : w = 6
  · rw [show ftW u t w = decide (100 ≤ t) by unfold ftW; rw [if_neg e4, if_pos e6]]
    unfold d_275
    refine eq_wp (wpf (by rw [e6]; decide) (wpf (by rw [e6]; decide) (wpt (by rw [e6]; rfl) (wpj ?_))))
    by_cases e : t < 100
    · rw [decide_eq_false (by omega)]
      exact wpt (by simp (disch := first | omega | decide) only [↓neg1, nlit, rI, rL, rI2, rL1, nI_add, pk_mul, sbT, dvT, nmd, ixT, ↓ibT, ltT, ltF, leT, leF, eqT, eqF, nM_ltT, nM_ltF, nM_leT, nM_leF, nM_eqF, nM_eqF', nbT0, nbT1, oI_s, oI_n, natF, natT, nltT, nltF, nleT, nleF, ↓reduceIte, lgc, not_true_eq_false, not_false_eq_true, or_false, false_or, or_true, true_or, and_true, true_and, and_false, false_and, ne_eq, eq_self, or_self, and_self]) (wpt h0 rfl)
    · rw [decide_eq_true (by omega)]
      exact wpf (by simp (disch := first | omega | decide) only [↓neg1, nlit, rI, rL, rI2, rL1, nI_add, pk_mul, sbT, dvT, nmd, ixT, ↓ibT, ltT, ltF, leT, leF, eqT, eqF, nM_ltT, nM_ltF, nM_leT, nM_leF, nM_eqF, nM_eqF', nbT0, nbT1, oI_s, oI_n, natF, natT, nltT, nltF, nleT, nleF, ↓reduceIte, lgc, not_true_eq_false, not_false_eq_true, or_false, false_or, or_true, true_or, and_true, true_and, and_false, false_and, ne_eq, eq_self, or_self, and_self]) (wpt h1 rfl)
  rw [show ftW u t w = cst u t w by unfold ftW; rw [if_neg e4, if_neg e6, if_neg e5]]
  unfold d_275
  exact eq_wp (wpf (fun z => e4 ((nI_eq (by omega) (by decide)).mp (show _ = nI 4 from z))) (wpf (fun z => e5 ((nI_eq (by omega) (by decide)).mp (show _ = nI 5 from z))) (wpf (fun z => e6 ((nI_eq (by omega) (by decide)).mp (show _ = nI 6 from z))) (wpe (e250 ht hK (by omega)) (wpt bI_nb rfl)))))
theorem e251 (ht : t < 12 ∨ (100 ≤ t ∧ t < 104)) (hK : t < 12 → RK c u t) : d_251 n (nI t) c = some (bI (mny u t)) := by
  have h1 : nb (1 : Int32) := by decide
  have h0 : nb (0 : Int32) := by decide
  unfold d_251
  refine eq_wp (wpj (wpj ?_))
  by_cases e : t < 100
  · obtain ⟨-, -, -, -, -, -, -, -, -, -, m1, m2⟩ := hK (by omega)
    refine wpf (by simp (disch := first | omega | decide) only [↓neg1, nlit, rI, rL, rI2, rL1, nI_add, pk_mul, sbT, dvT, nmd, ixT, ↓ibT, ltT, ltF, leT, leF, eqT, eqF, nM_ltT, nM_ltF, nM_leT, nM_leF, nM_eqF, nM_eqF', nbT0, nbT1, oI_s, oI_n, natF, natT, nltT, nltF, nleT, nleF, ↓reduceIte, lgc, not_true_eq_false, not_false_eq_true, or_false, false_or, or_true, true_or, and_true, true_and, and_false, false_and, ne_eq, eq_self, or_self, and_self]) (wpt (ib_n (by omega) (by decide)) ?_)
    rw [ix_n (show t < 2147483648 by omega), m2]
    unfold mny
    rw [decide_eq_true e]
    rcases m1 with z | z
    · rw [z]
      exact wpt rfl (wpt h0 rfl)
    · rw [z]
      exact wpf (by decide) (wpt h1 rfl)
  · refine wpt (by simp (disch := first | omega | decide) only [↓neg1, nlit, rI, rL, rI2, rL1, nI_add, pk_mul, sbT, dvT, nmd, ixT, ↓ibT, ltT, ltF, leT, leF, eqT, eqF, nM_ltT, nM_ltF, nM_leT, nM_leF, nM_eqF, nM_eqF', nbT0, nbT1, oI_s, oI_n, natF, natT, nltT, nltF, nleT, nleF, ↓reduceIte, lgc, not_true_eq_false, not_false_eq_true, or_false, false_or, or_true, true_or, and_true, true_and, and_false, false_and, ne_eq, eq_self, or_self, and_self]) (wpt h0 ?_)
    unfold mny
    rw [decide_eq_false e]
    rfl
/-- what the reference reckons of where -/
theorem cst_and {K : Nat} (hK : K < 16) (hs : s < 4) : (nI K &&& nI (2 ^ s) = 0) ↔ K.testBit s = false := by
  have h : ∀ K : Fin 16, ∀ s : Fin 4, (nI K.1 &&& nI (2 ^ s.1) = 0) ↔ K.1.testBit s.1 = false := by decide
  exact h ⟨K, hK⟩ ⟨s, hs⟩
end FIT
