/-! checks that the reference puts in -/
def ixx (o : Nat) (x : Nat × Nat × Nat × Nat × Nat) : Nat := ((40 * x.1 + x.2.1) * 4 + o) * 4 + x.2.2.1
theorem wvl {n o : Nat} {w : cS} {L : List (Nat × Nat × Nat × Nat × Nat)} (hn : 10000 ≤ n) (ho : o < 4) (hE : ERR w L) (hl : L.length ≤ 2048) (hin : ∀ x, x ∈ L → x.1 < 96 ∧ x.2.1 < 40 ∧ x.2.2.1 < 4) (hun : ∀ x y, x ∈ L → y ∈ L → x.1 = y.1 → x.2.1 = y.2.1 → x.2.2.1 = y.2.2.1 → x.2.2.2.2 = y.2.2.2.2) :
    wp (whl (R := (cS)) (fun s17 : Int32 × cS =>
            if (s17.2.1 174 91) ≤ s17.1 then
              some (.inr s17.2)
            else
              if ib s17.1 15360 then
              if ib s17.1 15360 then
              if ib s17.1 15360 then
              Option.bind (d_463 n ((40 * (s17.2.1 241 (ix s17.1))) + (s17.2.1 242 (ix s17.1))) (nI o) (s17.2.1 243 (ix s17.1))) (fun v21 =>
              if ib s17.1 15360 then
              if ib v21 61440 then
              lt (pI s17.2 250 (ix v21) (s17.2.1 245 (ix s17.1))) (fun c24 =>
              lt (s17.1 + 1 : Int32) (fun v27 =>
              some (.inl (v27, c24))))
              else none
              else none)
              else none
              else none
              else none) n (0, w)) (fun w' => sx (fun a _ => decide (a = 250)) w w' ∧ (∀ x, x ∈ L → w'.1 250 (ixx o x) = nI x.2.2.2.2) ∧ ∀ t, (∀ x, x ∈ L → t ≠ ixx o x) → w'.1 250 t = w.1 250 t) := by
  refine whl_cnt (fun j (st : Int32 × cS) => st.1 = nI j ∧ sx (fun a _ => decide (a = 250)) w st.2 ∧ (∀ i x, i < j → L[i]? = some x → st.2.1 250 (ixx o x) = nI x.2.2.2.2) ∧ ∀ t, (∀ x, x ∈ L → t ≠ ixx o x) → st.2.1 250 t = w.1 250 t) L.length ?_ ?_ (by omega) ⟨rfl, sx_rfl, fun i x hi => by omega, fun t ht => rfl⟩
  · rintro j ⟨a, y⟩ hj ⟨g1, g2, g3, g4⟩
    dsimp only at g1 g2 g3 g4
    subst g1
    obtain ⟨x, hx⟩ : ∃ x, L[j]? = some x := ⟨L[j], List.getElem?_eq_getElem hj⟩
    have hm := List.mem_of_getElem? hx
    obtain ⟨x1, x2, x3⟩ := hin x hm
    obtain ⟨r1, r2, r3, r4, r5⟩ := hE.2 j x hx
    have q0 : y.1 174 91 = nI L.length := (g2.1 174 91 rfl).trans hE.1
    have q1 : y.1 241 j = nI x.1 := (g2.1 241 j rfl).trans r1
    have q2 : y.1 242 j = nI x.2.1 := (g2.1 242 j rfl).trans r2
    have q3 : y.1 243 j = nI x.2.2.1 := (g2.1 243 j rfl).trans r3
    have q5 : y.1 245 j = nI x.2.2.2.2 := (g2.1 245 j rfl).trans r5
    refine wpf (by dsimp only; rw [q0]; simp (disch := first | omega | decide) only [↓neg1, nlit, rI, rL, rI2, rL1, nI_add, pk_mul, sbT, dvT, nmd, ixT, ↓ibT, ltT, ltF, leT, leF, eqT, eqF, nM_ltT, nM_ltF, nM_leT, nM_leF, nM_eqF, nM_eqF', nbT0, nbT1, oI_s, oI_n, natF, natT, nltT, nltF, nleT, nleF, ↓reduceIte, lgc, not_true_eq_false, not_false_eq_true, or_false, false_or, or_true, true_or, and_true, true_and, and_false, false_and, ne_eq, eq_self, or_self, and_self]) (wpt (by simp (disch := first | omega | decide) only [↓neg1, nlit, rI, rL, rI2, rL1, nI_add, pk_mul, sbT, dvT, nmd, ixT, ↓ibT, ltT, ltF, leT, leF, eqT, eqF, nM_ltT, nM_ltF, nM_leT, nM_leF, nM_eqF, nM_eqF', nbT0, nbT1, oI_s, oI_n, natF, natT, nltT, nltF, nleT, nleF, ↓reduceIte, lgc, not_true_eq_false, not_false_eq_true, or_false, false_or, or_true, true_or, and_true, true_and, and_false, false_and, ne_eq, eq_self, or_self, and_self]) (wpt (by simp (disch := first | omega | decide) only [↓neg1, nlit, rI, rL, rI2, rL1, nI_add, pk_mul, sbT, dvT, nmd, ixT, ↓ibT, ltT, ltF, leT, leF, eqT, eqF, nM_ltT, nM_ltF, nM_leT, nM_leF, nM_eqF, nM_eqF', nbT0, nbT1, oI_s, oI_n, natF, natT, nltT, nltF, nleT, nleF, ↓reduceIte, lgc, not_true_eq_false, not_false_eq_true, or_false, false_or, or_true, true_or, and_true, true_and, and_false, false_and, ne_eq, eq_self, or_self, and_self]) (wpt (by simp (disch := first | omega | decide) only [↓neg1, nlit, rI, rL, rI2, rL1, nI_add, pk_mul, sbT, dvT, nmd, ixT, ↓ibT, ltT, ltF, leT, leF, eqT, eqF, nM_ltT, nM_ltF, nM_leT, nM_leF, nM_eqF, nM_eqF', nbT0, nbT1, oI_s, oI_n, natF, natT, nltT, nltF, nleT, nleF, ↓reduceIte, lgc, not_true_eq_false, not_false_eq_true, or_false, false_or, or_true, true_or, and_true, true_and, and_false, false_and, ne_eq, eq_self, or_self, and_self]) ?_)))
    dsimp only
    rw [ix_n (by omega), q1, q2, q3, q5]
    refine wpe (show d_463 n (40 * nI x.1 + nI x.2.1) (nI o) (nI x.2.2.1) = some (nI (ixx o x)) by
      unfold d_463 ixx
      rw [show (40 : Int32) = nI 40 from rfl, show (4 : Int32) = nI 4 from rfl, pk_mul, nI_add, pk_mul, nI_add, pk_mul, nI_add]) ?_
    have hb : ixx o x < 61440 := by
      unfold ixx
      omega
    refine wpt (by simp (disch := first | omega | decide) only [↓neg1, nlit, rI, rL, rI2, rL1, nI_add, pk_mul, sbT, dvT, nmd, ixT, ↓ibT, ltT, ltF, leT, leF, eqT, eqF, nM_ltT, nM_ltF, nM_leT, nM_leF, nM_eqF, nM_eqF', nbT0, nbT1, oI_s, oI_n, natF, natT, nltT, nltF, nleT, nleF, ↓reduceIte, lgc, not_true_eq_false, not_false_eq_true, or_false, false_or, or_true, true_or, and_true, true_and, and_false, false_and, ne_eq, eq_self, or_self, and_self]) (wpt (by simp (disch := first | omega | decide) only [↓neg1, nlit, rI, rL, rI2, rL1, nI_add, pk_mul, sbT, dvT, nmd, ixT, ↓ibT, ltT, ltF, leT, leF, eqT, eqF, nM_ltT, nM_ltF, nM_leT, nM_leF, nM_eqF, nM_eqF', nbT0, nbT1, oI_s, oI_n, natF, natT, nltT, nltF, nleT, nleF, ↓reduceIte, lgc, not_true_eq_false, not_false_eq_true, or_false, false_or, or_true, true_or, and_true, true_and, and_false, false_and, ne_eq, eq_self, or_self, and_self]) (wpl (wpl ?_)))
    rw [ix_n (by omega)]
    refine ⟨nI_1 _, sx_pI g2 rfl, fun i z hi hz => ?_, fun t ht => ?_⟩
    · show (pI y 250 (ixx o x) (nI x.2.2.2.2)).1 250 _ = _
      rw [rI]
      have hmz := List.mem_of_getElem? hz
      obtain ⟨z1, z2, z3⟩ := hin z hmz
      by_cases e : ixx o z = ixx o x
      · rw [if_pos ⟨rfl, e⟩]
        unfold ixx at e
        exact congrArg nI (hun x z hm hmz (by omega) (by omega) (by omega))
      · rw [if_neg (fun q => e q.2)]
        by_cases ei : i = j
        · subst ei
          rw [hx] at hz
          cases hz
          exact absurd rfl e
        · exact g3 i z (by omega) hz
    · show (pI y 250 (ixx o x) (nI x.2.2.2.2)).1 250 _ = _
      rw [rI, if_neg (fun q => ht x hm q.2)]
      exact g4 t ht
  · rintro ⟨a, y⟩ ⟨g1, g2, g3, g4⟩
    dsimp only at g1 g2 g3 g4
    subst g1
    have q0 : y.1 174 91 = nI L.length := (g2.1 174 91 rfl).trans hE.1
    refine wpt (by dsimp only; rw [q0]; simp (disch := first | omega | decide) only [↓neg1, nlit, rI, rL, rI2, rL1, nI_add, pk_mul, sbT, dvT, nmd, ixT, ↓ibT, ltT, ltF, leT, leF, eqT, eqF, nM_ltT, nM_ltF, nM_leT, nM_leF, nM_eqF, nM_eqF', nbT0, nbT1, oI_s, oI_n, natF, natT, nltT, nltF, nleT, nleF, ↓reduceIte, lgc, not_true_eq_false, not_false_eq_true, or_false, false_or, or_true, true_or, and_true, true_and, and_false, false_and, ne_eq, eq_self, or_self, and_self]) ⟨g2, fun x hx => ?_, g4⟩
    obtain ⟨i, hi, rfl⟩ := List.getElem_of_mem hx
    exact g3 i _ hi (List.getElem?_eq_getElem hi)
/-- checks as both keep them, once put in -/
def LLP (m c : cS) (LL : Nat → List (Nat × Nat × Nat × Nat × Nat)) (N : Nat) : Prop := ∀ o x, o < N → x ∈ LL o → isMt m x.1 ∧ x.2.1 < acn m x.1 ∧ x.2.2.1 < wnt m (40 * x.1 + x.2.1) ∧ x.2.2.2.2 = TM m c (wtp m x.1 (40 * x.1 + x.2.1) x.2.2.1) o
def BTL (m c : cS) (LL : Nat → List (Nat × Nat × Nat × Nat × Nat)) (N : Nat) : Prop := BT m c (fun M i t => ∃ o x, o < N ∧ x ∈ LL o ∧ x.1 = M ∧ x.2.1 = i ∧ 4 * o + x.2.2.1 = t)
def CKL (u : cS) (LL : Nat → List (Nat × Nat × Nat × Nat × Nat)) (N : Nat) : Prop := (∀ o x, o < N → x ∈ LL o → u.1 250 (ixx o x) = nI x.2.2.2.2) ∧ ∀ t, t < 61440 → (∀ o x, o < N → x ∈ LL o → t ≠ ixx o x) → u.1 250 t = nM
def CHK (m c u : cS) : Prop := (u.1 174 106 = nI 0 ∧ BT m c (fun _ _ _ => False)) ∨ (u.1 174 106 = nI 1 ∧ c.1 146 8 = nI 0 ∧ ∃ LL, LLP m c LL (ocn m) ∧ BTL m c LL (ocn m) ∧ CKL u LL (ocn m))
