/-! rounds: which MAKER makes at which CLASS -/
section MK1S
variable {n k M : Nat} {c d m u v w : cS}
/-- the KIND of a MAKER; whether it makes at a CLASS -/
def mkd (m : cS) (M : Nat) : Nat := ix (m.1 199 M)
def mkB (m : cS) (M k : Nat) : Bool := decide (0 < (eff m (mkd m M) 13 (100 * k) 0).1)
theorem eff_20 {t p s : Nat} (hE : EC c m) (hP : isP m p s) : (eff m t 13 p 0).1 ≤ 20 := by
  by_cases h : 0 < (eff m t 13 p 0).1
  · exact (eff_ok hE hP rfl h).2.1
  · omega
theorem mkd_of (h : MMS c m) (h12 : kcn m ≤ 12) (hM : M < mcn m) : mkd m M < kcn m ∧ c.1 11 M = nI (mkd m M) ∧ m.1 199 M = nI (mkd m M) ∧ isKy m (mkd m M) := by
  obtain ⟨-, ⟨d, d1, d2, d3⟩, -⟩ := h.2.2.2 M hM
  have e : mkd m M = d := by
    unfold mkd
    rw [d3]
    exact ix_n (by omega)
  rw [e]
  exact ⟨d1, d2, d3, Or.inl d1⟩
def p1I (n : Nat) (a : Int32) (s7 : Int32 × cS) : Option ((Int32 × cS) ⊕ cS) :=
        if (s7.2.1 7 10) ≤ s7.1 then
          some (.inr s7.2)
        else
          if ib a 6 then
          if ib a 6 then
          Option.bind (d_180 n (100 * s7.1) (s7.2.1 11 (ix a)) s7.2) (fun r10 =>
          jn (fun p11 : Int32 =>
            if ib a 6 then
            lt (pI r10.2 149 (ix a) ((s7.2.1 149 (ix a)) ||| p11)) (fun c13 =>
            lt (s7.1 + 1 : Int32) (fun v16 =>
            some (.inl (v16, c13))))
            else none)
          (fun j67 =>
          if r10.1 ≤ 0 then
            j67 0
          else
            j67 (1 <<< (s7.1 &&& 31))))
          else none
          else none
def p1O (n : Nat) (s2 : Int32 × cS) : Option ((Int32 × cS) ⊕ cS) :=
    if (s2.2.1 7 7) ≤ s2.1 then
      some (.inr s2.2)
    else
      if ib s2.1 6 then
      lt (pI s2.2 149 (ix s2.1) 0) (fun c4 =>
      Option.bind (whl (p1I n s2.1) n (0, c4))
      (fun x18 : cS =>
        lt (s2.1 + 1 : Int32) (fun v20 =>
        some (.inl (v20, x18)))))
      else none
def p2I (n : Nat) (a : Int32) (s27 : Int32 × Int32 × cS) : Option ((Int32 × Int32 × cS) ⊕ (Int32 × cS)) :=
          if (s27.2.2.1 7 10) ≤ s27.2.1 then
            some (.inr (s27.1, s27.2.2))
          else
            if ib a 6 then
            jn (fun p29 : Int32 × cS =>
              lt (s27.2.1 + 1 : Int32) (fun v31 =>
              some (.inl (p29.1, v31, p29.2))))
            (fun j138 =>
            if (((s27.2.2.1 149 (ix a)) >>> (s27.2.1 &&& 31)) &&& 1) = 0 then
              j138 (s27.1, s27.2.2)
            else
              Option.bind (d_195 n (100 * s27.2.1) (1212 + a) s27.2.2) (fun r33 =>
              lt ((s27.1 ||| r33.1) : Int32) (fun v35 =>
              j138 (v35, r33.2))))
            else none
def p2O (n : Nat) (s25 : Int32 × Int32 × cS) : Option ((Int32 × Int32 × cS) ⊕ (Int32 × cS)) :=
      if (s25.2.2.1 7 7) ≤ s25.2.1 then
        some (.inr (s25.1, s25.2.2))
      else
        Option.bind (whl (p2I n s25.2.1) n (s25.1, 0, s25.2.2))
        (fun x37 : Int32 × cS =>
          lt (s25.2.1 + 1 : Int32) (fun v39 =>
          some (.inl (x37.1, v39, x37.2))))
theorem d194_s : d_194 n c = Option.bind (whl (p1O n) n (0, c))
  (fun x22 : cS =>
    Option.bind (whl (p2O n) n (0, 0, x22))
    (fun x41 : Int32 × cS =>
      if nb x41.1 then
      some (x41.1, x41.2)
      else none)) := rfl
def r1I (n : Nat) (a : Int32) (s9 : Int32 × cS) : Option ((Int32 × cS) ⊕ cS) :=
              if (s9.2.1 174 37) ≤ s9.1 then
                some (.inr s9.2)
              else
                if ib a 6 then
                Option.bind (d_428 n (100 * s9.1) (s9.2.1 199 (ix a)) s9.2) (fun r11 =>
                jn (fun p12 : Int32 =>
                  if ib ((12 * a) + s9.1) 72 then
                  lt (pI r11 234 (ix ((12 * a) + s9.1)) (vp_nar .boolean p12)) (fun c14 =>
                  lt (s9.1 + 1 : Int32) (fun v17 =>
                  some (.inl (v17, c14))))
                  else none)
                (fun j82 =>
                if (r11.1 174 74) ≤ 0 then
                  j82 0
                else
                  j82 1))
                else none
def r1O (n : Nat) (s7 : Int32 × cS) : Option ((Int32 × cS) ⊕ cS) :=
          if (s7.2.1 174 34) ≤ s7.1 then
            some (.inr s7.2)
          else
            Option.bind (whl (r1I n s7.1) n (0, s7.2))
            (fun x19 : cS =>
              lt (s7.1 + 1 : Int32) (fun v21 =>
              some (.inl (v21, x19))))
def r2I (n : Nat) (a : Int32) (s28 : Int32 × Int32 × cS) : Option ((Int32 × Int32 × cS) ⊕ (Int32 × cS)) :=
                if (s28.2.2.1 174 37) ≤ s28.2.1 then
                  some (.inr (s28.1, s28.2.2))
                else
                  lt ((1212 + a) : Int32) (fun v30 =>
                  Option.bind (whl (rrL n v30 (100 * s28.2.1) ((12 * a) + s28.2.1)) n (s28.1, 0, s28.2.2))
                  (fun x48 : Int32 × cS =>
                    lt (s28.2.1 + 1 : Int32) (fun v50 =>
                    some (.inl (x48.1, v50, x48.2)))))
def r2O (n : Nat) (s26 : Int32 × Int32 × cS) : Option ((Int32 × Int32 × cS) ⊕ (Int32 × cS)) :=
            if (s26.2.2.1 174 34) ≤ s26.2.1 then
              some (.inr (s26.1, s26.2.2))
            else
              Option.bind (whl (r2I n s26.2.1) n (s26.1, 0, s26.2.2))
              (fun x52 : Int32 × cS =>
                lt (s26.2.1 + 1 : Int32) (fun v54 =>
                some (.inl (x52.1, v54, x52.2))))
def rLp (n : Nat) (s5 : Int32 × Int32 × cS) : Option ((Int32 × Int32 × cS) ⊕ (Int32 × cS)) :=
      if s5.2.1 = 0 then
        some (.inr (s5.1, s5.2.2))
      else
        Option.bind (whl (r1O n) n (0, s5.2.2))
        (fun x23 : cS =>
          Option.bind (whl (r2O n) n (0, 0, x23))
          (fun x56 : Int32 × cS =>
            jn (fun p57 : Int32 =>
              lt ((s5.1 + p57) : Int32) (fun v59 =>
              some (.inl (v59, x56.1, x56.2))))
            (fun j256 =>
            if x56.1 = 0 then
              j256 0
            else
              j256 1)))
theorem d124_s : d_124 n u = lt (pI u 174 0 0) (fun c1 =>
  if (c1.1 174 14) = 0 then
    some ((-1), c1)
  else
    Option.bind (whl (rLp n) n (0, 1, c1))
    (fun x61 : Int32 × cS =>
      Option.bind (d_133 n x61.2) (fun r62 =>
      some (x61.1, r62)))) := rfl
/-- what is written while it is sought -/
def qP1 (A l : Nat) : Bool := decide ((A = 146 ∧ 3 ≤ l ∧ l ≤ 5) ∨ A = 149)
def qQ1 (A l : Nat) : Bool := decide ((A = 174 ∧ 73 ≤ l ∧ l ≤ 79) ∨ A = 232 ∨ A = 233 ∨ A = 234)
theorem nC_P1 : nC qP1 := ⟨fun a i h1 h2 h3 => decide_eq_false (by omega), fun i h => decide_eq_false (by omega)⟩
theorem nP_Q1 : nP qQ1 := by
  obtain ⟨h1, h2, h3, h4, h5⟩ := nP_qR
  refine ⟨fun a i h => ?_, fun i h => ?_, fun i h => decide_eq_false (by omega), fun a i g1 g2 g3 => decide_eq_false (by omega), fun a i g1 g2 g3 => decide_eq_false (by omega)⟩
  · have h6 := of_decide_eq_false (h1 a i h)
    refine decide_eq_false (fun z => ?_)
    have : a = 234 := by omega
    subst this
    exact absurd h (by decide)
  · have h6 := of_decide_eq_false (h2 i h)
    exact decide_eq_false (by omega)
theorem dec_lt1 {j k : Nat} (h : ¬ j = k) : decide (j < k + 1) = decide (j < k) := by
  by_cases e : j < k
  · rw [decide_eq_true e, decide_eq_true (by omega)]
  · rw [decide_eq_false e, decide_eq_false (by omega)]
/-- bits of one MAKER -/
def mkWd (m c : cS) (M k : Nat) : Prop := ∃ B, B < 4096 ∧ c.1 149 M = nI B ∧ ∀ j, j < 12 → B.testBit j = (decide (j < k) && mkB m M j)
theorem p1I_go (hn : 1000 ≤ n) (hE : EC c m) (hMM : MMS c m) (hM : M < mcn m) : wp (whl (p1I n (nI M)) n (0, pI c 149 M 0)) (fun d => sx qP1 c d ∧ mkWd m d M (ccn m) ∧ ∀ M', M' ≠ M → d.1 149 M' = c.1 149 M') := by
  have hC := hE.2.2.1
  have h12 := (CCS_p hC).1
  have hm6 := hMM.1
  obtain ⟨t1, t2, t3, t4⟩ := mkd_of hMM hE.2.1.1 hM
  have hi6 : ib (nI M) 6 := ib_n (by omega) (by decide)
  have eM : ix (nI M) = M := ix_n (by omega)
  have h10 : c.1 7 10 = nI (ccn m) := hC.1.2.1
  refine whl_cnt (fun k (st : Int32 × cS) => st.1 = nI k ∧ sx qP1 c st.2 ∧ mkWd m st.2 M k ∧ ∀ M', M' ≠ M → st.2.1 149 M' = c.1 149 M') (ccn m) ?_ ?_ (by omega) ⟨rfl, sx_pI sx_rfl (decide_eq_true (by omega)), ⟨0, by omega, by rw [rI, if_pos ⟨rfl, rfl⟩]; rfl, fun j hj => by rw [Nat.zero_testBit, decide_eq_false (by omega), Bool.false_and]⟩, fun M' h => by rw [rI, if_neg (by omega)]⟩
  · rintro k ⟨a, w⟩ hk ⟨g1, g2, ⟨B, b1, b2, b3⟩, g4⟩
    dsimp only at g1 g2 b2 g4
    subst g1
    have w10 : w.1 7 10 = nI (ccn m) := (g2.1 _ _ (decide_eq_false (by omega))).trans h10
    have w11 : w.1 11 M = nI (mkd m M) := (g2.1 _ _ (decide_eq_false (by omega))).trans t2
    have hEw : EC w m := EC_CA (CA_sx g2 nC_P1) hE
    obtain ⟨r, r1, r2, r3, -⟩ := wp_ex (e180 (n := n) hn hEw (isP_C hk) t4)
    unfold p1I
    dsimp only
    rw [w10, eM, w11, b2, show (100 : Int32) * nI k = nI (100 * k) by rw [show (100 : Int32) = nI 100 from rfl, pk_mul]]
    refine wpf (by simp (disch := first | omega | decide) only [↓neg1, nlit, rI, rL, rI2, rL1, nI_add, pk_mul, sbT, dvT, nmd, ixT, ↓ibT, ltT, ltF, leT, leF, eqT, eqF, nM_ltT, nM_ltF, nM_leT, nM_leF, nM_eqF, nM_eqF', nbT0, nbT1, oI_s, oI_n, natF, natT, nltT, nltF, nleT, nleF, ↓reduceIte, lgc, not_true_eq_false, not_false_eq_true, or_false, false_or, or_true, true_or, and_true, true_and, and_false, false_and, ne_eq, eq_self, or_self, and_self]) (wpt hi6 (wpt hi6 (wpe r1 (wpj ?_))))
    have tail : ∀ (B' : Nat), B' < 4096 → (∀ j, j < 12 → B'.testBit j = (decide (j < k + 1) && mkB m M j)) → ∀ x : Int32, nI B ||| x = nI B' → wp (if ib (nI M) 6 then
            lt (pI r.2 149 M (nI B ||| x)) (fun c13 =>
            lt (nI k + 1 : Int32) (fun v16 =>
            (some (.inl (v16, c13)) : Option ((Int32 × cS) ⊕ cS))))
            else none) (Sum.elim (fun st : Int32 × cS => st.1 = nI (k + 1) ∧ sx qP1 c st.2 ∧ mkWd m st.2 M (k + 1) ∧ ∀ M', M' ≠ M → st.2.1 149 M' = c.1 149 M') (fun d => sx qP1 c d ∧ mkWd m d M (ccn m) ∧ ∀ M', M' ≠ M → d.1 149 M' = c.1 149 M')) := fun B' hB' hb x hx => by
      rw [hx]
      refine wpt hi6 (wpl (wpl ⟨nI_1 k, sx_pI (sx_trans g2 (sx_wide r3 (fun A l y => ?_))) (decide_eq_true (by omega)), ⟨B', hB', ?_, hb⟩, fun M' h => ?_⟩))
      · have := of_decide_eq_false y
        exact decide_eq_false (by omega)
      · show (pI r.2 149 M (nI B')).1 149 M = _
        rw [rI, if_pos ⟨rfl, rfl⟩]
      · show (pI r.2 149 M (nI B')).1 149 M' = _
        rw [rI, if_neg (by omega), r3.1 _ _ (decide_eq_false (by omega))]
        exact g4 M' h
    rw [r2]
    by_cases e : 0 < (eff m (mkd m M) 13 (100 * k) 0).1
    · have hb : mkB m M k = true := decide_eq_true e
      refine wpf ?_ (tail (B ||| 2 ^ k) (Nat.or_lt_two_pow (n := 12) b1 (Nat.pow_lt_pow_right (by decide) (by omega))) (fun j hj => ?_) _ ?_)
      · intro z
        have h0 : (eff m (mkd m M) 13 (100 * k) 0).1 ≤ 20 := eff_20 hEw (isP_C hk)
        exact absurd (show nI (eff m (mkd m M) 13 (100 * k) 0).1 ≤ nI 0 from z) (by simp (disch := first | omega | decide) only [↓neg1, nlit, rI, rL, rI2, rL1, nI_add, pk_mul, sbT, dvT, nmd, ixT, ↓ibT, ltT, ltF, leT, leF, eqT, eqF, nM_ltT, nM_ltF, nM_leT, nM_leF, nM_eqF, nM_eqF', nbT0, nbT1, oI_s, oI_n, natF, natT, nltT, nltF, nleT, nleF, ↓reduceIte, lgc, not_true_eq_false, not_false_eq_true, or_false, false_or, or_true, true_or, and_true, true_and, and_false, false_and, ne_eq, eq_self, or_self, and_self])
      · by_cases ej : j = k
        · rw [ej, hb, decide_eq_true (by omega), Bool.true_and]
          exact or_bit.mpr (Or.inr rfl)
        · have hbj := b3 j hj
          rw [dec_lt1 ej, ← hbj]
          cases e3 : B.testBit j with
          | true => exact or_bit.mpr (Or.inl e3)
          | false =>
            cases e4 : (B ||| 2 ^ k).testBit j with
            | false => rfl
            | true =>
              rcases or_bit.mp e4 with z | z
              · rw [e3] at z
                cases z
              · exact absurd z ej
      · rw [shl12 (by omega), nI_or]
    · have hb : mkB m M k = false := decide_eq_false e
      refine wpt ?_ (tail B b1 (fun j hj => ?_) 0 ?_)
      · rw [show (eff m (mkd m M) 13 (100 * k) 0).1 = 0 by omega]
        decide
      · by_cases ej : j = k
        · rw [b3 j hj, ej, hb, Bool.and_false, Bool.and_false]
        · rw [b3 j hj, dec_lt1 ej]
      · exact (nI_or (a := B) (b := 0)).trans (by rw [Nat.or_zero])
  · rintro ⟨a, w⟩ ⟨g1, g2, g3, g4⟩
    dsimp only at g1 g2 g3 g4
    subst g1
    have w10 : w.1 7 10 = nI (ccn m) := (g2.1 _ _ (decide_eq_false (by omega))).trans h10
    unfold p1I
    dsimp only
    rw [w10]
    exact wpt (by simp (disch := first | omega | decide) only [↓neg1, nlit, rI, rL, rI2, rL1, nI_add, pk_mul, sbT, dvT, nmd, ixT, ↓ibT, ltT, ltF, leT, leF, eqT, eqF, nM_ltT, nM_ltF, nM_leT, nM_leF, nM_eqF, nM_eqF', nbT0, nbT1, oI_s, oI_n, natF, natT, nltT, nltF, nleT, nleF, ↓reduceIte, lgc, not_true_eq_false, not_false_eq_true, or_false, false_or, or_true, true_or, and_true, true_and, and_false, false_and, ne_eq, eq_self, or_self, and_self]) ⟨g2, g3, g4⟩
theorem p1_go (hn : 1000 ≤ n) (hE : EC c m) (hMM : MMS c m) : ∃ d, whl (p1O n) n (0, c) = some d ∧ sx qP1 c d ∧ ∀ M, M < mcn m → mkWd m d M (ccn m) := by
  have hm6 := hMM.1
  refine wp_ex (whl_cnt (fun k (st : Int32 × cS) => st.1 = nI k ∧ sx qP1 c st.2 ∧ ∀ M, M < k → mkWd m st.2 M (ccn m)) (mcn m) ?_ ?_ (by omega) ⟨rfl, sx_rfl, fun M hM => absurd hM (Nat.not_lt_zero _)⟩)
  · rintro k ⟨a, w⟩ hk ⟨g1, g2, g3⟩
    dsimp only at g1 g2 g3
    subst g1
    have hCA := CA_sx g2 nC_P1
    have hMw : MMS w m := MMS_CA hCA hMM
    obtain ⟨x, x1, x2, x3, x4⟩ := wp_ex (p1I_go (n := n) hn (EC_CA hCA hE) hMw hk)
    unfold p1O
    dsimp only
    rw [hMw.2.1, show ix (nI k) = k from ix_n (by omega)]
    refine wpf (by simp (disch := first | omega | decide) only [↓neg1, nlit, rI, rL, rI2, rL1, nI_add, pk_mul, sbT, dvT, nmd, ixT, ↓ibT, ltT, ltF, leT, leF, eqT, eqF, nM_ltT, nM_ltF, nM_leT, nM_leF, nM_eqF, nM_eqF', nbT0, nbT1, oI_s, oI_n, natF, natT, nltT, nltF, nleT, nleF, ↓reduceIte, lgc, not_true_eq_false, not_false_eq_true, or_false, false_or, or_true, true_or, and_true, true_and, and_false, false_and, ne_eq, eq_self, or_self, and_self]) (wpt (ib_n (by omega) (by decide)) (wpl (wpe x1 (wpl ⟨nI_1 k, sx_trans g2 x2, fun M hM => ?_⟩))))
    by_cases e : M = k
    · rw [e]
      exact x3
    · obtain ⟨B, b1, b2, b3⟩ := g3 M (by omega)
      exact ⟨B, b1, (x4 M e).trans b2, b3⟩
  · rintro ⟨a, w⟩ ⟨g1, g2, g3⟩
    dsimp only at g1 g2 g3
    subst g1
    have hMw : MMS w m := MMS_CA (CA_sx g2 nC_P1) hMM
    unfold p1O
    dsimp only
    rw [hMw.2.1]
    exact wpt (by simp (disch := first | omega | decide) only [↓neg1, nlit, rI, rL, rI2, rL1, nI_add, pk_mul, sbT, dvT, nmd, ixT, ↓ibT, ltT, ltF, leT, leF, eqT, eqF, nM_ltT, nM_ltF, nM_leT, nM_leF, nM_eqF, nM_eqF', nbT0, nbT1, oI_s, oI_n, natF, natT, nltT, nltF, nleT, nleF, ↓reduceIte, lgc, not_true_eq_false, not_false_eq_true, or_false, false_or, or_true, true_or, and_true, true_and, and_false, false_and, ne_eq, eq_self, or_self, and_self]) ⟨g2, g3⟩
/-- the same in the reference -/
theorem r1I_go (hn : 1000 ≤ n) (hA : AG m u) (hE : EC c m) (hMM : MMS c m) (hM : M < mcn m) : wp (whl (r1I n (nI M)) n (0, u)) (fun v => sx qQ1 u v ∧ (∀ k, k < ccn m → v.1 234 (12 * M + k) = bI (mkB m M k)) ∧ ∀ l, (l < 12 * M ∨ 12 * M + 12 ≤ l) → v.1 234 l = u.1 234 l) := by
  have hC := hE.2.2.1
  have h12 := (CCS_p hC).1
  have hm6 := hMM.1
  obtain ⟨t1, t2, t3, t4⟩ := mkd_of hMM hE.2.1.1 hM
  have hi6 : ib (nI M) 6 := ib_n (by omega) (by decide)
  have eM : ix (nI M) = M := ix_n (by omega)
  refine whl_cnt (fun k (st : Int32 × cS) => st.1 = nI k ∧ sx qQ1 u st.2 ∧ (∀ j, j < k → st.2.1 234 (12 * M + j) = bI (mkB m M j)) ∧ ∀ l, (l < 12 * M ∨ 12 * M + 12 ≤ l) → st.2.1 234 l = u.1 234 l) (ccn m) ?_ ?_ (by omega) ⟨rfl, sx_rfl, fun j hj => absurd hj (Nat.not_lt_zero _), fun _ _ => rfl⟩
  · rintro k ⟨a, w⟩ hk ⟨g1, g2, g3, g4⟩
    dsimp only at g1 g2 g3 g4
    subst g1
    have hAw : AG m w := AG_sx hA g2 nP_Q1
    have w37 : w.1 174 37 = nI (ccn m) := (hAw.2.2.1 37 rfl).trans hC.1.2.2.1
    have w199 : w.1 199 M = nI (mkd m M) := (hAw.1 199 M rfl).trans t3
    obtain ⟨r, r1, r2, r3, -⟩ := wp_ex (e428 (n := n) hn hAw hE (isP_C hk) t4)
    have h0 : (eff m (mkd m M) 13 (100 * k) 0).1 ≤ 20 := eff_20 hE (isP_C hk)
    unfold r1I
    dsimp only
    rw [w37, eM, w199, show (100 : Int32) * nI k = nI (100 * k) by rw [show (100 : Int32) = nI 100 from rfl, pk_mul], show (12 : Int32) * nI M + nI k = nI (12 * M + k) by rw [show (12 : Int32) = nI 12 from rfl, pk_mul, nI_add], show ix (nI (12 * M + k)) = 12 * M + k from ix_n (by omega)]
    refine wpf (by simp (disch := first | omega | decide) only [↓neg1, nlit, rI, rL, rI2, rL1, nI_add, pk_mul, sbT, dvT, nmd, ixT, ↓ibT, ltT, ltF, leT, leF, eqT, eqF, nM_ltT, nM_ltF, nM_leT, nM_leF, nM_eqF, nM_eqF', nbT0, nbT1, oI_s, oI_n, natF, natT, nltT, nltF, nleT, nleF, ↓reduceIte, lgc, not_true_eq_false, not_false_eq_true, or_false, false_or, or_true, true_or, and_true, true_and, and_false, false_and, ne_eq, eq_self, or_self, and_self]) (wpt hi6 (wpe r1 (wpj ?_)))
    have hi7 : ib (nI (12 * M + k)) 72 := ib_n (by omega) (by decide)
    have tail : ∀ x : Int32, vp_nar .boolean x = bI (mkB m M k) → wp (if ib (nI (12 * M + k)) 72 then
                  lt (pI r 234 (12 * M + k) (vp_nar .boolean x)) (fun c14 =>
                  lt (nI k + 1 : Int32) (fun v17 =>
                  (some (.inl (v17, c14)) : Option ((Int32 × cS) ⊕ cS))))
                  else none) (Sum.elim (fun st : Int32 × cS => st.1 = nI (k + 1) ∧ sx qQ1 u st.2 ∧ (∀ j, j < k + 1 → st.2.1 234 (12 * M + j) = bI (mkB m M j)) ∧ ∀ l, (l < 12 * M ∨ 12 * M + 12 ≤ l) → st.2.1 234 l = u.1 234 l) (fun v => sx qQ1 u v ∧ (∀ k, k < ccn m → v.1 234 (12 * M + k) = bI (mkB m M k)) ∧ ∀ l, (l < 12 * M ∨ 12 * M + 12 ≤ l) → v.1 234 l = u.1 234 l)) := fun x hx => by
      rw [hx]
      refine wpt hi7 (wpl (wpl ⟨nI_1 k, sx_pI (sx_trans g2 (sx_wide r2 (fun A l y => ?_))) (decide_eq_true (by omega)), fun j hj => ?_, fun l hl => ?_⟩))
      · have := of_decide_eq_false y
        exact decide_eq_false (by omega)
      · show (pI r 234 (12 * M + k) (bI (mkB m M k))).1 234 (12 * M + j) = _
        by_cases ej : j = k
        · rw [ej, rI, if_pos ⟨rfl, rfl⟩]
        · rw [rI, if_neg (by omega), r2.1 _ _ (decide_eq_false (by omega))]
          exact g3 j (by omega)
      · show (pI r 234 (12 * M + k) (bI (mkB m M k))).1 234 l = _
        rw [rI, if_neg (by omega), r2.1 _ _ (decide_eq_false (by omega))]
        exact g4 l hl
    rw [r3.1]
    by_cases e : 0 < (eff m (mkd m M) 13 (100 * k) 0).1
    · have hb : mkB m M k = true := decide_eq_true e
      refine wpf ?_ (tail 1 (by rw [hb]; rfl))
      intro z
      exact absurd (show nI (eff m (mkd m M) 13 (100 * k) 0).1 ≤ nI 0 from z) (by simp (disch := first | omega | decide) only [↓neg1, nlit, rI, rL, rI2, rL1, nI_add, pk_mul, sbT, dvT, nmd, ixT, ↓ibT, ltT, ltF, leT, leF, eqT, eqF, nM_ltT, nM_ltF, nM_leT, nM_leF, nM_eqF, nM_eqF', nbT0, nbT1, oI_s, oI_n, natF, natT, nltT, nltF, nleT, nleF, ↓reduceIte, lgc, not_true_eq_false, not_false_eq_true, or_false, false_or, or_true, true_or, and_true, true_and, and_false, false_and, ne_eq, eq_self, or_self, and_self])
    · have hb : mkB m M k = false := decide_eq_false e
      refine wpt ?_ (tail 0 (by rw [hb]; rfl))
      rw [show (eff m (mkd m M) 13 (100 * k) 0).1 = 0 by omega]
      decide
  · rintro ⟨a, w⟩ ⟨g1, g2, g3, g4⟩
    dsimp only at g1 g2 g3 g4
    subst g1
    have hAw : AG m w := AG_sx hA g2 nP_Q1
    have w37 : w.1 174 37 = nI (ccn m) := (hAw.2.2.1 37 rfl).trans hC.1.2.2.1
    unfold r1I
    dsimp only
    rw [w37]
    exact wpt (by simp (disch := first | omega | decide) only [↓neg1, nlit, rI, rL, rI2, rL1, nI_add, pk_mul, sbT, dvT, nmd, ixT, ↓ibT, ltT, ltF, leT, leF, eqT, eqF, nM_ltT, nM_ltF, nM_leT, nM_leF, nM_eqF, nM_eqF', nbT0, nbT1, oI_s, oI_n, natF, natT, nltT, nltF, nleT, nleF, ↓reduceIte, lgc, not_true_eq_false, not_false_eq_true, or_false, false_or, or_true, true_or, and_true, true_and, and_false, false_and, ne_eq, eq_self, or_self, and_self]) ⟨g2, g3, g4⟩
theorem r1_go (hn : 1000 ≤ n) (hA : AG m u) (hE : EC c m) (hMM : MMS c m) : ∃ v, whl (r1O n) n (0, u) = some v ∧ sx qQ1 u v ∧ ∀ M k, M < mcn m → k < ccn m → v.1 234 (12 * M + k) = bI (mkB m M k) := by
  have hm6 := hMM.1
  have h12 := (CCS_p hE.2.2.1).1
  refine wp_ex (whl_cnt (fun k (st : Int32 × cS) => st.1 = nI k ∧ sx qQ1 u st.2 ∧ ∀ M j, M < k → j < ccn m → st.2.1 234 (12 * M + j) = bI (mkB m M j)) (mcn m) ?_ ?_ (by omega) ⟨rfl, sx_rfl, fun M j hM => absurd hM (Nat.not_lt_zero _)⟩)
  · rintro k ⟨a, w⟩ hk ⟨g1, g2, g3⟩
    dsimp only at g1 g2 g3
    subst g1
    have hAw : AG m w := AG_sx hA g2 nP_Q1
    have w34 : w.1 174 34 = nI (mcn m) := (hAw.2.2.1 34 rfl).trans hMM.2.2.1
    obtain ⟨x, x1, x2, x3, x4⟩ := wp_ex (r1I_go (n := n) hn hAw hE hMM hk)
    unfold r1O
    dsimp only
    rw [w34]
    refine wpf (by simp (disch := first | omega | decide) only [↓neg1, nlit, rI, rL, rI2, rL1, nI_add, pk_mul, sbT, dvT, nmd, ixT, ↓ibT, ltT, ltF, leT, leF, eqT, eqF, nM_ltT, nM_ltF, nM_leT, nM_leF, nM_eqF, nM_eqF', nbT0, nbT1, oI_s, oI_n, natF, natT, nltT, nltF, nleT, nleF, ↓reduceIte, lgc, not_true_eq_false, not_false_eq_true, or_false, false_or, or_true, true_or, and_true, true_and, and_false, false_and, ne_eq, eq_self, or_self, and_self]) (wpe x1 (wpl ⟨nI_1 k, sx_trans g2 x2, fun M j hM hj => ?_⟩))
    by_cases e : M = k
    · rw [e]
      exact x3 j hj
    · exact (x4 _ (by omega)).trans (g3 M j (by omega) hj)
  · rintro ⟨a, w⟩ ⟨g1, g2, g3⟩
    dsimp only at g1 g2 g3
    subst g1
    have hAw : AG m w := AG_sx hA g2 nP_Q1
    have w34 : w.1 174 34 = nI (mcn m) := (hAw.2.2.1 34 rfl).trans hMM.2.2.1
    unfold r1O
    dsimp only
    rw [w34]
    exact wpt (by simp (disch := first | omega | decide) only [↓neg1, nlit, rI, rL, rI2, rL1, nI_add, pk_mul, sbT, dvT, nmd, ixT, ↓ibT, ltT, ltF, leT, leF, eqT, eqF, nM_ltT, nM_ltF, nM_leT, nM_leF, nM_eqF, nM_eqF', nbT0, nbT1, oI_s, oI_n, natF, natT, nltT, nltF, nleT, nleF, ↓reduceIte, lgc, not_true_eq_false, not_false_eq_true, or_false, false_or, or_true, true_or, and_true, true_and, and_false, false_and, ne_eq, eq_self, or_self, and_self]) ⟨g2, g3⟩
end MK1S
