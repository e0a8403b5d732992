/-! file -/
theorem qO_of {a i : Nat} (h : qO a i = true) : (a = 172 ∧ i = 1) ∨ a = 173 := by
  unfold qO at h
  simp only [Bool.or_eq_true, Bool.and_eq_true, Nat.beq_eq] at h
  exact h
theorem qO_no {a i : Nat} (h : ¬ ((a = 172 ∧ i = 1) ∨ a = 173)) : qO a i = false := by
  cases e : qO a i with
  | false => rfl
  | true => exact absurd (qO_of e) h
theorem nC_qO : nC qO := ⟨fun a i h1 h2 h3 => qO_no (by omega), fun i h => qO_no (by omega)⟩
theorem pO_of {a i : Nat} (h : pO a i = true) : (a = 174 ∧ i = 4) ∨ a = 176 := by
  unfold pO at h
  simp only [Bool.or_eq_true, Bool.and_eq_true, Nat.beq_eq] at h
  exact h
theorem pO_no {a i : Nat} (h : ¬ ((a = 174 ∧ i = 4) ∨ a = 176)) : pO a i = false := by
  cases e : pO a i with
  | false => rfl
  | true => exact absurd (pO_of e) h
theorem nP_pO : nP pO := by
  refine ⟨fun a i h => ?_, fun i h => ?_, fun i h => ?_, fun a i h1 h2 h3 => ?_, fun a i h1 h2 h3 => ?_⟩
  · have := PA_of h
    exact pO_no (by omega)
  · have := PF_of h
    exact pO_no (by omega)
  · exact pO_no (by omega)
  · exact pO_no (by omega)
  · exact pO_no (by omega)
theorem nMle {a : Nat} (h : a < 2147483648) : (nI a + nM ≤ nI a) = True := by
  refine eq_true ?_
  cases a with
  | zero => decide
  | succ a =>
    rw [show nI (a + 1) + nM = nI a from pk_m1 a]
    exact nI_le (by omega) (by omega)
theorem e338 {n p s : Nat} {c m : cS} (hn : 1000 ≤ n) (hE : EC c m) (hP : isP m p s) : wp (d_338 n (nI p) c) (fun r => r.1 = nI (min (flR m p).length 8000) ∧ OC r.2 (flR m p) ∧ sx qO c r.2) := by
  obtain ⟨s1, s2, s3⟩ := EC_sz hE hP
  have hc1 : ∀ d, sx qO c d → CA c d := fun d hd => CA_sx hd nC_qO
  unfold d_338
  have h0 : sx qO c (pI c 172 1 0) := sx_pI sx_rfl rfl
  (try dsimp only); repeat (first | with_reducible refine wpl ?_ | with_reducible refine wpj ?_ | with_reducible refine wpSl ?_ | with_reducible refine wpSr ?_ | with_reducible refine wpS ?_ | ((with_reducible refine wpt ?_ ?_); · simp (disch := first | omega | decide) only [↓neg1, nlit, rI, rL, rI2, rL1, nI_add, pk_mul, sbT, dvT, nmd, ixT, ↓ibT, ltT, ltF, leT, leF, eqT, eqF, nM_ltT, nM_ltF, nM_leT, nM_leF, nM_eqF, nM_eqF', nbT0, nbT1, oI_s, oI_n, natF, natT, nltT, nltF, nleT, nleF, ↓reduceIte, lgc, not_true_eq_false, not_false_eq_true, or_false, false_or, or_true, true_or, and_true, true_and, and_false, false_and, ne_eq, eq_self, or_self, and_self]; done) | ((with_reducible refine wpf ?_ ?_); · simp (disch := first | omega | decide) only [↓neg1, nlit, rI, rL, rI2, rL1, nI_add, pk_mul, sbT, dvT, nmd, ixT, ↓ibT, ltT, ltF, leT, leF, eqT, eqF, nM_ltT, nM_ltF, nM_leT, nM_leF, nM_eqF, nM_eqF', nbT0, nbT1, oI_s, oI_n, natF, natT, nltT, nltF, nleT, nleF, ↓reduceIte, lgc, not_true_eq_false, not_false_eq_true, or_false, false_or, or_true, true_or, and_true, true_and, and_false, false_and, ne_eq, eq_self, or_self, and_self]; done))
  rw [show (pI c 172 1 0).1 144 (ix (nI p)) = nI (mz m p) by simp (disch := first | omega | decide) only [↓neg1, nlit, rI, rL, rI2, rL1, nI_add, pk_mul, sbT, dvT, nmd, ixT, ↓ibT, ltT, ltF, leT, leF, eqT, eqF, nM_ltT, nM_ltF, nM_leT, nM_leF, nM_eqF, nM_eqF', nbT0, nbT1, oI_s, oI_n, natF, natT, nltT, nltF, nleT, nleF, ↓reduceIte, lgc, not_true_eq_false, not_false_eq_true, or_false, false_or, or_true, true_or, and_true, true_and, and_false, false_and, ne_eq, eq_self, or_self, and_self, s3]]
  refine wpc (e317 (L := []) (by omega) (OC_nil (by simp (disch := first | omega | decide) only [↓neg1, nlit, rI, rL, rI2, rL1, nI_add, pk_mul, sbT, dvT, nmd, ixT, ↓ibT, ltT, ltF, leT, leF, eqT, eqF, nM_ltT, nM_ltF, nM_leT, nM_leF, nM_eqF, nM_eqF', nbT0, nbT1, oI_s, oI_n, natF, natT, nltT, nltF, nleT, nleF, ↓reduceIte, lgc, not_true_eq_false, not_false_eq_true, or_false, false_or, or_true, true_or, and_true, true_and, and_false, false_and, ne_eq, eq_self, or_self, and_self]))) (fun d hd => ?_)
  have d1 : sx qO c d := sx_trans h0 hd.2
  have hcd := hc1 d d1
  (try dsimp only); repeat (first | with_reducible refine wpl ?_ | with_reducible refine wpj ?_ | with_reducible refine wpSl ?_ | with_reducible refine wpSr ?_ | with_reducible refine wpS ?_ | ((with_reducible refine wpt ?_ ?_); · simp (disch := first | omega | decide) only [↓neg1, nlit, rI, rL, rI2, rL1, nI_add, pk_mul, sbT, dvT, nmd, ixT, ↓ibT, ltT, ltF, leT, leF, eqT, eqF, nM_ltT, nM_ltF, nM_leT, nM_leF, nM_eqF, nM_eqF', nbT0, nbT1, oI_s, oI_n, natF, natT, nltT, nltF, nleT, nleF, ↓reduceIte, lgc, not_true_eq_false, not_false_eq_true, or_false, false_or, or_true, true_or, and_true, true_and, and_false, false_and, ne_eq, eq_self, or_self, and_self]; done) | ((with_reducible refine wpf ?_ ?_); · simp (disch := first | omega | decide) only [↓neg1, nlit, rI, rL, rI2, rL1, nI_add, pk_mul, sbT, dvT, nmd, ixT, ↓ibT, ltT, ltF, leT, leF, eqT, eqF, nM_ltT, nM_ltF, nM_leT, nM_leF, nM_eqF, nM_eqF', nbT0, nbT1, oI_s, oI_n, natF, natT, nltT, nltF, nleT, nleF, ↓reduceIte, lgc, not_true_eq_false, not_false_eq_true, or_false, false_or, or_true, true_or, and_true, true_and, and_false, false_and, ne_eq, eq_self, or_self, and_self]; done))
  refine wpc (K' := fun w : cS => OC w (flR m p) ∧ sx qO c w) (whl_cnt (fun i (st : Int32 × Int32 × cS) => st.1 = ch c p i ∧ st.2.1 = nI i ∧ OC st.2.2 ([mz m p] ++ catN (fun i => flM m (p * 20 + i)) i) ∧ sx qO c st.2.2) (mz m p) ?_ ?_ (by omega) ⟨?_, rfl, hd.1, d1⟩) ?_
  · rintro i ⟨a, b, w⟩ hi ⟨g1, g2, g3, g4⟩
    dsimp only at g1 g2 g3 g4
    subst g1 g2
    have hcw := hc1 w g4
    have hEw := EC_CA hcw hE
    obtain ⟨a1, a2, a3, a4, -⟩ := EC_mk hE hP hi
    obtain ⟨-, -, t3⟩ := EC_sz hEw hP
    have a3w := MKR_CA hcw a3
    obtain ⟨q1, q2, q3, q4, q5, q6, q7, q8, q9⟩ := id a3
    rw [a1]
    (try dsimp only); repeat (first | with_reducible refine wpl ?_ | with_reducible refine wpj ?_ | with_reducible refine wpSl ?_ | with_reducible refine wpSr ?_ | with_reducible refine wpS ?_ | ((with_reducible refine wpt ?_ ?_); · simp (disch := first | omega | decide) only [↓neg1, nlit, rI, rL, rI2, rL1, nI_add, pk_mul, sbT, dvT, nmd, ixT, ↓ibT, ltT, ltF, leT, leF, eqT, eqF, nM_ltT, nM_ltF, nM_leT, nM_leF, nM_eqF, nM_eqF', nbT0, nbT1, oI_s, oI_n, natF, natT, nltT, nltF, nleT, nleF, ↓reduceIte, lgc, not_true_eq_false, not_false_eq_true, or_false, false_or, or_true, true_or, and_true, true_and, and_false, false_and, ne_eq, eq_self, or_self, and_self, t3]; done) | ((with_reducible refine wpf ?_ ?_); · simp (disch := first | omega | decide) only [↓neg1, nlit, rI, rL, rI2, rL1, nI_add, pk_mul, sbT, dvT, nmd, ixT, ↓ibT, ltT, ltF, leT, leF, eqT, eqF, nM_ltT, nM_ltF, nM_leT, nM_leF, nM_eqF, nM_eqF', nbT0, nbT1, oI_s, oI_n, natF, natT, nltT, nltF, nleT, nleF, ↓reduceIte, lgc, not_true_eq_false, not_false_eq_true, or_false, false_or, or_true, true_or, and_true, true_and, and_false, false_and, ne_eq, eq_self, or_self, and_self, t3]; done))
    rw [show w.2 134 (ix (nI (mi c p i))) = m.2 223 (p * 20 + i) by rw [ix_n (by omega)]; exact a3w.2.1]
    refine wpc (e339 hn g3) (fun w1 hw1 => ?_)
    have k1 : sx qO c w1 := sx_trans g4 hw1.2
    refine wpe (e227 (MKR_CA (hc1 w1 k1) a3)) ?_
    have hpr := (MKR_CA (hc1 w1 k1) a3).2.2.2.2.2.2.2.1
    refine wpj ?_
    have hfin : ∀ b : Nat, b = (if m.1 224 (p * 20 + i) = nI 0 then prn m (p * 20 + i) else 255) → wp (Option.bind (d_317 n (nI b) w1) (fun r16 =>
      lt ((nI (mi c p i) * 4) : Int32) (fun v18 =>
      Option.bind (whl (R := (cS)) (fun s20 : Int32 × cS =>
        if ib (nI (mi c p i)) 4096 then
        if ((nI (mi c p i) * 4) + (s20.2.1 136 (ix (nI (mi c p i))))) ≤ s20.1 then
          some (.inr s20.2)
        else
          if ib s20.1 16384 then
          Option.bind (d_339 n (s20.2.2 139 (ix s20.1)) s20.2) (fun r23 =>
          if ib s20.1 16384 then
          Option.bind (d_317 n (r23.1 140 (ix s20.1)) r23) (fun r25 =>
          if ib s20.1 16384 then
          jn (fun p27 : cS =>
            lt (s20.1 + 1 : Int32) (fun v29 =>
            some (.inl (v29, p27))))
          (fun j182 =>
          if (r25.1 140 (ix s20.1)) = 1 then
            if ib s20.1 16384 then
            Option.bind (d_340 n (r25.2 141 (ix s20.1)) r25) (fun r34 =>
            j182 r34)
            else none
          else
            if ib s20.1 16384 then
            Option.bind (d_339 n (r25.2 141 (ix s20.1)) r25) (fun r32 =>
            j182 r32)
            else none)
          else none)
          else none)
          else none
        else none) n (v18, r16))
      (fun x35 : cS =>
        if ib (nI (mi c p i)) 4096 then
        lt ((x35.1 138 (ix (nI (mi c p i)))) : Int32) (fun v38 =>
        lt (nI i + 1 : Int32) (fun v41 =>
        some (.inl (v38, v41, x35) : (Int32 × Int32 × cS) ⊕ cS)))
        else none)))) (Sum.elim (fun st : Int32 × Int32 × cS => st.1 = ch c p (i + 1) ∧ st.2.1 = nI (i + 1) ∧ OC st.2.2 ([mz m p] ++ catN (fun i => flM m (p * 20 + i)) (i + 1)) ∧ sx qO c st.2.2) (fun w : cS => OC w (flR m p) ∧ sx qO c w)) := by
      intro b hb
      have hb256 : b < 256 := by
        rw [hb]
        split <;> omega
      refine wpc (e317 hb256 hw1.1) (fun w2 hw2 => ?_)
      have k2 : sx qO c w2 := sx_trans k1 hw2.2
      refine wpl ?_
      rw [show nI (mi c p i) * 4 = nI (mi c p i * 4) from pk_mul _ 4]
      refine wpc (K' := fun w : cS => OC w ([mz m p] ++ catN (fun i => flM m (p * 20 + i)) (i + 1)) ∧ sx qO c w) (whl_cnt (fun q (st : Int32 × cS) => st.1 = nI (mi c p i * 4 + q) ∧ OC st.2 ([mz m p] ++ catN (fun i => flM m (p * 20 + i)) i ++ ([szN (m.2 223 (p * 20 + i))] ++ sg (m.2 223 (p * 20 + i))) ++ [b] ++ catN (flP m (p * 20 + i)) q) ∧ sx qO c st.2) (prn m (p * 20 + i)) ?_ ?_ (by omega) ⟨rfl, ?_, k2⟩) ?_
      · rintro q ⟨a, x⟩ hq ⟨j1, j2, j3⟩
        dsimp only at j1 j2 j3
        subst j1
        have h0 : m.1 224 (p * 20 + i) = nI 0 := by
          rcases q4 with z | z
          · exact z
          · have := q7 z
            omega
        obtain ⟨n1, n2, ⟨sr, sr1, sr2, n3⟩, n4, n5⟩ := q9 q hq
        have X : ∀ y, sx qO c y → y.1 136 (mi c p i) = nI (prn m (p * 20 + i)) ∧ y.2 139 (mi c p i * 4 + q) = m.2 226 ((p * 20 + i) * 4 + q) ∧ y.1 140 (mi c p i * 4 + q) = nI sr ∧ y.2 141 (mi c p i * 4 + q) = m.2 228 ((p * 20 + i) * 4 + q) := by
          intro y hy
          have hcy := hc1 y hy
          rw [CA_l hcy (a := 136) (by omega) (by omega) (by omega), CA_r hcy (a := 139) (by omega) (by omega) (by omega), CA_l hcy (a := 140) (by omega) (by omega) (by omega), CA_r hcy (a := 141) (by omega) (by omega) (by omega)]
          rw [if_pos h0] at q8
          exact ⟨q8, n1, n2.trans n3, n4⟩
        (try dsimp only); repeat (first | with_reducible refine wpl ?_ | with_reducible refine wpj ?_ | with_reducible refine wpSl ?_ | with_reducible refine wpSr ?_ | with_reducible refine wpS ?_ | ((with_reducible refine wpt ?_ ?_); · simp (disch := first | omega | decide) only [↓neg1, nlit, rI, rL, rI2, rL1, nI_add, pk_mul, sbT, dvT, nmd, ixT, ↓ibT, ltT, ltF, leT, leF, eqT, eqF, nM_ltT, nM_ltF, nM_leT, nM_leF, nM_eqF, nM_eqF', nbT0, nbT1, oI_s, oI_n, natF, natT, nltT, nltF, nleT, nleF, ↓reduceIte, lgc, not_true_eq_false, not_false_eq_true, or_false, false_or, or_true, true_or, and_true, true_and, and_false, false_and, ne_eq, eq_self, or_self, and_self, (X x j3).1]; done) | ((with_reducible refine wpf ?_ ?_); · simp (disch := first | omega | decide) only [↓neg1, nlit, rI, rL, rI2, rL1, nI_add, pk_mul, sbT, dvT, nmd, ixT, ↓ibT, ltT, ltF, leT, leF, eqT, eqF, nM_ltT, nM_ltF, nM_leT, nM_leF, nM_eqF, nM_eqF', nbT0, nbT1, oI_s, oI_n, natF, natT, nltT, nltF, nleT, nleF, ↓reduceIte, lgc, not_true_eq_false, not_false_eq_true, or_false, false_or, or_true, true_or, and_true, true_and, and_false, false_and, ne_eq, eq_self, or_self, and_self, (X x j3).1]; done))
        rw [ix_n (by omega), (X x j3).2.1]
        refine wpc (e339 hn j2) (fun x1 hx1 => ?_)
        have l1 : sx qO c x1 := sx_trans j3 hx1.2
        (try dsimp only); repeat (first | with_reducible refine wpl ?_ | with_reducible refine wpj ?_ | with_reducible refine wpSl ?_ | with_reducible refine wpSr ?_ | with_reducible refine wpS ?_ | ((with_reducible refine wpt ?_ ?_); · simp (disch := first | omega | decide) only [↓neg1, nlit, rI, rL, rI2, rL1, nI_add, pk_mul, sbT, dvT, nmd, ixT, ↓ibT, ltT, ltF, leT, leF, eqT, eqF, nM_ltT, nM_ltF, nM_leT, nM_leF, nM_eqF, nM_eqF', nbT0, nbT1, oI_s, oI_n, natF, natT, nltT, nltF, nleT, nleF, ↓reduceIte, lgc, not_true_eq_false, not_false_eq_true, or_false, false_or, or_true, true_or, and_true, true_and, and_false, false_and, ne_eq, eq_self, or_self, and_self]; done) | ((with_reducible refine wpf ?_ ?_); · simp (disch := first | omega | decide) only [↓neg1, nlit, rI, rL, rI2, rL1, nI_add, pk_mul, sbT, dvT, nmd, ixT, ↓ibT, ltT, ltF, leT, leF, eqT, eqF, nM_ltT, nM_ltF, nM_leT, nM_leF, nM_eqF, nM_eqF', nbT0, nbT1, oI_s, oI_n, natF, natT, nltT, nltF, nleT, nleF, ↓reduceIte, lgc, not_true_eq_false, not_false_eq_true, or_false, false_or, or_true, true_or, and_true, true_and, and_false, false_and, ne_eq, eq_self, or_self, and_self]; done))
        rw [(X x1 l1).2.2.1]
        refine wpc (e317 (by omega) hx1.1) (fun x2 hx2 => ?_)
        have l2 : sx qO c x2 := sx_trans l1 hx2.2
        have hsr : ix (m.1 227 ((p * 20 + i) * 4 + q)) = sr := by
          rw [n3, ix_n (by omega)]
        by_cases hs1 : sr = 1
        · subst hs1
          (try dsimp only); repeat (first | with_reducible refine wpl ?_ | with_reducible refine wpj ?_ | with_reducible refine wpSl ?_ | with_reducible refine wpSr ?_ | with_reducible refine wpS ?_ | ((with_reducible refine wpt ?_ ?_); · simp (disch := first | omega | decide) only [↓neg1, nlit, rI, rL, rI2, rL1, nI_add, pk_mul, sbT, dvT, nmd, ixT, ↓ibT, ltT, ltF, leT, leF, eqT, eqF, nM_ltT, nM_ltF, nM_leT, nM_leF, nM_eqF, nM_eqF', nbT0, nbT1, oI_s, oI_n, natF, natT, nltT, nltF, nleT, nleF, ↓reduceIte, lgc, not_true_eq_false, not_false_eq_true, or_false, false_or, or_true, true_or, and_true, true_and, and_false, false_and, ne_eq, eq_self, or_self, and_self, (X x2 l2).2.2.1]; done) | ((with_reducible refine wpf ?_ ?_); · simp (disch := first | omega | decide) only [↓neg1, nlit, rI, rL, rI2, rL1, nI_add, pk_mul, sbT, dvT, nmd, ixT, ↓ibT, ltT, ltF, leT, leF, eqT, eqF, nM_ltT, nM_ltF, nM_leT, nM_leF, nM_eqF, nM_eqF', nbT0, nbT1, oI_s, oI_n, natF, natT, nltT, nltF, nleT, nleF, ↓reduceIte, lgc, not_true_eq_false, not_false_eq_true, or_false, false_or, or_true, true_or, and_true, true_and, and_false, false_and, ne_eq, eq_self, or_self, and_self, (X x2 l2).2.2.1]; done))
          rw [(X x2 l2).2.2.2]
          refine wpc (e340 hn hx2.1) (fun x3 hx3 => ?_)
          (try dsimp only); repeat (first | with_reducible refine wpl ?_ | with_reducible refine wpj ?_ | with_reducible refine wpSl ?_ | with_reducible refine wpSr ?_ | with_reducible refine wpS ?_ | ((with_reducible refine wpt ?_ ?_); · simp (disch := first | omega | decide) only [↓neg1, nlit, rI, rL, rI2, rL1, nI_add, pk_mul, sbT, dvT, nmd, ixT, ↓ibT, ltT, ltF, leT, leF, eqT, eqF, nM_ltT, nM_ltF, nM_leT, nM_leF, nM_eqF, nM_eqF', nbT0, nbT1, oI_s, oI_n, natF, natT, nltT, nltF, nleT, nleF, ↓reduceIte, lgc, not_true_eq_false, not_false_eq_true, or_false, false_or, or_true, true_or, and_true, true_and, and_false, false_and, ne_eq, eq_self, or_self, and_self]; done) | ((with_reducible refine wpf ?_ ?_); · simp (disch := first | omega | decide) only [↓neg1, nlit, rI, rL, rI2, rL1, nI_add, pk_mul, sbT, dvT, nmd, ixT, ↓ibT, ltT, ltF, leT, leF, eqT, eqF, nM_ltT, nM_ltF, nM_leT, nM_leF, nM_eqF, nM_eqF', nbT0, nbT1, oI_s, oI_n, natF, natT, nltT, nltF, nleT, nleF, ↓reduceIte, lgc, not_true_eq_false, not_false_eq_true, or_false, false_or, or_true, true_or, and_true, true_and, and_false, false_and, ne_eq, eq_self, or_self, and_self]; done))
          refine ⟨?_, ?_, sx_trans l2 hx3.2⟩
          · exact nI_1 _
          · have : flP m (p * 20 + i) q = [szN (m.2 226 ((p * 20 + i) * 4 + q))] ++ sg (m.2 226 ((p * 20 + i) * 4 + q)) ++ [1] ++ fourK (m.2 228 ((p * 20 + i) * 4 + q)) 4 := by
              unfold flP
              rw [hsr, if_pos n3]
            show OC x3 (_ ++ (catN _ q ++ flP m (p * 20 + i) q))
            rw [this]
            simpa only [List.append_assoc] using hx3.1
        · have hs1' : (nI sr = nI 1) = False := by simp (disch := first | omega | decide) only [↓neg1, nlit, rI, rL, rI2, rL1, nI_add, pk_mul, sbT, dvT, nmd, ixT, ↓ibT, ltT, ltF, leT, leF, eqT, eqF, nM_ltT, nM_ltF, nM_leT, nM_leF, nM_eqF, nM_eqF', nbT0, nbT1, oI_s, oI_n, natF, natT, nltT, nltF, nleT, nleF, ↓reduceIte, lgc, not_true_eq_false, not_false_eq_true, or_false, false_or, or_true, true_or, and_true, true_and, and_false, false_and, ne_eq, eq_self, or_self, and_self]
          (try dsimp only); repeat (first | with_reducible refine wpl ?_ | with_reducible refine wpj ?_ | with_reducible refine wpSl ?_ | with_reducible refine wpSr ?_ | with_reducible refine wpS ?_ | ((with_reducible refine wpt ?_ ?_); · simp (disch := first | omega | decide) only [↓neg1, nlit, rI, rL, rI2, rL1, nI_add, pk_mul, sbT, dvT, nmd, ixT, ↓ibT, ltT, ltF, leT, leF, eqT, eqF, nM_ltT, nM_ltF, nM_leT, nM_leF, nM_eqF, nM_eqF', nbT0, nbT1, oI_s, oI_n, natF, natT, nltT, nltF, nleT, nleF, ↓reduceIte, lgc, not_true_eq_false, not_false_eq_true, or_false, false_or, or_true, true_or, and_true, true_and, and_false, false_and, ne_eq, eq_self, or_self, and_self, (X x2 l2).2.2.1]; done) | ((with_reducible refine wpf ?_ ?_); · simp (disch := first | omega | decide) only [↓neg1, nlit, rI, rL, rI2, rL1, nI_add, pk_mul, sbT, dvT, nmd, ixT, ↓ibT, ltT, ltF, leT, leF, eqT, eqF, nM_ltT, nM_ltF, nM_leT, nM_leF, nM_eqF, nM_eqF', nbT0, nbT1, oI_s, oI_n, natF, natT, nltT, nltF, nleT, nleF, ↓reduceIte, lgc, not_true_eq_false, not_false_eq_true, or_false, false_or, or_true, true_or, and_true, true_and, and_false, false_and, ne_eq, eq_self, or_self, and_self, (X x2 l2).2.2.1]; done))
          rw [(X x2 l2).2.2.2]
          refine wpc (e339 hn hx2.1) (fun x3 hx3 => ?_)
          (try dsimp only); repeat (first | with_reducible refine wpl ?_ | with_reducible refine wpj ?_ | with_reducible refine wpSl ?_ | with_reducible refine wpSr ?_ | with_reducible refine wpS ?_ | ((with_reducible refine wpt ?_ ?_); · simp (disch := first | omega | decide) only [↓neg1, nlit, rI, rL, rI2, rL1, nI_add, pk_mul, sbT, dvT, nmd, ixT, ↓ibT, ltT, ltF, leT, leF, eqT, eqF, nM_ltT, nM_ltF, nM_leT, nM_leF, nM_eqF, nM_eqF', nbT0, nbT1, oI_s, oI_n, natF, natT, nltT, nltF, nleT, nleF, ↓reduceIte, lgc, not_true_eq_false, not_false_eq_true, or_false, false_or, or_true, true_or, and_true, true_and, and_false, false_and, ne_eq, eq_self, or_self, and_self]; done) | ((with_reducible refine wpf ?_ ?_); · simp (disch := first | omega | decide) only [↓neg1, nlit, rI, rL, rI2, rL1, nI_add, pk_mul, sbT, dvT, nmd, ixT, ↓ibT, ltT, ltF, leT, leF, eqT, eqF, nM_ltT, nM_ltF, nM_leT, nM_leF, nM_eqF, nM_eqF', nbT0, nbT1, oI_s, oI_n, natF, natT, nltT, nltF, nleT, nleF, ↓reduceIte, lgc, not_true_eq_false, not_false_eq_true, or_false, false_or, or_true, true_or, and_true, true_and, and_false, false_and, ne_eq, eq_self, or_self, and_self]; done))
          refine ⟨?_, ?_, sx_trans l2 hx3.2⟩
          · exact nI_1 _
          · have : flP m (p * 20 + i) q = [szN (m.2 226 ((p * 20 + i) * 4 + q))] ++ sg (m.2 226 ((p * 20 + i) * 4 + q)) ++ [sr] ++ ([szN (m.2 228 ((p * 20 + i) * 4 + q))] ++ sg (m.2 228 ((p * 20 + i) * 4 + q))) := by
              unfold flP
              rw [hsr, if_neg (by rw [n3, hs1']; exact id)]
            show OC x3 (_ ++ (catN _ q ++ flP m (p * 20 + i) q))
            rw [this]
            simpa only [List.append_assoc] using hx3.1
      · rintro ⟨a, x⟩ ⟨j1, j2, j3⟩
        dsimp only at j1 j2 j3
        subst j1
        have hx : x.1 136 (mi c p i) = if m.1 224 (p * 20 + i) = nI 0 then nI (prn m (p * 20 + i)) else nM := by
          rw [CA_l (hc1 x j3) (a := 136) (by omega) (by omega) (by omega)]
          exact q8
        have hdone : OC x ([mz m p] ++ catN (fun i => flM m (p * 20 + i)) (i + 1)) := by
          show OC x ([mz m p] ++ (catN (fun i => flM m (p * 20 + i)) i ++ flM m (p * 20 + i)))
          unfold flM at j2 ⊢
          rw [← hb]
          simpa only [List.append_assoc] using j2
        rcases q4 with z | z
        · have z : m.1 224 (p * 20 + i) = nI 0 := z
          rw [if_pos z] at hx
          (try dsimp only); repeat (first | with_reducible refine wpl ?_ | with_reducible refine wpj ?_ | with_reducible refine wpSl ?_ | with_reducible refine wpSr ?_ | with_reducible refine wpS ?_ | ((with_reducible refine wpt ?_ ?_); · simp (disch := first | omega | decide) only [↓neg1, nlit, rI, rL, rI2, rL1, nI_add, pk_mul, sbT, dvT, nmd, ixT, ↓ibT, ltT, ltF, leT, leF, eqT, eqF, nM_ltT, nM_ltF, nM_leT, nM_leF, nM_eqF, nM_eqF', nbT0, nbT1, oI_s, oI_n, natF, natT, nltT, nltF, nleT, nleF, ↓reduceIte, lgc, not_true_eq_false, not_false_eq_true, or_false, false_or, or_true, true_or, and_true, true_and, and_false, false_and, ne_eq, eq_self, or_self, and_self, hx]; done) | ((with_reducible refine wpf ?_ ?_); · simp (disch := first | omega | decide) only [↓neg1, nlit, rI, rL, rI2, rL1, nI_add, pk_mul, sbT, dvT, nmd, ixT, ↓ibT, ltT, ltF, leT, leF, eqT, eqF, nM_ltT, nM_ltF, nM_leT, nM_leF, nM_eqF, nM_eqF', nbT0, nbT1, oI_s, oI_n, natF, natT, nltT, nltF, nleT, nleF, ↓reduceIte, lgc, not_true_eq_false, not_false_eq_true, or_false, false_or, or_true, true_or, and_true, true_and, and_false, false_and, ne_eq, eq_self, or_self, and_self, hx]; done))
          exact ⟨hdone, j3⟩
        · have z : m.1 224 (p * 20 + i) = nI 1 := z
          rw [if_neg (by rw [z]; decide)] at hx
          have hp0 := q7 z
          rw [hp0, Nat.add_zero] at *
          refine wpt (by simp (disch := first | omega | decide) only [↓neg1, nlit, rI, rL, rI2, rL1, nI_add, pk_mul, sbT, dvT, nmd, ixT, ↓ibT, ltT, ltF, leT, leF, eqT, eqF, nM_ltT, nM_ltF, nM_leT, nM_leF, nM_eqF, nM_eqF', nbT0, nbT1, oI_s, oI_n, natF, natT, nltT, nltF, nleT, nleF, ↓reduceIte, lgc, not_true_eq_false, not_false_eq_true, or_false, false_or, or_true, true_or, and_true, true_and, and_false, false_and, ne_eq, eq_self, or_self, and_self]) ?_
          refine wpt ?_ ⟨hdone, j3⟩
          show nI (mi c p i * 4) + x.1 136 (ix (nI (mi c p i))) ≤ nI (mi c p i * 4)
          rw [ix_n (by omega), hx, nMle (by omega)]
          trivial
      · show OC w2 (_ ++ [])
        rw [List.append_nil]
        exact hw2.1
      · rintro w3 ⟨j1, j2⟩
        (try dsimp only); repeat (first | with_reducible refine wpl ?_ | with_reducible refine wpj ?_ | with_reducible refine wpSl ?_ | with_reducible refine wpSr ?_ | with_reducible refine wpS ?_ | ((with_reducible refine wpt ?_ ?_); · simp (disch := first | omega | decide) only [↓neg1, nlit, rI, rL, rI2, rL1, nI_add, pk_mul, sbT, dvT, nmd, ixT, ↓ibT, ltT, ltF, leT, leF, eqT, eqF, nM_ltT, nM_ltF, nM_leT, nM_leF, nM_eqF, nM_eqF', nbT0, nbT1, oI_s, oI_n, natF, natT, nltT, nltF, nleT, nleF, ↓reduceIte, lgc, not_true_eq_false, not_false_eq_true, or_false, false_or, or_true, true_or, and_true, true_and, and_false, false_and, ne_eq, eq_self, or_self, and_self]; done) | ((with_reducible refine wpf ?_ ?_); · simp (disch := first | omega | decide) only [↓neg1, nlit, rI, rL, rI2, rL1, nI_add, pk_mul, sbT, dvT, nmd, ixT, ↓ibT, ltT, ltF, leT, leF, eqT, eqF, nM_ltT, nM_ltF, nM_leT, nM_leF, nM_eqF, nM_eqF', nbT0, nbT1, oI_s, oI_n, natF, natT, nltT, nltF, nleT, nleF, ↓reduceIte, lgc, not_true_eq_false, not_false_eq_true, or_false, false_or, or_true, true_or, and_true, true_and, and_false, false_and, ne_eq, eq_self, or_self, and_self]; done))
        refine ⟨?_, nI_1 _, j1, j2⟩
        show w3.1 138 (ix (nI (mi c p i))) = c.1 138 (ix (ch c p i))
        rw [a1, CA_l (hc1 w3 j2) (a := 138) (by omega) (by omega) (by omega)]
    rcases q4 with z | z
    · have z : m.1 224 (p * 20 + i) = nI 0 := z
      rw [if_pos z] at hpr
      (try dsimp only); repeat (first | with_reducible refine wpl ?_ | with_reducible refine wpj ?_ | with_reducible refine wpSl ?_ | with_reducible refine wpSr ?_ | with_reducible refine wpS ?_ | ((with_reducible refine wpt ?_ ?_); · simp (disch := first | omega | decide) only [↓neg1, nlit, rI, rL, rI2, rL1, nI_add, pk_mul, sbT, dvT, nmd, ixT, ↓ibT, ltT, ltF, leT, leF, eqT, eqF, nM_ltT, nM_ltF, nM_leT, nM_leF, nM_eqF, nM_eqF', nbT0, nbT1, oI_s, oI_n, natF, natT, nltT, nltF, nleT, nleF, ↓reduceIte, lgc, not_true_eq_false, not_false_eq_true, or_false, false_or, or_true, true_or, and_true, true_and, and_false, false_and, ne_eq, eq_self, or_self, and_self, z]; done) | ((with_reducible refine wpf ?_ ?_); · simp (disch := first | omega | decide) only [↓neg1, nlit, rI, rL, rI2, rL1, nI_add, pk_mul, sbT, dvT, nmd, ixT, ↓ibT, ltT, ltF, leT, leF, eqT, eqF, nM_ltT, nM_ltF, nM_leT, nM_leF, nM_eqF, nM_eqF', nbT0, nbT1, oI_s, oI_n, natF, natT, nltT, nltF, nleT, nleF, ↓reduceIte, lgc, not_true_eq_false, not_false_eq_true, or_false, false_or, or_true, true_or, and_true, true_and, and_false, false_and, ne_eq, eq_self, or_self, and_self, z]; done))
      rw [show w1.1 136 (ix (nI (mi c p i))) = nI (prn m (p * 20 + i)) by rw [ix_n (by omega)]; exact hpr]
      exact hfin _ (by rw [if_pos z])
    · have z : m.1 224 (p * 20 + i) = nI 1 := z
      (try dsimp only); repeat (first | with_reducible refine wpl ?_ | with_reducible refine wpj ?_ | with_reducible refine wpSl ?_ | with_reducible refine wpSr ?_ | with_reducible refine wpS ?_ | ((with_reducible refine wpt ?_ ?_); · simp (disch := first | omega | decide) only [↓neg1, nlit, rI, rL, rI2, rL1, nI_add, pk_mul, sbT, dvT, nmd, ixT, ↓ibT, ltT, ltF, leT, leF, eqT, eqF, nM_ltT, nM_ltF, nM_leT, nM_leF, nM_eqF, nM_eqF', nbT0, nbT1, oI_s, oI_n, natF, natT, nltT, nltF, nleT, nleF, ↓reduceIte, lgc, not_true_eq_false, not_false_eq_true, or_false, false_or, or_true, true_or, and_true, true_and, and_false, false_and, ne_eq, eq_self, or_self, and_self, z]; done) | ((with_reducible refine wpf ?_ ?_); · simp (disch := first | omega | decide) only [↓neg1, nlit, rI, rL, rI2, rL1, nI_add, pk_mul, sbT, dvT, nmd, ixT, ↓ibT, ltT, ltF, leT, leF, eqT, eqF, nM_ltT, nM_ltF, nM_leT, nM_leF, nM_eqF, nM_eqF', nbT0, nbT1, oI_s, oI_n, natF, natT, nltT, nltF, nleT, nleF, ↓reduceIte, lgc, not_true_eq_false, not_false_eq_true, or_false, false_or, or_true, true_or, and_true, true_and, and_false, false_and, ne_eq, eq_self, or_self, and_self, z]; done))
      exact hfin 255 (by rw [if_neg (by rw [z]; decide)])
  · rintro ⟨a, b, w⟩ ⟨g1, g2, g3, g4⟩
    dsimp only at g1 g2 g3 g4
    subst g1 g2
    obtain ⟨-, -, t3⟩ := EC_sz (EC_CA (hc1 w g4) hE) hP
    (try dsimp only); repeat (first | with_reducible refine wpl ?_ | with_reducible refine wpj ?_ | with_reducible refine wpSl ?_ | with_reducible refine wpSr ?_ | with_reducible refine wpS ?_ | ((with_reducible refine wpt ?_ ?_); · simp (disch := first | omega | decide) only [↓neg1, nlit, rI, rL, rI2, rL1, nI_add, pk_mul, sbT, dvT, nmd, ixT, ↓ibT, ltT, ltF, leT, leF, eqT, eqF, nM_ltT, nM_ltF, nM_leT, nM_leF, nM_eqF, nM_eqF', nbT0, nbT1, oI_s, oI_n, natF, natT, nltT, nltF, nleT, nleF, ↓reduceIte, lgc, not_true_eq_false, not_false_eq_true, or_false, false_or, or_true, true_or, and_true, true_and, and_false, false_and, ne_eq, eq_self, or_self, and_self, t3]; done) | ((with_reducible refine wpf ?_ ?_); · simp (disch := first | omega | decide) only [↓neg1, nlit, rI, rL, rI2, rL1, nI_add, pk_mul, sbT, dvT, nmd, ixT, ↓ibT, ltT, ltF, leT, leF, eqT, eqF, nM_ltT, nM_ltF, nM_leT, nM_leF, nM_eqF, nM_eqF', nbT0, nbT1, oI_s, oI_n, natF, natT, nltT, nltF, nleT, nleF, ↓reduceIte, lgc, not_true_eq_false, not_false_eq_true, or_false, false_or, or_true, true_or, and_true, true_and, and_false, false_and, ne_eq, eq_self, or_self, and_self, t3]; done))
    exact ⟨g3, g4⟩
  · show d.1 142 (ix (nI p)) = c.1 142 p
    rw [ix_n (by omega), CA_l hcd (a := 142) (by omega) (by omega) (by omega)]
  rintro w ⟨j1, j2⟩
  (try dsimp only); repeat (first | with_reducible refine wpl ?_ | with_reducible refine wpj ?_ | with_reducible refine wpSl ?_ | with_reducible refine wpSr ?_ | with_reducible refine wpS ?_ | ((with_reducible refine wpt ?_ ?_); · simp (disch := first | omega | decide) only [↓neg1, nlit, rI, rL, rI2, rL1, nI_add, pk_mul, sbT, dvT, nmd, ixT, ↓ibT, ltT, ltF, leT, leF, eqT, eqF, nM_ltT, nM_ltF, nM_leT, nM_leF, nM_eqF, nM_eqF', nbT0, nbT1, oI_s, oI_n, natF, natT, nltT, nltF, nleT, nleF, ↓reduceIte, lgc, not_true_eq_false, not_false_eq_true, or_false, false_or, or_true, true_or, and_true, true_and, and_false, false_and, ne_eq, eq_self, or_self, and_self]; done) | ((with_reducible refine wpf ?_ ?_); · simp (disch := first | omega | decide) only [↓neg1, nlit, rI, rL, rI2, rL1, nI_add, pk_mul, sbT, dvT, nmd, ixT, ↓ibT, ltT, ltF, leT, leF, eqT, eqF, nM_ltT, nM_ltF, nM_leT, nM_leF, nM_eqF, nM_eqF', nbT0, nbT1, oI_s, oI_n, natF, natT, nltT, nltF, nleT, nleF, ↓reduceIte, lgc, not_true_eq_false, not_false_eq_true, or_false, false_or, or_true, true_or, and_true, true_and, and_false, false_and, ne_eq, eq_self, or_self, and_self]; done))
  exact ⟨j1.1, j1, j2⟩
theorem e122 {n p s : Nat} {c m u : cS} (hn : 1000 ≤ n) (hA : AG m u) (hE : EC c m) (hP : isP m p s) (h4 : u.1 174 4 = nI 0) : wp (Option.bind (d_357 n (u.1 222 (ix (nI p))) u) (fun r7 =>
  Option.bind (whl (R := (cS)) (fun s9 : Int32 × cS =>
    if ib (nI p) 1219 then
    if (s9.2.1 222 (ix (nI p))) ≤ s9.1 then
      some (.inr s9.2)
    else
      Option.bind (d_392 n (nI p) s9.1) (fun v11 =>
      if ib v11 24380 then
      Option.bind (d_438 n (s9.2.2 223 (ix v11)) s9.2) (fun r14 =>
      if ib v11 24380 then
      jn (fun p16 : Int32 =>
        Option.bind (d_357 n p16 r14) (fun r17 =>
        Option.bind (whl (R := (cS)) (fun s19 : Int32 × cS =>
          if ib v11 24380 then
          if (s19.2.1 225 (ix v11)) ≤ s19.1 then
            some (.inr s19.2)
          else
            lt (((v11 * 4) + s19.1) : Int32) (fun v22 =>
            if ib v22 97520 then
            Option.bind (d_438 n (s19.2.2 226 (ix v22)) s19.2) (fun r25 =>
            if ib v22 97520 then
            Option.bind (d_357 n (r25.1 227 (ix v22)) r25) (fun r27 =>
            if ib v22 97520 then
            jn (fun p29 : cS =>
              Option.bind (whl (R := (cS)) (fun s31 : Int32 × cS =>
                if s31.1 < 0 then
                  some (.inr s31.2)
                else
                  if ib v22 97520 then
                  if (s31.2.1 227 (ix v22)) = 1 then
                    if ib v22 97520 then
                    Option.bind (d_357 n (((((s31.2.2 228 (ix v22)) >>> ((s31.1 : Int32).toInt64 &&& 63)) &&& 255) : Int64).toInt32) s31.2) (fun r34 =>
                    lt (s31.1 + (-8) : Int32) (fun v36 =>
                    some (.inl (v36, r34))))
                    else none
                  else
                    some (.inr s31.2)
                  else none) n (24, p29))
              (fun x38 : cS =>
                lt (s19.1 + 1 : Int32) (fun v40 =>
                some (.inl (v40, x38)))))
            (fun j150 =>
            if (r27.1 227 (ix v22)) = 1 then
              j150 r27
            else
              if ib v22 97520 then
              Option.bind (d_438 n (r27.2 228 (ix v22)) r27) (fun r43 =>
              j150 r43)
              else none)
            else none)
            else none)
            else none)
          else none) n (0, r17))
        (fun x44 : cS =>
          lt (s9.1 + 1 : Int32) (fun v46 =>
          some (.inl (v46, x44))))))
      (fun j81 =>
      if (r14.1 224 (ix v11)) = 0 then
        if ib v11 24380 then
        j81 (r14.1 225 (ix v11))
        else none
      else
        j81 255)
      else none)
      else none)
    else none) n (0, r7))
  (fun x49 : cS =>
    some ((x49.1 174 4), x49)))) (fun r => r.1 = nI (min (flR m p).length 8000) ∧ OM r.2 (flR m p) ∧ sx pO u r.2) := by
  obtain ⟨r1, r2, r3, r4⟩ := EC_row hE hP
  have hA1 : ∀ d, sx pO u d → AG m d := fun d hd => AG_sx hA hd nP_pO
  rw [show u.1 222 (ix (nI p)) = nI (mz m p) by rw [ix_n (by omega), hA.2.2.2.1 _ (by omega)]; exact r3]
  refine wpc (e357 (L := []) (by omega) (OM_nil h4)) (fun d hd => ?_)
  refine wpc (K' := fun w : cS => OM w (flR m p) ∧ sx pO u w) (whl_cnt (fun i (st : Int32 × cS) => st.1 = nI i ∧ OM st.2 ([mz m p] ++ catN (fun i => flM m (p * 20 + i)) i) ∧ sx pO u st.2) (mz m p) ?_ ?_ (by omega) ⟨rfl, hd.1, hd.2⟩) ?_
  · rintro i ⟨b, w⟩ hi ⟨g2, g3, g4⟩
    dsimp only at g2 g3 g4
    subst g2
    obtain ⟨a1, a2, a3, a4, -⟩ := EC_mk hE hP hi
    obtain ⟨q1, q2, q3, q4, q5, q6, q7, q8, q9⟩ := id a3
    have Y : ∀ y, sx pO u y → y.1 222 p = nI (mz m p) ∧ y.2 223 (p * 20 + i) = m.2 223 (p * 20 + i) ∧ y.1 224 (p * 20 + i) = m.1 224 (p * 20 + i) ∧ y.1 225 (p * 20 + i) = nI (prn m (p * 20 + i)) := by
      intro y hy
      obtain ⟨A1, A2, A3, A4, A5, A6, A7, A8, A9, A10⟩ := hA1 y hy
      exact ⟨(A4 _ (by omega)).trans r3, A5 _ (by omega), A6 _ (by omega), (A7 _ (by omega)).trans q6⟩
    (try dsimp only); repeat (first | with_reducible refine wpl ?_ | with_reducible refine wpj ?_ | with_reducible refine wpSl ?_ | with_reducible refine wpSr ?_ | with_reducible refine wpS ?_ | ((with_reducible refine wpt ?_ ?_); · simp (disch := first | omega | decide) only [↓neg1, nlit, rI, rL, rI2, rL1, nI_add, pk_mul, sbT, dvT, nmd, ixT, ↓ibT, ltT, ltF, leT, leF, eqT, eqF, nM_ltT, nM_ltF, nM_leT, nM_leF, nM_eqF, nM_eqF', nbT0, nbT1, oI_s, oI_n, natF, natT, nltT, nltF, nleT, nleF, ↓reduceIte, lgc, not_true_eq_false, not_false_eq_true, or_false, false_or, or_true, true_or, and_true, true_and, and_false, false_and, ne_eq, eq_self, or_self, and_self, (Y w g4).1]; done) | ((with_reducible refine wpf ?_ ?_); · simp (disch := first | omega | decide) only [↓neg1, nlit, rI, rL, rI2, rL1, nI_add, pk_mul, sbT, dvT, nmd, ixT, ↓ibT, ltT, ltF, leT, leF, eqT, eqF, nM_ltT, nM_ltF, nM_leT, nM_leF, nM_eqF, nM_eqF', nbT0, nbT1, oI_s, oI_n, natF, natT, nltT, nltF, nleT, nleF, ↓reduceIte, lgc, not_true_eq_false, not_false_eq_true, or_false, false_or, or_true, true_or, and_true, true_and, and_false, false_and, ne_eq, eq_self, or_self, and_self, (Y w g4).1]; done))
    refine wpe e392 ?_
    (try dsimp only); repeat (first | with_reducible refine wpl ?_ | with_reducible refine wpj ?_ | with_reducible refine wpSl ?_ | with_reducible refine wpSr ?_ | with_reducible refine wpS ?_ | ((with_reducible refine wpt ?_ ?_); · simp (disch := first | omega | decide) only [↓neg1, nlit, rI, rL, rI2, rL1, nI_add, pk_mul, sbT, dvT, nmd, ixT, ↓ibT, ltT, ltF, leT, leF, eqT, eqF, nM_ltT, nM_ltF, nM_leT, nM_leF, nM_eqF, nM_eqF', nbT0, nbT1, oI_s, oI_n, natF, natT, nltT, nltF, nleT, nleF, ↓reduceIte, lgc, not_true_eq_false, not_false_eq_true, or_false, false_or, or_true, true_or, and_true, true_and, and_false, false_and, ne_eq, eq_self, or_self, and_self]; done) | ((with_reducible refine wpf ?_ ?_); · simp (disch := first | omega | decide) only [↓neg1, nlit, rI, rL, rI2, rL1, nI_add, pk_mul, sbT, dvT, nmd, ixT, ↓ibT, ltT, ltF, leT, leF, eqT, eqF, nM_ltT, nM_ltF, nM_leT, nM_leF, nM_eqF, nM_eqF', nbT0, nbT1, oI_s, oI_n, natF, natT, nltT, nltF, nleT, nleF, ↓reduceIte, lgc, not_true_eq_false, not_false_eq_true, or_false, false_or, or_true, true_or, and_true, true_and, and_false, false_and, ne_eq, eq_self, or_self, and_self]; done))
    rw [show w.2 223 (ix (nI (p * 20 + i))) = m.2 223 (p * 20 + i) by rw [ix_n (by omega)]; exact (Y w g4).2.1]
    refine wpc (e438 hn g3) (fun w1 hw1 => ?_)
    have k1 : sx pO u w1 := sx_trans g4 hw1.2
    (try dsimp only); repeat (first | with_reducible refine wpl ?_ | with_reducible refine wpj ?_ | with_reducible refine wpSl ?_ | with_reducible refine wpSr ?_ | with_reducible refine wpS ?_ | ((with_reducible refine wpt ?_ ?_); · simp (disch := first | omega | decide) only [↓neg1, nlit, rI, rL, rI2, rL1, nI_add, pk_mul, sbT, dvT, nmd, ixT, ↓ibT, ltT, ltF, leT, leF, eqT, eqF, nM_ltT, nM_ltF, nM_leT, nM_leF, nM_eqF, nM_eqF', nbT0, nbT1, oI_s, oI_n, natF, natT, nltT, nltF, nleT, nleF, ↓reduceIte, lgc, not_true_eq_false, not_false_eq_true, or_false, false_or, or_true, true_or, and_true, true_and, and_false, false_and, ne_eq, eq_self, or_self, and_self]; done) | ((with_reducible refine wpf ?_ ?_); · simp (disch := first | omega | decide) only [↓neg1, nlit, rI, rL, rI2, rL1, nI_add, pk_mul, sbT, dvT, nmd, ixT, ↓ibT, ltT, ltF, leT, leF, eqT, eqF, nM_ltT, nM_ltF, nM_leT, nM_leF, nM_eqF, nM_eqF', nbT0, nbT1, oI_s, oI_n, natF, natT, nltT, nltF, nleT, nleF, ↓reduceIte, lgc, not_true_eq_false, not_false_eq_true, or_false, false_or, or_true, true_or, and_true, true_and, and_false, false_and, ne_eq, eq_self, or_self, and_self]; done))
    generalize hbb : (if m.1 224 (p * 20 + i) = nI 0 then prn m (p * 20 + i) else 255) = b
    have hb256 : b < 256 := by
      rw [← hbb]
      split <;> omega
    have hcase : (m.1 224 (p * 20 + i) = nI 0 ∧ b = prn m (p * 20 + i)) ∨ (m.1 224 (p * 20 + i) = nI 1 ∧ b = 255) := by
      rcases q4 with z | z
      · exact Or.inl ⟨z, by rw [← hbb]; exact if_pos z⟩
      · exact Or.inr ⟨z, by rw [← hbb]; exact if_neg (by rw [z]; decide)⟩
    have hX : ∀ {f : cS → Option ((Int32 × cS) ⊕ cS)} {K : (Int32 × cS) ⊕ cS → Prop}, wp (Option.bind (d_357 n (nI b) w1) f) K → wp (if (w1.1 224 (ix (nI (p * 20 + i)))) = 0 then if ib (nI (p * 20 + i)) 24380 then Option.bind (d_357 n (w1.1 225 (ix (nI (p * 20 + i)))) w1) f else none else Option.bind (d_357 n 255 w1) f) K := by
      intro f K hf
      rcases hcase with ⟨z, hb⟩ | ⟨z, hb⟩
      · (try dsimp only); repeat (first | with_reducible refine wpl ?_ | with_reducible refine wpj ?_ | with_reducible refine wpSl ?_ | with_reducible refine wpSr ?_ | with_reducible refine wpS ?_ | ((with_reducible refine wpt ?_ ?_); · simp (disch := first | omega | decide) only [↓neg1, nlit, rI, rL, rI2, rL1, nI_add, pk_mul, sbT, dvT, nmd, ixT, ↓ibT, ltT, ltF, leT, leF, eqT, eqF, nM_ltT, nM_ltF, nM_leT, nM_leF, nM_eqF, nM_eqF', nbT0, nbT1, oI_s, oI_n, natF, natT, nltT, nltF, nleT, nleF, ↓reduceIte, lgc, not_true_eq_false, not_false_eq_true, or_false, false_or, or_true, true_or, and_true, true_and, and_false, false_and, ne_eq, eq_self, or_self, and_self, (Y w1 k1).2.2.1, z]; done) | ((with_reducible refine wpf ?_ ?_); · simp (disch := first | omega | decide) only [↓neg1, nlit, rI, rL, rI2, rL1, nI_add, pk_mul, sbT, dvT, nmd, ixT, ↓ibT, ltT, ltF, leT, leF, eqT, eqF, nM_ltT, nM_ltF, nM_leT, nM_leF, nM_eqF, nM_eqF', nbT0, nbT1, oI_s, oI_n, natF, natT, nltT, nltF, nleT, nleF, ↓reduceIte, lgc, not_true_eq_false, not_false_eq_true, or_false, false_or, or_true, true_or, and_true, true_and, and_false, false_and, ne_eq, eq_self, or_self, and_self, (Y w1 k1).2.2.1, z]; done))
        rw [ix_n (by omega), (Y w1 k1).2.2.2, ← hb]
        exact hf
      · (try dsimp only); repeat (first | with_reducible refine wpl ?_ | with_reducible refine wpj ?_ | with_reducible refine wpSl ?_ | with_reducible refine wpSr ?_ | with_reducible refine wpS ?_ | ((with_reducible refine wpt ?_ ?_); · simp (disch := first | omega | decide) only [↓neg1, nlit, rI, rL, rI2, rL1, nI_add, pk_mul, sbT, dvT, nmd, ixT, ↓ibT, ltT, ltF, leT, leF, eqT, eqF, nM_ltT, nM_ltF, nM_leT, nM_leF, nM_eqF, nM_eqF', nbT0, nbT1, oI_s, oI_n, natF, natT, nltT, nltF, nleT, nleF, ↓reduceIte, lgc, not_true_eq_false, not_false_eq_true, or_false, false_or, or_true, true_or, and_true, true_and, and_false, false_and, ne_eq, eq_self, or_self, and_self, (Y w1 k1).2.2.1, z]; done) | ((with_reducible refine wpf ?_ ?_); · simp (disch := first | omega | decide) only [↓neg1, nlit, rI, rL, rI2, rL1, nI_add, pk_mul, sbT, dvT, nmd, ixT, ↓ibT, ltT, ltF, leT, leF, eqT, eqF, nM_ltT, nM_ltF, nM_leT, nM_leF, nM_eqF, nM_eqF', nbT0, nbT1, oI_s, oI_n, natF, natT, nltT, nltF, nleT, nleF, ↓reduceIte, lgc, not_true_eq_false, not_false_eq_true, or_false, false_or, or_true, true_or, and_true, true_and, and_false, false_and, ne_eq, eq_self, or_self, and_self, (Y w1 k1).2.2.1, z]; done))
        rw [hb] at hf
        exact hf
    refine hX ?_
    refine wpc (e357 hb256 hw1.1) (fun w2 hw2 => ?_)
    have k2 : sx pO u w2 := sx_trans k1 hw2.2
    refine wpc (K' := fun w : cS => OM w ([mz m p] ++ catN (fun i => flM m (p * 20 + i)) (i + 1)) ∧ sx pO u w) (whl_cnt (fun q (st : Int32 × cS) => st.1 = nI q ∧ OM st.2 ([mz m p] ++ catN (fun i => flM m (p * 20 + i)) i ++ ([szN (m.2 223 (p * 20 + i))] ++ sg (m.2 223 (p * 20 + i))) ++ [b] ++ catN (flP m (p * 20 + i)) q) ∧ sx pO u st.2) (prn m (p * 20 + i)) ?_ ?_ (by omega) ⟨rfl, ?_, k2⟩) ?_
    · rintro q ⟨a, x⟩ hq ⟨j1, j2, j3⟩
      dsimp only at j1 j2 j3
      subst j1
      obtain ⟨n1, n2, ⟨sr, sr1, sr2, n3⟩, n4, n5⟩ := q9 q hq
      have X : ∀ y, sx pO u y → y.2 226 ((p * 20 + i) * 4 + q) = m.2 226 ((p * 20 + i) * 4 + q) ∧ y.1 227 ((p * 20 + i) * 4 + q) = nI sr ∧ y.2 228 ((p * 20 + i) * 4 + q) = m.2 228 ((p * 20 + i) * 4 + q) := by
        intro y hy
        obtain ⟨A1, A2, A3, A4, A5, A6, A7, A8, A9, A10⟩ := hA1 y hy
        exact ⟨A8 _ (by omega), (A9 _ (by omega)).trans n3, A10 _ (by omega)⟩
      (try dsimp only); repeat (first | with_reducible refine wpl ?_ | with_reducible refine wpj ?_ | with_reducible refine wpSl ?_ | with_reducible refine wpSr ?_ | with_reducible refine wpS ?_ | ((with_reducible refine wpt ?_ ?_); · simp (disch := first | omega | decide) only [↓neg1, nlit, rI, rL, rI2, rL1, nI_add, pk_mul, sbT, dvT, nmd, ixT, ↓ibT, ltT, ltF, leT, leF, eqT, eqF, nM_ltT, nM_ltF, nM_leT, nM_leF, nM_eqF, nM_eqF', nbT0, nbT1, oI_s, oI_n, natF, natT, nltT, nltF, nleT, nleF, ↓reduceIte, lgc, not_true_eq_false, not_false_eq_true, or_false, false_or, or_true, true_or, and_true, true_and, and_false, false_and, ne_eq, eq_self, or_self, and_self, (Y x j3).2.2.2]; done) | ((with_reducible refine wpf ?_ ?_); · simp (disch := first | omega | decide) only [↓neg1, nlit, rI, rL, rI2, rL1, nI_add, pk_mul, sbT, dvT, nmd, ixT, ↓ibT, ltT, ltF, leT, leF, eqT, eqF, nM_ltT, nM_ltF, nM_leT, nM_leF, nM_eqF, nM_eqF', nbT0, nbT1, oI_s, oI_n, natF, natT, nltT, nltF, nleT, nleF, ↓reduceIte, lgc, not_true_eq_false, not_false_eq_true, or_false, false_or, or_true, true_or, and_true, true_and, and_false, false_and, ne_eq, eq_self, or_self, and_self, (Y x j3).2.2.2]; done))
      rw [show nI (p * 20 + i) * 4 + nI q = nI ((p * 20 + i) * 4 + q) by rw [show (4 : Int32) = nI 4 from rfl, pk_mul, nI_add]]
      (try dsimp only); repeat (first | with_reducible refine wpl ?_ | with_reducible refine wpj ?_ | with_reducible refine wpSl ?_ | with_reducible refine wpSr ?_ | with_reducible refine wpS ?_ | ((with_reducible refine wpt ?_ ?_); · simp (disch := first | omega | decide) only [↓neg1, nlit, rI, rL, rI2, rL1, nI_add, pk_mul, sbT, dvT, nmd, ixT, ↓ibT, ltT, ltF, leT, leF, eqT, eqF, nM_ltT, nM_ltF, nM_leT, nM_leF, nM_eqF, nM_eqF', nbT0, nbT1, oI_s, oI_n, natF, natT, nltT, nltF, nleT, nleF, ↓reduceIte, lgc, not_true_eq_false, not_false_eq_true, or_false, false_or, or_true, true_or, and_true, true_and, and_false, false_and, ne_eq, eq_self, or_self, and_self]; done) | ((with_reducible refine wpf ?_ ?_); · simp (disch := first | omega | decide) only [↓neg1, nlit, rI, rL, rI2, rL1, nI_add, pk_mul, sbT, dvT, nmd, ixT, ↓ibT, ltT, ltF, leT, leF, eqT, eqF, nM_ltT, nM_ltF, nM_leT, nM_leF, nM_eqF, nM_eqF', nbT0, nbT1, oI_s, oI_n, natF, natT, nltT, nltF, nleT, nleF, ↓reduceIte, lgc, not_true_eq_false, not_false_eq_true, or_false, false_or, or_true, true_or, and_true, true_and, and_false, false_and, ne_eq, eq_self, or_self, and_self]; done))
      rw [show x.2 226 (ix (nI ((p * 20 + i) * 4 + q))) = m.2 226 ((p * 20 + i) * 4 + q) by rw [ix_n (by omega)]; exact (X x j3).1]
      refine wpc (e438 hn j2) (fun x1 hx1 => ?_)
      have l1 : sx pO u x1 := sx_trans j3 hx1.2
      (try dsimp only); repeat (first | with_reducible refine wpl ?_ | with_reducible refine wpj ?_ | with_reducible refine wpSl ?_ | with_reducible refine wpSr ?_ | with_reducible refine wpS ?_ | ((with_reducible refine wpt ?_ ?_); · simp (disch := first | omega | decide) only [↓neg1, nlit, rI, rL, rI2, rL1, nI_add, pk_mul, sbT, dvT, nmd, ixT, ↓ibT, ltT, ltF, leT, leF, eqT, eqF, nM_ltT, nM_ltF, nM_leT, nM_leF, nM_eqF, nM_eqF', nbT0, nbT1, oI_s, oI_n, natF, natT, nltT, nltF, nleT, nleF, ↓reduceIte, lgc, not_true_eq_false, not_false_eq_true, or_false, false_or, or_true, true_or, and_true, true_and, and_false, false_and, ne_eq, eq_self, or_self, and_self]; done) | ((with_reducible refine wpf ?_ ?_); · simp (disch := first | omega | decide) only [↓neg1, nlit, rI, rL, rI2, rL1, nI_add, pk_mul, sbT, dvT, nmd, ixT, ↓ibT, ltT, ltF, leT, leF, eqT, eqF, nM_ltT, nM_ltF, nM_leT, nM_leF, nM_eqF, nM_eqF', nbT0, nbT1, oI_s, oI_n, natF, natT, nltT, nltF, nleT, nleF, ↓reduceIte, lgc, not_true_eq_false, not_false_eq_true, or_false, false_or, or_true, true_or, and_true, true_and, and_false, false_and, ne_eq, eq_self, or_self, and_self]; done))
      rw [show x1.1 227 (ix (nI ((p * 20 + i) * 4 + q))) = nI sr by rw [ix_n (by omega)]; exact (X x1 l1).2.1]
      refine wpc (e357 (by omega) hx1.1) (fun x2 hx2 => ?_)
      have l2 : sx pO u x2 := sx_trans l1 hx2.2
      have hsr : ix (m.1 227 ((p * 20 + i) * 4 + q)) = sr := by
        rw [n3, ix_n (by omega)]
      by_cases hs1 : sr = 1
      · subst hs1
        (try dsimp only); repeat (first | with_reducible refine wpl ?_ | with_reducible refine wpj ?_ | with_reducible refine wpSl ?_ | with_reducible refine wpSr ?_ | with_reducible refine wpS ?_ | ((with_reducible refine wpt ?_ ?_); · simp (disch := first | omega | decide) only [↓neg1, nlit, rI, rL, rI2, rL1, nI_add, pk_mul, sbT, dvT, nmd, ixT, ↓ibT, ltT, ltF, leT, leF, eqT, eqF, nM_ltT, nM_ltF, nM_leT, nM_leF, nM_eqF, nM_eqF', nbT0, nbT1, oI_s, oI_n, natF, natT, nltT, nltF, nleT, nleF, ↓reduceIte, lgc, not_true_eq_false, not_false_eq_true, or_false, false_or, or_true, true_or, and_true, true_and, and_false, false_and, ne_eq, eq_self, or_self, and_self, (X x2 l2).2.1]; done) | ((with_reducible refine wpf ?_ ?_); · simp (disch := first | omega | decide) only [↓neg1, nlit, rI, rL, rI2, rL1, nI_add, pk_mul, sbT, dvT, nmd, ixT, ↓ibT, ltT, ltF, leT, leF, eqT, eqF, nM_ltT, nM_ltF, nM_leT, nM_leF, nM_eqF, nM_eqF', nbT0, nbT1, oI_s, oI_n, natF, natT, nltT, nltF, nleT, nleF, ↓reduceIte, lgc, not_true_eq_false, not_false_eq_true, or_false, false_or, or_true, true_or, and_true, true_and, and_false, false_and, ne_eq, eq_self, or_self, and_self, (X x2 l2).2.1]; done))
        refine wpc (K' := fun w : cS => OM w ([mz m p] ++ catN (fun i => flM m (p * 20 + i)) i ++ ([szN (m.2 223 (p * 20 + i))] ++ sg (m.2 223 (p * 20 + i))) ++ [b] ++ catN (flP m (p * 20 + i)) (q + 1)) ∧ sx pO u w) (whl_cnt (fun k (st : Int32 × cS) => st.1 = sf4 k ∧ OM st.2 ([mz m p] ++ catN (fun i => flM m (p * 20 + i)) i ++ ([szN (m.2 223 (p * 20 + i))] ++ sg (m.2 223 (p * 20 + i))) ++ [b] ++ catN (flP m (p * 20 + i)) q ++ ([szN (m.2 226 ((p * 20 + i) * 4 + q))] ++ sg (m.2 226 ((p * 20 + i) * 4 + q))) ++ [1] ++ fourK (m.2 228 ((p * 20 + i) * 4 + q)) k) ∧ sx pO u st.2) 4 ?_ ?_ (by omega) ⟨rfl, ?_, l2⟩) ?_
        · rintro k ⟨a, w⟩ hk ⟨o1, o2, o3⟩
          dsimp only at o1 o2 o3
          subst o1
          obtain ⟨f1, f2, f3⟩ := sf4_at hk
          have hbz := bz8_lt (m.2 228 ((p * 20 + i) * 4 + q)) (24 - 8 * k)
          dsimp only
          refine wpf (by rw [f2]; exact id) ?_
          (try dsimp only); repeat (first | with_reducible refine wpl ?_ | with_reducible refine wpj ?_ | with_reducible refine wpSl ?_ | with_reducible refine wpSr ?_ | with_reducible refine wpS ?_ | ((with_reducible refine wpt ?_ ?_); · simp (disch := first | omega | decide) only [↓neg1, nlit, rI, rL, rI2, rL1, nI_add, pk_mul, sbT, dvT, nmd, ixT, ↓ibT, ltT, ltF, leT, leF, eqT, eqF, nM_ltT, nM_ltF, nM_leT, nM_leF, nM_eqF, nM_eqF', nbT0, nbT1, oI_s, oI_n, natF, natT, nltT, nltF, nleT, nleF, ↓reduceIte, lgc, not_true_eq_false, not_false_eq_true, or_false, false_or, or_true, true_or, and_true, true_and, and_false, false_and, ne_eq, eq_self, or_self, and_self, (X w o3).2.1]; done) | ((with_reducible refine wpf ?_ ?_); · simp (disch := first | omega | decide) only [↓neg1, nlit, rI, rL, rI2, rL1, nI_add, pk_mul, sbT, dvT, nmd, ixT, ↓ibT, ltT, ltF, leT, leF, eqT, eqF, nM_ltT, nM_ltF, nM_leT, nM_leF, nM_eqF, nM_eqF', nbT0, nbT1, oI_s, oI_n, natF, natT, nltT, nltF, nleT, nleF, ↓reduceIte, lgc, not_true_eq_false, not_false_eq_true, or_false, false_or, or_true, true_or, and_true, true_and, and_false, false_and, ne_eq, eq_self, or_self, and_self, (X w o3).2.1]; done))
          rw [f3, f1, show w.2 228 (ix (nI ((p * 20 + i) * 4 + q))) = m.2 228 ((p * 20 + i) * 4 + q) by rw [ix_n (by omega)]; exact (X w o3).2.2]
          rw [ssh8 (by omega), (in32 hbz).1]
          refine wpc (e357 hbz o2) (fun x3 hx3 => ?_)
          (try dsimp only); repeat (first | with_reducible refine wpl ?_ | with_reducible refine wpj ?_ | with_reducible refine wpSl ?_ | with_reducible refine wpSr ?_ | with_reducible refine wpS ?_ | ((with_reducible refine wpt ?_ ?_); · simp (disch := first | omega | decide) only [↓neg1, nlit, rI, rL, rI2, rL1, nI_add, pk_mul, sbT, dvT, nmd, ixT, ↓ibT, ltT, ltF, leT, leF, eqT, eqF, nM_ltT, nM_ltF, nM_leT, nM_leF, nM_eqF, nM_eqF', nbT0, nbT1, oI_s, oI_n, natF, natT, nltT, nltF, nleT, nleF, ↓reduceIte, lgc, not_true_eq_false, not_false_eq_true, or_false, false_or, or_true, true_or, and_true, true_and, and_false, false_and, ne_eq, eq_self, or_self, and_self]; done) | ((with_reducible refine wpf ?_ ?_); · simp (disch := first | omega | decide) only [↓neg1, nlit, rI, rL, rI2, rL1, nI_add, pk_mul, sbT, dvT, nmd, ixT, ↓ibT, ltT, ltF, leT, leF, eqT, eqF, nM_ltT, nM_ltF, nM_leT, nM_leF, nM_eqF, nM_eqF', nbT0, nbT1, oI_s, oI_n, natF, natT, nltT, nltF, nleT, nleF, ↓reduceIte, lgc, not_true_eq_false, not_false_eq_true, or_false, false_or, or_true, true_or, and_true, true_and, and_false, false_and, ne_eq, eq_self, or_self, and_self]; done))
          refine ⟨rfl, ?_, sx_trans o3 hx3.2⟩
          unfold fourK
          rw [← List.append_assoc]
          exact hx3.1
        · rintro ⟨a, w⟩ ⟨o1, o2, o3⟩
          dsimp only at o1 o2 o3
          subst o1
          refine wpt (show sf4 4 < 0 by decide) ⟨?_, o3⟩
          have : flP m (p * 20 + i) q = [szN (m.2 226 ((p * 20 + i) * 4 + q))] ++ sg (m.2 226 ((p * 20 + i) * 4 + q)) ++ [1] ++ fourK (m.2 228 ((p * 20 + i) * 4 + q)) 4 := by
            unfold flP
            rw [hsr, if_pos n3]
          show OM w (_ ++ (catN _ q ++ flP m (p * 20 + i) q))
          rw [this]
          simpa only [List.append_assoc] using o2
        · show OM x2 (_ ++ [])
          rw [List.append_nil]
          exact hx2.1
        · rintro w ⟨o1, o2⟩
          (try dsimp only); repeat (first | with_reducible refine wpl ?_ | with_reducible refine wpj ?_ | with_reducible refine wpSl ?_ | with_reducible refine wpSr ?_ | with_reducible refine wpS ?_ | ((with_reducible refine wpt ?_ ?_); · simp (disch := first | omega | decide) only [↓neg1, nlit, rI, rL, rI2, rL1, nI_add, pk_mul, sbT, dvT, nmd, ixT, ↓ibT, ltT, ltF, leT, leF, eqT, eqF, nM_ltT, nM_ltF, nM_leT, nM_leF, nM_eqF, nM_eqF', nbT0, nbT1, oI_s, oI_n, natF, natT, nltT, nltF, nleT, nleF, ↓reduceIte, lgc, not_true_eq_false, not_false_eq_true, or_false, false_or, or_true, true_or, and_true, true_and, and_false, false_and, ne_eq, eq_self, or_self, and_self]; done) | ((with_reducible refine wpf ?_ ?_); · simp (disch := first | omega | decide) only [↓neg1, nlit, rI, rL, rI2, rL1, nI_add, pk_mul, sbT, dvT, nmd, ixT, ↓ibT, ltT, ltF, leT, leF, eqT, eqF, nM_ltT, nM_ltF, nM_leT, nM_leF, nM_eqF, nM_eqF', nbT0, nbT1, oI_s, oI_n, natF, natT, nltT, nltF, nleT, nleF, ↓reduceIte, lgc, not_true_eq_false, not_false_eq_true, or_false, false_or, or_true, true_or, and_true, true_and, and_false, false_and, ne_eq, eq_self, or_self, and_self]; done))
          exact ⟨nI_1 _, o1, o2⟩
      · have hs1' : (nI sr = nI 1) = False := by simp (disch := first | omega | decide) only [↓neg1, nlit, rI, rL, rI2, rL1, nI_add, pk_mul, sbT, dvT, nmd, ixT, ↓ibT, ltT, ltF, leT, leF, eqT, eqF, nM_ltT, nM_ltF, nM_leT, nM_leF, nM_eqF, nM_eqF', nbT0, nbT1, oI_s, oI_n, natF, natT, nltT, nltF, nleT, nleF, ↓reduceIte, lgc, not_true_eq_false, not_false_eq_true, or_false, false_or, or_true, true_or, and_true, true_and, and_false, false_and, ne_eq, eq_self, or_self, and_self]
        (try dsimp only); repeat (first | with_reducible refine wpl ?_ | with_reducible refine wpj ?_ | with_reducible refine wpSl ?_ | with_reducible refine wpSr ?_ | with_reducible refine wpS ?_ | ((with_reducible refine wpt ?_ ?_); · simp (disch := first | omega | decide) only [↓neg1, nlit, rI, rL, rI2, rL1, nI_add, pk_mul, sbT, dvT, nmd, ixT, ↓ibT, ltT, ltF, leT, leF, eqT, eqF, nM_ltT, nM_ltF, nM_leT, nM_leF, nM_eqF, nM_eqF', nbT0, nbT1, oI_s, oI_n, natF, natT, nltT, nltF, nleT, nleF, ↓reduceIte, lgc, not_true_eq_false, not_false_eq_true, or_false, false_or, or_true, true_or, and_true, true_and, and_false, false_and, ne_eq, eq_self, or_self, and_self, (X x2 l2).2.1]; done) | ((with_reducible refine wpf ?_ ?_); · simp (disch := first | omega | decide) only [↓neg1, nlit, rI, rL, rI2, rL1, nI_add, pk_mul, sbT, dvT, nmd, ixT, ↓ibT, ltT, ltF, leT, leF, eqT, eqF, nM_ltT, nM_ltF, nM_leT, nM_leF, nM_eqF, nM_eqF', nbT0, nbT1, oI_s, oI_n, natF, natT, nltT, nltF, nleT, nleF, ↓reduceIte, lgc, not_true_eq_false, not_false_eq_true, or_false, false_or, or_true, true_or, and_true, true_and, and_false, false_and, ne_eq, eq_self, or_self, and_self, (X x2 l2).2.1]; done))
        rw [show x2.2 228 (ix (nI ((p * 20 + i) * 4 + q))) = m.2 228 ((p * 20 + i) * 4 + q) by rw [ix_n (by omega)]; exact (X x2 l2).2.2]
        refine wpc (e438 hn hx2.1) (fun x3 hx3 => ?_)
        have l3 : sx pO u x3 := sx_trans l2 hx3.2
        refine wpc (K' := fun w : cS => w = x3) (whl_cnt (fun k (st : Int32 × cS) => st = (24, x3)) 0 (fun k st hk => by omega) ?_ (by omega) rfl) ?_
        · rintro st rfl
          refine wpf (show ¬ (24 : Int32) < 0 by decide) ?_
          (try dsimp only); repeat (first | with_reducible refine wpl ?_ | with_reducible refine wpj ?_ | with_reducible refine wpSl ?_ | with_reducible refine wpSr ?_ | with_reducible refine wpS ?_ | ((with_reducible refine wpt ?_ ?_); · simp (disch := first | omega | decide) only [↓neg1, nlit, rI, rL, rI2, rL1, nI_add, pk_mul, sbT, dvT, nmd, ixT, ↓ibT, ltT, ltF, leT, leF, eqT, eqF, nM_ltT, nM_ltF, nM_leT, nM_leF, nM_eqF, nM_eqF', nbT0, nbT1, oI_s, oI_n, natF, natT, nltT, nltF, nleT, nleF, ↓reduceIte, lgc, not_true_eq_false, not_false_eq_true, or_false, false_or, or_true, true_or, and_true, true_and, and_false, false_and, ne_eq, eq_self, or_self, and_self, (X x3 l3).2.1]; done) | ((with_reducible refine wpf ?_ ?_); · simp (disch := first | omega | decide) only [↓neg1, nlit, rI, rL, rI2, rL1, nI_add, pk_mul, sbT, dvT, nmd, ixT, ↓ibT, ltT, ltF, leT, leF, eqT, eqF, nM_ltT, nM_ltF, nM_leT, nM_leF, nM_eqF, nM_eqF', nbT0, nbT1, oI_s, oI_n, natF, natT, nltT, nltF, nleT, nleF, ↓reduceIte, lgc, not_true_eq_false, not_false_eq_true, or_false, false_or, or_true, true_or, and_true, true_and, and_false, false_and, ne_eq, eq_self, or_self, and_self, (X x3 l3).2.1]; done))
          exact rfl
        rintro w rfl
        (try dsimp only); repeat (first | with_reducible refine wpl ?_ | with_reducible refine wpj ?_ | with_reducible refine wpSl ?_ | with_reducible refine wpSr ?_ | with_reducible refine wpS ?_ | ((with_reducible refine wpt ?_ ?_); · simp (disch := first | omega | decide) only [↓neg1, nlit, rI, rL, rI2, rL1, nI_add, pk_mul, sbT, dvT, nmd, ixT, ↓ibT, ltT, ltF, leT, leF, eqT, eqF, nM_ltT, nM_ltF, nM_leT, nM_leF, nM_eqF, nM_eqF', nbT0, nbT1, oI_s, oI_n, natF, natT, nltT, nltF, nleT, nleF, ↓reduceIte, lgc, not_true_eq_false, not_false_eq_true, or_false, false_or, or_true, true_or, and_true, true_and, and_false, false_and, ne_eq, eq_self, or_self, and_self]; done) | ((with_reducible refine wpf ?_ ?_); · simp (disch := first | omega | decide) only [↓neg1, nlit, rI, rL, rI2, rL1, nI_add, pk_mul, sbT, dvT, nmd, ixT, ↓ibT, ltT, ltF, leT, leF, eqT, eqF, nM_ltT, nM_ltF, nM_leT, nM_leF, nM_eqF, nM_eqF', nbT0, nbT1, oI_s, oI_n, natF, natT, nltT, nltF, nleT, nleF, ↓reduceIte, lgc, not_true_eq_false, not_false_eq_true, or_false, false_or, or_true, true_or, and_true, true_and, and_false, false_and, ne_eq, eq_self, or_self, and_self]; done))
        refine ⟨nI_1 _, ?_, l3⟩
        have : flP m (p * 20 + i) q = [szN (m.2 226 ((p * 20 + i) * 4 + q))] ++ sg (m.2 226 ((p * 20 + i) * 4 + q)) ++ [sr] ++ ([szN (m.2 228 ((p * 20 + i) * 4 + q))] ++ sg (m.2 228 ((p * 20 + i) * 4 + q))) := by
          unfold flP
          rw [hsr, if_neg (by rw [n3, hs1']; exact id)]
        show OM w (_ ++ (catN _ q ++ flP m (p * 20 + i) q))
        rw [this]
        simpa only [List.append_assoc] using hx3.1
    · rintro ⟨a, x⟩ ⟨j1, j2, j3⟩
      dsimp only at j1 j2 j3
      subst j1
      (try dsimp only); repeat (first | with_reducible refine wpl ?_ | with_reducible refine wpj ?_ | with_reducible refine wpSl ?_ | with_reducible refine wpSr ?_ | with_reducible refine wpS ?_ | ((with_reducible refine wpt ?_ ?_); · simp (disch := first | omega | decide) only [↓neg1, nlit, rI, rL, rI2, rL1, nI_add, pk_mul, sbT, dvT, nmd, ixT, ↓ibT, ltT, ltF, leT, leF, eqT, eqF, nM_ltT, nM_ltF, nM_leT, nM_leF, nM_eqF, nM_eqF', nbT0, nbT1, oI_s, oI_n, natF, natT, nltT, nltF, nleT, nleF, ↓reduceIte, lgc, not_true_eq_false, not_false_eq_true, or_false, false_or, or_true, true_or, and_true, true_and, and_false, false_and, ne_eq, eq_self, or_self, and_self, (Y x j3).2.2.2]; done) | ((with_reducible refine wpf ?_ ?_); · simp (disch := first | omega | decide) only [↓neg1, nlit, rI, rL, rI2, rL1, nI_add, pk_mul, sbT, dvT, nmd, ixT, ↓ibT, ltT, ltF, leT, leF, eqT, eqF, nM_ltT, nM_ltF, nM_leT, nM_leF, nM_eqF, nM_eqF', nbT0, nbT1, oI_s, oI_n, natF, natT, nltT, nltF, nleT, nleF, ↓reduceIte, lgc, not_true_eq_false, not_false_eq_true, or_false, false_or, or_true, true_or, and_true, true_and, and_false, false_and, ne_eq, eq_self, or_self, and_self, (Y x j3).2.2.2]; done))
      refine ⟨?_, j3⟩
      show OM x ([mz m p] ++ (catN (fun i => flM m (p * 20 + i)) i ++ flM m (p * 20 + i)))
      unfold flM at j2 ⊢
      rw [hbb]
      simpa only [List.append_assoc] using j2
    · show OM w2 (_ ++ [])
      rw [List.append_nil]
      exact hw2.1
    · rintro w3 ⟨j1, j2⟩
      (try dsimp only); repeat (first | with_reducible refine wpl ?_ | with_reducible refine wpj ?_ | with_reducible refine wpSl ?_ | with_reducible refine wpSr ?_ | with_reducible refine wpS ?_ | ((with_reducible refine wpt ?_ ?_); · simp (disch := first | omega | decide) only [↓neg1, nlit, rI, rL, rI2, rL1, nI_add, pk_mul, sbT, dvT, nmd, ixT, ↓ibT, ltT, ltF, leT, leF, eqT, eqF, nM_ltT, nM_ltF, nM_leT, nM_leF, nM_eqF, nM_eqF', nbT0, nbT1, oI_s, oI_n, natF, natT, nltT, nltF, nleT, nleF, ↓reduceIte, lgc, not_true_eq_false, not_false_eq_true, or_false, false_or, or_true, true_or, and_true, true_and, and_false, false_and, ne_eq, eq_self, or_self, and_self]; done) | ((with_reducible refine wpf ?_ ?_); · simp (disch := first | omega | decide) only [↓neg1, nlit, rI, rL, rI2, rL1, nI_add, pk_mul, sbT, dvT, nmd, ixT, ↓ibT, ltT, ltF, leT, leF, eqT, eqF, nM_ltT, nM_ltF, nM_leT, nM_leF, nM_eqF, nM_eqF', nbT0, nbT1, oI_s, oI_n, natF, natT, nltT, nltF, nleT, nleF, ↓reduceIte, lgc, not_true_eq_false, not_false_eq_true, or_false, false_or, or_true, true_or, and_true, true_and, and_false, false_and, ne_eq, eq_self, or_self, and_self]; done))
      exact ⟨nI_1 _, j1, j2⟩
  · rintro ⟨b, w⟩ ⟨g2, g3, g4⟩
    dsimp only at g2 g3 g4
    subst g2
    (try dsimp only); repeat (first | with_reducible refine wpl ?_ | with_reducible refine wpj ?_ | with_reducible refine wpSl ?_ | with_reducible refine wpSr ?_ | with_reducible refine wpS ?_ | ((with_reducible refine wpt ?_ ?_); · simp (disch := first | omega | decide) only [↓neg1, nlit, rI, rL, rI2, rL1, nI_add, pk_mul, sbT, dvT, nmd, ixT, ↓ibT, ltT, ltF, leT, leF, eqT, eqF, nM_ltT, nM_ltF, nM_leT, nM_leF, nM_eqF, nM_eqF', nbT0, nbT1, oI_s, oI_n, natF, natT, nltT, nltF, nleT, nleF, ↓reduceIte, lgc, not_true_eq_false, not_false_eq_true, or_false, false_or, or_true, true_or, and_true, true_and, and_false, false_and, ne_eq, eq_self, or_self, and_self, (hA1 w g4).2.2.2.1, r3]; done) | ((with_reducible refine wpf ?_ ?_); · simp (disch := first | omega | decide) only [↓neg1, nlit, rI, rL, rI2, rL1, nI_add, pk_mul, sbT, dvT, nmd, ixT, ↓ibT, ltT, ltF, leT, leF, eqT, eqF, nM_ltT, nM_ltF, nM_leT, nM_leF, nM_eqF, nM_eqF', nbT0, nbT1, oI_s, oI_n, natF, natT, nltT, nltF, nleT, nleF, ↓reduceIte, lgc, not_true_eq_false, not_false_eq_true, or_false, false_or, or_true, true_or, and_true, true_and, and_false, false_and, ne_eq, eq_self, or_self, and_self, (hA1 w g4).2.2.2.1, r3]; done))
    exact ⟨g3, g4⟩
  rintro w ⟨j1, j2⟩
  (try dsimp only); repeat (first | with_reducible refine wpl ?_ | with_reducible refine wpj ?_ | with_reducible refine wpSl ?_ | with_reducible refine wpSr ?_ | with_reducible refine wpS ?_ | ((with_reducible refine wpt ?_ ?_); · simp (disch := first | omega | decide) only [↓neg1, nlit, rI, rL, rI2, rL1, nI_add, pk_mul, sbT, dvT, nmd, ixT, ↓ibT, ltT, ltF, leT, leF, eqT, eqF, nM_ltT, nM_ltF, nM_leT, nM_leF, nM_eqF, nM_eqF', nbT0, nbT1, oI_s, oI_n, natF, natT, nltT, nltF, nleT, nleF, ↓reduceIte, lgc, not_true_eq_false, not_false_eq_true, or_false, false_or, or_true, true_or, and_true, true_and, and_false, false_and, ne_eq, eq_self, or_self, and_self]; done) | ((with_reducible refine wpf ?_ ?_); · simp (disch := first | omega | decide) only [↓neg1, nlit, rI, rL, rI2, rL1, nI_add, pk_mul, sbT, dvT, nmd, ixT, ↓ibT, ltT, ltF, leT, leF, eqT, eqF, nM_ltT, nM_ltF, nM_leT, nM_leF, nM_eqF, nM_eqF', nbT0, nbT1, oI_s, oI_n, natF, natT, nltT, nltF, nleT, nleF, ↓reduceIte, lgc, not_true_eq_false, not_false_eq_true, or_false, false_or, or_true, true_or, and_true, true_and, and_false, false_and, ne_eq, eq_self, or_self, and_self]; done))
  exact ⟨j1.1, j1, j2⟩
/-- what the calls that write leave -/
def q9O (a i : Nat) : Bool := decide ((a = 146 ∧ 3 ≤ i ∧ i ≤ 5) ∨ (a = 172 ∧ i = 1) ∨ a = 173)
theorem c_file {n : Nat} {a1 : Int32} {c u : cS} (hn : 1000 ≤ n) (h : PRG c (pI u 174 0 0)) (hJ : JO c (pI u 174 0 0)) : bo (d_66 n a1 c) (d_122 n a1 u) (fun d w => sx qO c d ∧ sx pO (pI u 174 0 0) w ∧ JO d w) := by
  unfold bo d_66 d_122 lt
  generalize pI u 174 0 0 = k at h hJ ⊢
  rcases h with ⟨h1, h2⟩ | ⟨h1, m, h2, hA, ⟨hE, hM, hT⟩⟩
  · obtain ⟨p1, p2⟩ := pl0 (n := n) (a := a1) h1 h2
    refine wpe p1 ?_
    (try dsimp only); repeat (first | with_reducible refine wpl ?_ | with_reducible refine wpj ?_ | with_reducible refine wpSl ?_ | with_reducible refine wpSr ?_ | with_reducible refine wpS ?_ | ((with_reducible refine wpt ?_ ?_); · simp (disch := first | omega | decide) only [↓neg1, nlit, rI, rL, rI2, rL1, nI_add, pk_mul, sbT, dvT, nmd, ixT, ↓ibT, ltT, ltF, leT, leF, eqT, eqF, nM_ltT, nM_ltF, nM_leT, nM_leF, nM_eqF, nM_eqF', nbT0, nbT1, oI_s, oI_n, natF, natT, nltT, nltF, nleT, nleF, ↓reduceIte, lgc, not_true_eq_false, not_false_eq_true, or_false, false_or, or_true, true_or, and_true, true_and, and_false, false_and, ne_eq, eq_self, or_self, and_self]; done) | ((with_reducible refine wpf ?_ ?_); · simp (disch := first | omega | decide) only [↓neg1, nlit, rI, rL, rI2, rL1, nI_add, pk_mul, sbT, dvT, nmd, ixT, ↓ibT, ltT, ltF, leT, leF, eqT, eqF, nM_ltT, nM_ltF, nM_leT, nM_leF, nM_eqF, nM_eqF', nbT0, nbT1, oI_s, oI_n, natF, natT, nltT, nltF, nleT, nleF, ↓reduceIte, lgc, not_true_eq_false, not_false_eq_true, or_false, false_or, or_true, true_or, and_true, true_and, and_false, false_and, ne_eq, eq_self, or_self, and_self]; done))
    refine wpe p2 ?_
    (try dsimp only); repeat (first | with_reducible refine wpl ?_ | with_reducible refine wpj ?_ | with_reducible refine wpSl ?_ | with_reducible refine wpSr ?_ | with_reducible refine wpS ?_ | ((with_reducible refine wpt ?_ ?_); · simp (disch := first | omega | decide) only [↓neg1, nlit, rI, rL, rI2, rL1, nI_add, pk_mul, sbT, dvT, nmd, ixT, ↓ibT, ltT, ltF, leT, leF, eqT, eqF, nM_ltT, nM_ltF, nM_leT, nM_leF, nM_eqF, nM_eqF', nbT0, nbT1, oI_s, oI_n, natF, natT, nltT, nltF, nleT, nleF, ↓reduceIte, lgc, not_true_eq_false, not_false_eq_true, or_false, false_or, or_true, true_or, and_true, true_and, and_false, false_and, ne_eq, eq_self, or_self, and_self]; done) | ((with_reducible refine wpf ?_ ?_); · simp (disch := first | omega | decide) only [↓neg1, nlit, rI, rL, rI2, rL1, nI_add, pk_mul, sbT, dvT, nmd, ixT, ↓ibT, ltT, ltF, leT, leF, eqT, eqF, nM_ltT, nM_ltF, nM_leT, nM_leF, nM_eqF, nM_eqF', nbT0, nbT1, oI_s, oI_n, natF, natT, nltT, nltF, nleT, nleF, ↓reduceIte, lgc, not_true_eq_false, not_false_eq_true, or_false, false_or, or_true, true_or, and_true, true_and, and_false, false_and, ne_eq, eq_self, or_self, and_self]; done))
    exact ⟨rfl, sx_rfl, sx_rfl, hJ⟩
  obtain ⟨hO, hK, hC, hP⟩ := id hE
  rcases plA (n := n) (a := a1) h1 h2 hA hC with ⟨p1, p2⟩ | ⟨p, s, p1, rfl, p3, p4, p5, p6, p7⟩
  · refine wpe p1 ?_
    (try dsimp only); repeat (first | with_reducible refine wpl ?_ | with_reducible refine wpj ?_ | with_reducible refine wpSl ?_ | with_reducible refine wpSr ?_ | with_reducible refine wpS ?_ | ((with_reducible refine wpt ?_ ?_); · simp (disch := first | omega | decide) only [↓neg1, nlit, rI, rL, rI2, rL1, nI_add, pk_mul, sbT, dvT, nmd, ixT, ↓ibT, ltT, ltF, leT, leF, eqT, eqF, nM_ltT, nM_ltF, nM_leT, nM_leF, nM_eqF, nM_eqF', nbT0, nbT1, oI_s, oI_n, natF, natT, nltT, nltF, nleT, nleF, ↓reduceIte, lgc, not_true_eq_false, not_false_eq_true, or_false, false_or, or_true, true_or, and_true, true_and, and_false, false_and, ne_eq, eq_self, or_self, and_self]; done) | ((with_reducible refine wpf ?_ ?_); · simp (disch := first | omega | decide) only [↓neg1, nlit, rI, rL, rI2, rL1, nI_add, pk_mul, sbT, dvT, nmd, ixT, ↓ibT, ltT, ltF, leT, leF, eqT, eqF, nM_ltT, nM_ltF, nM_leT, nM_leF, nM_eqF, nM_eqF', nbT0, nbT1, oI_s, oI_n, natF, natT, nltT, nltF, nleT, nleF, ↓reduceIte, lgc, not_true_eq_false, not_false_eq_true, or_false, false_or, or_true, true_or, and_true, true_and, and_false, false_and, ne_eq, eq_self, or_self, and_self]; done))
    refine wpe p2 ?_
    (try dsimp only); repeat (first | with_reducible refine wpl ?_ | with_reducible refine wpj ?_ | with_reducible refine wpSl ?_ | with_reducible refine wpSr ?_ | with_reducible refine wpS ?_ | ((with_reducible refine wpt ?_ ?_); · simp (disch := first | omega | decide) only [↓neg1, nlit, rI, rL, rI2, rL1, nI_add, pk_mul, sbT, dvT, nmd, ixT, ↓ibT, ltT, ltF, leT, leF, eqT, eqF, nM_ltT, nM_ltF, nM_leT, nM_leF, nM_eqF, nM_eqF', nbT0, nbT1, oI_s, oI_n, natF, natT, nltT, nltF, nleT, nleF, ↓reduceIte, lgc, not_true_eq_false, not_false_eq_true, or_false, false_or, or_true, true_or, and_true, true_and, and_false, false_and, ne_eq, eq_self, or_self, and_self]; done) | ((with_reducible refine wpf ?_ ?_); · simp (disch := first | omega | decide) only [↓neg1, nlit, rI, rL, rI2, rL1, nI_add, pk_mul, sbT, dvT, nmd, ixT, ↓ibT, ltT, ltF, leT, leF, eqT, eqF, nM_ltT, nM_ltF, nM_leT, nM_leF, nM_eqF, nM_eqF', nbT0, nbT1, oI_s, oI_n, natF, natT, nltT, nltF, nleT, nleF, ↓reduceIte, lgc, not_true_eq_false, not_false_eq_true, or_false, false_or, or_true, true_or, and_true, true_and, and_false, false_and, ne_eq, eq_self, or_self, and_self]; done))
    exact ⟨rfl, sx_rfl, sx_rfl, hJ⟩
  refine wpe p5 ?_
  (try dsimp only); repeat (first | with_reducible refine wpl ?_ | with_reducible refine wpj ?_ | with_reducible refine wpSl ?_ | with_reducible refine wpSr ?_ | with_reducible refine wpS ?_ | ((with_reducible refine wpt ?_ ?_); · simp (disch := first | omega | decide) only [↓neg1, nlit, rI, rL, rI2, rL1, nI_add, pk_mul, sbT, dvT, nmd, ixT, ↓ibT, ltT, ltF, leT, leF, eqT, eqF, nM_ltT, nM_ltF, nM_leT, nM_leF, nM_eqF, nM_eqF', nbT0, nbT1, oI_s, oI_n, natF, natT, nltT, nltF, nleT, nleF, ↓reduceIte, lgc, not_true_eq_false, not_false_eq_true, or_false, false_or, or_true, true_or, and_true, true_and, and_false, false_and, ne_eq, eq_self, or_self, and_self]; done) | ((with_reducible refine wpf ?_ ?_); · simp (disch := first | omega | decide) only [↓neg1, nlit, rI, rL, rI2, rL1, nI_add, pk_mul, sbT, dvT, nmd, ixT, ↓ibT, ltT, ltF, leT, leF, eqT, eqF, nM_ltT, nM_ltF, nM_leT, nM_leF, nM_eqF, nM_eqF', nbT0, nbT1, oI_s, oI_n, natF, natT, nltT, nltF, nleT, nleF, ↓reduceIte, lgc, not_true_eq_false, not_false_eq_true, or_false, false_or, or_true, true_or, and_true, true_and, and_false, false_and, ne_eq, eq_self, or_self, and_self]; done))
  refine wpc (e338 hn hE p3) (fun r hr => ?_)
  (try dsimp only); repeat (first | with_reducible refine wpl ?_ | with_reducible refine wpj ?_ | with_reducible refine wpSl ?_ | with_reducible refine wpSr ?_ | with_reducible refine wpS ?_ | ((with_reducible refine wpt ?_ ?_); · simp (disch := first | omega | decide) only [↓neg1, nlit, rI, rL, rI2, rL1, nI_add, pk_mul, sbT, dvT, nmd, ixT, ↓ibT, ltT, ltF, leT, leF, eqT, eqF, nM_ltT, nM_ltF, nM_leT, nM_leF, nM_eqF, nM_eqF', nbT0, nbT1, oI_s, oI_n, natF, natT, nltT, nltF, nleT, nleF, ↓reduceIte, lgc, not_true_eq_false, not_false_eq_true, or_false, false_or, or_true, true_or, and_true, true_and, and_false, false_and, ne_eq, eq_self, or_self, and_self]; done) | ((with_reducible refine wpf ?_ ?_); · simp (disch := first | omega | decide) only [↓neg1, nlit, rI, rL, rI2, rL1, nI_add, pk_mul, sbT, dvT, nmd, ixT, ↓ibT, ltT, ltF, leT, leF, eqT, eqF, nM_ltT, nM_ltF, nM_leT, nM_leF, nM_eqF, nM_eqF', nbT0, nbT1, oI_s, oI_n, natF, natT, nltT, nltF, nleT, nleF, ↓reduceIte, lgc, not_true_eq_false, not_false_eq_true, or_false, false_or, or_true, true_or, and_true, true_and, and_false, false_and, ne_eq, eq_self, or_self, and_self]; done))
  refine wpe p6 ?_
  (try dsimp only); repeat (first | with_reducible refine wpl ?_ | with_reducible refine wpj ?_ | with_reducible refine wpSl ?_ | with_reducible refine wpSr ?_ | with_reducible refine wpS ?_ | ((with_reducible refine wpt ?_ ?_); · simp (disch := first | omega | decide) only [↓neg1, nlit, rI, rL, rI2, rL1, nI_add, pk_mul, sbT, dvT, nmd, ixT, ↓ibT, ltT, ltF, leT, leF, eqT, eqF, nM_ltT, nM_ltF, nM_leT, nM_leF, nM_eqF, nM_eqF', nbT0, nbT1, oI_s, oI_n, natF, natT, nltT, nltF, nleT, nleF, ↓reduceIte, lgc, not_true_eq_false, not_false_eq_true, or_false, false_or, or_true, true_or, and_true, true_and, and_false, false_and, ne_eq, eq_self, or_self, and_self]; done) | ((with_reducible refine wpf ?_ ?_); · simp (disch := first | omega | decide) only [↓neg1, nlit, rI, rL, rI2, rL1, nI_add, pk_mul, sbT, dvT, nmd, ixT, ↓ibT, ltT, ltF, leT, leF, eqT, eqF, nM_ltT, nM_ltF, nM_leT, nM_leF, nM_eqF, nM_eqF', nbT0, nbT1, oI_s, oI_n, natF, natT, nltT, nltF, nleT, nleF, ↓reduceIte, lgc, not_true_eq_false, not_false_eq_true, or_false, false_or, or_true, true_or, and_true, true_and, and_false, false_and, ne_eq, eq_self, or_self, and_self]; done))
  have hk0 : sx pO k (pI k 174 4 0) := sx_pI sx_rfl rfl
  refine wp_mono (e122 hn (AG_sx hA hk0 nP_pO) hE p3 (by simp (disch := first | omega | decide) only [↓neg1, nlit, rI, rL, rI2, rL1, nI_add, pk_mul, sbT, dvT, nmd, ixT, ↓ibT, ltT, ltF, leT, leF, eqT, eqF, nM_ltT, nM_ltF, nM_leT, nM_leF, nM_eqF, nM_eqF', nbT0, nbT1, oI_s, oI_n, natF, natT, nltT, nltF, nleT, nleF, ↓reduceIte, lgc, not_true_eq_false, not_false_eq_true, or_false, false_or, or_true, true_or, and_true, true_and, and_false, false_and, ne_eq, eq_self, or_self, and_self])) (fun w hw => ?_)
  exact ⟨hr.1.trans hw.1.symm, hr.2.2, sx_trans hk0 hw.2.2, JO_of hr.2.1 hw.2.1⟩
