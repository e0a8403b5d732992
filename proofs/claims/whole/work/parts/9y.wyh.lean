/-! the call way: both -/
theorem FOR_sx2 {m w w' : cS} {o : Nat} {K : Nat → Nat} {q : Nat → Nat → Bool} (h : FOR m o K w) (hw : sx q w w') (hM : MKS m K w') (hT : TLD m o w') (q1 : q 174 91 = false) (q2 : ∀ a i, 238 ≤ a → a ≤ 245 → a ≠ 240 → q a i = false) : FOR m o K w' := by
  obtain ⟨-, -, h3, h4⟩ := h
  have hX : RX w' = RX w := funext fun N => funext fun i => RX_s hw (q2 239 _ (by omega) (by omega) (by omega)) (fun s hs => q2 238 _ (by omega) (by omega) (by omega))
  refine ⟨hM, hT, fun M hM => ?_, ?_⟩
  · rw [hX]
    exact ⟨(h3 M hM).1, RV_s hw (fun i hi => q2 239 _ (by omega) (by omega) (by omega)) (fun i s hi hs => q2 238 _ (by omega) (by omega) (by omega)) (h3 M hM).2⟩
  · rw [hX]
    refine ⟨(hw.1 174 91 q1).trans h4.1, fun j x hx => ?_⟩
    rw [hw.1 241 j (q2 241 _ (by omega) (by omega) (by omega)), hw.1 242 j (q2 242 _ (by omega) (by omega) (by omega)), hw.1 243 j (q2 243 _ (by omega) (by omega) (by omega)), hw.1 244 j (q2 244 _ (by omega) (by omega) (by omega)), hw.1 245 j (q2 245 _ (by omega) (by omega) (by omega))]
    exact h4.2 j x hx
theorem c_way {n : Nat} {a1 : Int32} {c u : cS} (hn : 20000 ≤ n) (h : PR3 c (pI u 174 0 0)) : bo (d_75 n a1 c) (d_129 n a1 u) (fun d w => sx qYC c d ∧ sx qYR (pI u 174 0 0) w ∧ PR3 d w) := by
  have hsame := h
  unfold bo d_75
  rcases FLW_no h with ⟨h1, h2, h3⟩ | ⟨m, o, hA, hG, hB, hT, hF, h2, h1, ho, w2, w3, w4, w5, w6, w7⟩
  · refine wpe (show d_30 n a1 c = some (nI 0) by unfold d_30; simp (disch := first | omega | decide) only [↓neg1, nlit, rI, rL, rI2, rL1, nI_add, pk_mul, sbT, dvT, nmd, ixT, ↓ibT, ltT, ltF, leT, leF, eqT, eqF, nM_ltT, nM_ltF, nM_leT, nM_leF, nM_eqF, nM_eqF', nbT0, nbT1, oI_s, oI_n, natF, natT, nltT, nltF, nleT, nleF, ↓reduceIte, lgc, not_true_eq_false, not_false_eq_true, or_false, false_or, or_true, true_or, and_true, true_and, and_false, false_and, ne_eq, eq_self, or_self, and_self, obs, ↓jn, ↓lt, ↓reduceIte, decide_true, decide_false, Bool.false_eq_true, Bool.and_true, Bool.and_false, Bool.true_and, Bool.false_and, Bool.or_false, Bool.false_or, Bool.or_true, Bool.true_or, h1]) (wpj (wpt rfl ?_))
    unfold d_129
    refine wpl ?_
    generalize pI u 174 0 0 = v at *
    refine wpj (wpt (by rw [h2]; decide) ?_)
    exact ⟨rfl, sx_rfl, sx_rfl, hsame⟩
  have hE := hG.1
  have hC := hE.2.2.1
  have ho4 := hE.1.1
  have hMT := hG.2.2
  have hFC : FC c m (pI u 174 0 0) o := ⟨hG, hT, w4, hF, w2, ho⟩
  have hlist : erM m o (fun p => TM m c p o) (XC m o c) 96 = erM m o (fun p => TM m c p o) (RX (pI u 174 0 0)) 96 := erM_eq (c := c) (fun M hM => FC_X hFC hM) (fun M hM => (w5.2.1 M hM).1) (fun M hM => (w6.2.2.1 M hM).1) 96
  have hEC := w5.2.2
  have hER := w6.2.2.2
  rw [← hlist] at hER
  have hlen := erM_len (m := m) (o := o) (K := fun p => TM m c p o) (XX := XC m o c) 96
  have hB' := hB
  unfold WB at hB'
  have hin := fun x => erM_in (m := m) (o := o) (K := fun p => TM m c p o) (X := XC m o c) (x := x) 96
  generalize hL : erM m o (fun p => TM m c p o) (XC m o c) 96 = L at hEC hER hlen hin
  obtain ⟨c1, c2⟩ := hEC
  obtain ⟨r1, r2⟩ := hER
  rcases rng a1 (N := L.length) (by omega) with ⟨g1, g2, g3, g⟩ | ⟨g1, g2, g3, g4, g⟩ | ⟨j, hj, rfl⟩
  · refine wpe (show d_30 n a1 c = some (nI 0) by unfold d_30; simp (disch := first | omega | decide) only [↓neg1, nlit, rI, rL, rI2, rL1, nI_add, pk_mul, sbT, dvT, nmd, ixT, ↓ibT, ltT, ltF, leT, leF, eqT, eqF, nM_ltT, nM_ltF, nM_leT, nM_leF, nM_eqF, nM_eqF', nbT0, nbT1, oI_s, oI_n, natF, natT, nltT, nltF, nleT, nleF, ↓reduceIte, lgc, not_true_eq_false, not_false_eq_true, or_false, false_or, or_true, true_or, and_true, true_and, and_false, false_and, ne_eq, eq_self, or_self, and_self, obs, ↓jn, ↓lt, ↓reduceIte, decide_true, decide_false, Bool.false_eq_true, Bool.and_true, Bool.and_false, Bool.true_and, Bool.false_and, Bool.or_false, Bool.false_or, Bool.or_true, Bool.true_or, w2, g1]) (wpj (wpt rfl ?_))
    unfold d_129
    refine wpl ?_
    generalize pI u 174 0 0 = v at *
    refine wpj (wpf (by rw [w3]; simp (disch := first | omega | decide) only [↓neg1, nlit, rI, rL, rI2, rL1, nI_add, pk_mul, sbT, dvT, nmd, ixT, ↓ibT, ltT, ltF, leT, leF, eqT, eqF, nM_ltT, nM_ltF, nM_leT, nM_leF, nM_eqF, nM_eqF', nbT0, nbT1, oI_s, oI_n, natF, natT, nltT, nltF, nleT, nleF, ↓reduceIte, lgc, not_true_eq_false, not_false_eq_true, or_false, false_or, or_true, true_or, and_true, true_and, and_false, false_and, ne_eq, eq_self, or_self, and_self]) (wpt (by rw [show (0 : Int32) = nI 0 from rfl, g1]; trivial) ?_))
    exact ⟨rfl, sx_rfl, sx_rfl, hsame⟩
  · refine wpe (show d_30 n a1 c = some (nI 0) by unfold d_30; simp (disch := first | omega | decide) only [↓neg1, nlit, rI, rL, rI2, rL1, nI_add, pk_mul, sbT, dvT, nmd, ixT, ↓ibT, ltT, ltF, leT, leF, eqT, eqF, nM_ltT, nM_ltF, nM_leT, nM_leF, nM_eqF, nM_eqF', nbT0, nbT1, oI_s, oI_n, natF, natT, nltT, nltF, nleT, nleF, ↓reduceIte, lgc, not_true_eq_false, not_false_eq_true, or_false, false_or, or_true, true_or, and_true, true_and, and_false, false_and, ne_eq, eq_self, or_self, and_self, obs, ↓jn, ↓lt, ↓reduceIte, decide_true, decide_false, Bool.false_eq_true, Bool.and_true, Bool.and_false, Bool.true_and, Bool.false_and, Bool.or_false, Bool.false_or, Bool.or_true, Bool.true_or, w2, g1, c1, g3]) (wpj (wpt rfl ?_))
    unfold d_129
    refine wpl ?_
    generalize pI u 174 0 0 = v at *
    refine wpj (wpf (by rw [w3]; simp (disch := first | omega | decide) only [↓neg1, nlit, rI, rL, rI2, rL1, nI_add, pk_mul, sbT, dvT, nmd, ixT, ↓ibT, ltT, ltF, leT, leF, eqT, eqF, nM_ltT, nM_ltF, nM_leT, nM_leF, nM_eqF, nM_eqF', nbT0, nbT1, oI_s, oI_n, natF, natT, nltT, nltF, nleT, nleF, ↓reduceIte, lgc, not_true_eq_false, not_false_eq_true, or_false, false_or, or_true, true_or, and_true, true_and, and_false, false_and, ne_eq, eq_self, or_self, and_self]) (wpf (by rw [show (0 : Int32) = nI 0 from rfl, g1]; exact not_false) (wpf (by rw [r1, g4]; exact not_false) ?_)))
    exact ⟨rfl, sx_rfl, sx_rfl, hsame⟩
  obtain ⟨x, hx⟩ : ∃ x, L[j]? = some x := ⟨L[j], List.getElem?_eq_getElem hj⟩
  have hmem : x ∈ L := List.mem_of_getElem? hx
  obtain ⟨xM, xi, xk, f, xf, xh, xw⟩ := hin x hmem
  have q1 := c2 j x hx
  obtain ⟨q2, q3, q4, q5, q6⟩ := r2 j x hx
  rw [xw] at q6
  refine wpe (show d_30 n (nI j) c = some (nI 1) by unfold d_30; simp (disch := first | omega | decide) only [↓neg1, nlit, rI, rL, rI2, rL1, nI_add, pk_mul, sbT, dvT, nmd, ixT, ↓ibT, ltT, ltF, leT, leF, eqT, eqF, nM_ltT, nM_ltF, nM_leT, nM_leF, nM_eqF, nM_eqF', nbT0, nbT1, oI_s, oI_n, natF, natT, nltT, nltF, nleT, nleF, ↓reduceIte, lgc, not_true_eq_false, not_false_eq_true, or_false, false_or, or_true, true_or, and_true, true_and, and_false, false_and, ne_eq, eq_self, or_self, and_self, obs, ↓jn, ↓lt, ↓reduceIte, decide_true, decide_false, Bool.false_eq_true, Bool.and_true, Bool.and_false, Bool.true_and, Bool.false_and, Bool.or_false, Bool.false_or, Bool.or_true, Bool.true_or, w2, c1]) (wpj (wpf (by decide) ?_))
  refine wpc (e212 (by omega) hFC (fun p => rfl) xM xi xk (by omega) q1) (fun r hr => ?_)
  obtain ⟨kk, k1, k2, k3, k4⟩ := hr
  have hwr := way_r (n := n) (by omega) h1 h2 hE hF (fun p => rfl) (FC_X hFC xM) xi xk hj (by omega) hA w3 r1 q2 q3 q4 q6
  show wp (d_129 n (nI j) u) _
  refine wp_mono hwr (fun s hs => ?_)
  obtain ⟨kk', l1, l2, l3, l4, l5, l6⟩ := hs
  have hkk := it_one k1 k2 l1 l2
  subst hkk
  obtain ⟨ha, hst⟩ := ans_one k4 l6
  have hnF : nF qYC := ⟨⟨fun a i h1 h2 h3 => decide_eq_false (by omega), fun i h => decide_eq_false (by omega)⟩, fun i => decide_eq_false (by omega), rfl, rfl, fun i => decide_eq_false (by omega), fun i => decide_eq_false (by omega)⟩
  obtain ⟨hFC', hTM'⟩ := FC_sx hFC k3 hnF.1 (fun i => decide_eq_false (by omega)) (fun i => decide_eq_false (by omega)) (fun i => decide_eq_false (by omega)) rfl
  have hKf : (fun p => TM m r.2 p o) = (fun p => TM m c p o) := funext hTM'
  refine ⟨ha, k3, l3, Or.inr ⟨(k3.1 7 0 (decide_eq_false (by omega))).trans h1, m, h2, AG_sx hA l3 nP_YR, hFC'.1, hB, hFC'.2.1, ?_, Or.inr ⟨o, ho, (k3.1 150 3 rfl).trans w2, (l3.1 174 97 rfl).trans w3, (k3.1 146 8 rfl).trans w4, FOL_sx w5 k3 (fun i => decide_eq_false (by omega)) k3 hnF, ?_, ?_⟩⟩⟩
  · intro p s o' hP hs ho'
    obtain ⟨f1, f2, f3⟩ := hF p s o' hP hs ho'
    have hfe : fdv r.2 p o' = fdv c p o' := congrArg ix (k3.1 148 _ (decide_eq_false (by omega)))
    rw [hfe, k3.1 148 _ (decide_eq_false (by omega)), l3.1 235 _ (decide_eq_false (by omega))]
    exact ⟨f1, f2, f3⟩
  · rw [hKf]
    exact FOR_sx2 w6 l3 l4 l5 rfl (fun a i h1 h2 h3 => decide_eq_false (by omega))
  · obtain ⟨t, t1, t2, t3, t4⟩ := w7
    rcases hst with ⟨y1, y2, y3, y4⟩ | ⟨N, n1, n2, n3, n4⟩
    · refine ⟨t, t1, y1.trans t2, y3.trans t3, fun j hj => ?_⟩
      rw [y2, y4]
      exact t4 j hj
    · exact ⟨N, n1, n2, n3, n4⟩
