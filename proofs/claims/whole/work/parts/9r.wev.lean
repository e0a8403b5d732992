/-! the call weave -/
theorem CKL_cg {u w : cS} {LL L2 : Nat → List (Nat × Nat × Nat × Nat × Nat)} {N : Nat} (h : ∀ o, o < N → LL o = L2 o) (hw : ∀ t, w.1 250 t = u.1 250 t) (hC : CKL u L2 N) : CKL w LL N := by
  refine ⟨fun o x ho hx => ?_, fun t ht hne => ?_⟩
  · rw [hw]
    rw [h o ho] at hx
    exact hC.1 o x ho hx
  · rw [hw]
    exact hC.2 t ht (fun o x ho hx => hne o x ho (by rw [h o ho]; exact hx))
theorem BT_sx {c d m : cS} {P : Nat → Nat → Nat → Prop} {r : Nat → Nat → Bool} (hd : sx r c d) (hr : nC r) (h126 : ∀ i, r 126 i = false) (h : BT m c P) : BT m d P := by
  intro M i hM hi
  obtain ⟨B, b1, b2, b3⟩ := h M i hM hi
  refine ⟨B, b1, ?_, b3⟩
  rw [fa_CA (CA_sx hd hr), hd.1 126 _ (h126 _)]
  exact b2
theorem c_weave {n : Nat} {c u : cS} (hn : 1100000 ≤ n) (h : PR3 c (pI u 174 0 0)) : bo (d_80 n c) (d_134 n u) (fun d w => PR4 d w) := by
  unfold bo d_80 lt
  generalize hk : pI u 174 0 0 = k at h
  rcases h with hz | ⟨h1, m, h2, hA, hG, hB, hT, hF, hW⟩
  · have e1 := hz.1
    have e2 := hz.2.1
    refine wpt e1 ?_
    unfold d_134
    rw [hk]
    refine wpl (wpt e2 ?_)
    exact ⟨rfl, Or.inl hz⟩
  have hE := hG.1
  obtain ⟨tot, y1, y2, y3⟩ := hG.2.2.1
  refine wpf (by rw [h1]; decide) ?_
  refine wpc (e188 (by omega) h1 hE hT) (fun d hd => ?_)
  obtain ⟨d1, d2, d3⟩ := hd
  have d7 : d.1 114 7 = nI tot := (d1.1 114 7 rfl).trans y2
  have h20 : wp (d_20 n d) (fun w => (∀ j, w.1 126 j = if 0 ≤ j ∧ j < tot then 0 else d.1 126 j) ∧ (∀ s, s ≠ 126 → w.1 s = d.1 s) ∧ w.2 = d.2) := by
    unfold d_20
    rw [d7]
    exact wpc (e154 (a := 0) (b := tot) (v := 0) (by omega) (by omega) (by omega) (by omega)) (fun w hw => hw)
  refine wpc h20 (fun x hx => ?_)
  obtain ⟨x1, x2, x3⟩ := hx
  have sx1 : sx (fun a _ => decide (a = 126)) d x := sx_fill x2 x3 (fun i => rfl)
  have scx : sx (fun a i => decide ((a = 146 ∧ 3 ≤ i ∧ i ≤ 8) ∨ a = 147 ∨ a = 126)) c x := sx_trans (sx_wide d1 (fun a i z => by
    have := of_decide_eq_false z
    exact decide_eq_false (by omega))) (sx_wide sx1 (fun a i z => by
    have := of_decide_eq_false z
    exact decide_eq_false (by omega)))
  have hcx := CA_sx scx ⟨fun a i h1 h2 h3 => decide_eq_false (by omega), fun i h => decide_eq_false (by omega)⟩
  have hGx : PG x m := PG_CA hcx hG
  have x146 : x.1 146 8 = nI 0 := (sx1.1 146 8 rfl).trans d2
  have hTx : TLS x m := by
    refine ⟨by rw [sx1.1 146 8 rfl]; exact d3.1, fun z p s o hp hs ho => ?_⟩
    rw [sx1.1 146 8 rfl] at z
    rw [sx1.1 147 _ rfl]
    exact d3.2 z p s o hp hs ho
  have hfx : ∀ p o, fdv x p o = fdv c p o := fun p o => congrArg ix (scx.1 148 _ (decide_eq_false (by omega)))
  have hFx : ∀ w, (∀ i, w.1 235 i = k.1 235 i) → FD m x w := by
    intro w hw p s o hP hs ho
    rw [hfx, scx.1 148 _ (decide_eq_false (by omega)), hw]
    exact hF p s o hP hs ho
  have h0x : BT m x (fun _ _ _ => False) := by
    intro M i hM hi
    have hb := y3 M hM
    refine ⟨0, by decide, ?_, fun t ht => ?_⟩
    · rw [fa_CA hcx, x1, if_pos (by omega)]
      rfl
    · rw [Nat.zero_testBit]
      exact ⟨(fun z => by cases z), fun z => False.elim z⟩
  have x70 : x.1 7 0 = nI 1 := (scx.1 7 0 (decide_eq_false (by omega))).trans h1
  have x3v : x.1 150 3 = c.1 150 3 := scx.1 150 3 (decide_eq_false (by omega))
  have ho4 := hE.1.1
  refine wpc (wea_c hn hGx hTx x146 (hFx k (fun i => rfl)) hB h0x) (fun r hr => ?_)
  obtain ⟨r1, LL, r2, r3, r4⟩ := hr
  obtain ⟨k1, k2, k3, k4, k5⟩ := CA_keep hGx hTx x146 (hFx k (fun i => rfl)) r1 nC_Wv (fun i => decide_eq_false (by omega)) (fun i => decide_eq_false (by omega)) (fun i => decide_eq_false (by omega))
  -- the reference
  have hAk := hA
  have hfin : ∀ e : cS, sx (fun a i => decide (a = 126 ∨ (a = 150 ∧ (i = 3 ∨ i = 6 ∨ i = 16)) ∨ a = 151 ∨ a = 152)) x e → BTL m e LL (ocn m) → ((e.1 150 3 = nM ∧ k.1 174 97 = nM ∧ e.1 150 16 = nI 0) ∨ ∃ o, o < ocn m ∧ e.1 150 3 = nI o ∧ k.1 174 97 = nI o ∧ FOL e m o e ∧ SPS e k) → wp (d_134 n u) (fun q => nI (sumL LL (ocn m)) = q.1 ∧ PR4 e q.2) := by
    intro e e1 e2 e3
    obtain ⟨p1, p2, p3, p4, p5⟩ := CA_keep hGx hTx x146 (hFx k (fun i => rfl)) e1 ⟨fun a i h1 h2 h3 => decide_eq_false (by omega), fun i h => decide_eq_false (by omega)⟩ (fun i => decide_eq_false (by omega)) (fun i => decide_eq_false (by omega)) (fun i => decide_eq_false (by omega))
    have e70 : e.1 7 0 = nI 1 := (e1.1 7 0 (decide_eq_false (by omega))).trans x70
    unfold d_134
    rw [hk]
    refine wpl (wpf (by rw [(hA.2.2.1 14 rfl).trans h2]; decide) ?_)
    refine wpc (K' := fun w : cS => sx (fun a _ => decide (a = 250)) k w ∧ ∀ t, t < 61440 → w.1 250 t = nM) (whl_cnt (fun j (st : Int32 × cS) => st.1 = nI j ∧ sx (fun a _ => decide (a = 250)) k st.2 ∧ ∀ t, t < j → st.2.1 250 t = nM) 61440 ?_ ?_ (by omega) ⟨rfl, sx_rfl, fun t ht => by omega⟩) (fun f hf => ?_)
    · rintro j ⟨a, w⟩ hj ⟨g1, g2, g3⟩
      dsimp only at g1 g2 g3
      subst g1
      refine wpf (by dsimp only; simp (disch := first | omega | decide) only [↓neg1, nlit, rI, rL, rI2, rL1, nI_add, pk_mul, sbT, dvT, nmd, ixT, ↓ibT, ltT, ltF, leT, leF, eqT, eqF, nM_ltT, nM_ltF, nM_leT, nM_leF, nM_eqF, nM_eqF', nbT0, nbT1, oI_s, oI_n, natF, natT, nltT, nltF, nleT, nleF, ↓reduceIte, lgc, not_true_eq_false, not_false_eq_true, or_false, false_or, or_true, true_or, and_true, true_and, and_false, false_and, ne_eq, eq_self, or_self, and_self]) (wpt (by simp (disch := first | omega | decide) only [↓neg1, nlit, rI, rL, rI2, rL1, nI_add, pk_mul, sbT, dvT, nmd, ixT, ↓ibT, ltT, ltF, leT, leF, eqT, eqF, nM_ltT, nM_ltF, nM_leT, nM_leF, nM_eqF, nM_eqF', nbT0, nbT1, oI_s, oI_n, natF, natT, nltT, nltF, nleT, nleF, ↓reduceIte, lgc, not_true_eq_false, not_false_eq_true, or_false, false_or, or_true, true_or, and_true, true_and, and_false, false_and, ne_eq, eq_self, or_self, and_self]) (wpl (wpl ?_)))
      rw [ix_n (by omega)]
      refine ⟨nI_1 _, sx_pI g2 rfl, fun t ht => ?_⟩
      show (pI w 250 j (-1)).1 250 t = _
      rw [rI]
      by_cases et : t = j
      · rw [if_pos ⟨rfl, et⟩]
        rfl
      · rw [if_neg (fun z => et z.2)]
        exact g3 t (by omega)
    · rintro ⟨a, w⟩ ⟨g1, g2, g3⟩
      dsimp only at g1 g2 g3
      subst g1
      exact wpt (by dsimp only; decide) ⟨g2, g3⟩
    obtain ⟨f1, f2⟩ := hf
    have hAf : AG m f := AG_sx hA (sx_wide f1 (q := qWr) (fun a i z => by
      have := of_decide_eq_false z
      exact decide_eq_false (by omega))) nP_Wr
    refine wpc (wea_r (by omega) x70 h2 hAf hGx hTx x146 (hFx f (fun i => f1.1 235 i rfl)) hB f2) (fun r' hr' => ?_)
    obtain ⟨s1, L2, s2, s3, s4⟩ := hr'
    have hLe : ∀ o, o < ocn m → LL o = L2 o := LSO_u (c := x) (fun o M ho hM => ⟨hGx.1.1, hGx.1.2.2.1, hGx.2.2, hM, ho, fun p s hp hs => (e190 (n := n) hGx.1.1 hp hs ho (EC_row hGx.1 hp).1 x146 hTx (hFx k (fun i => rfl))).2⟩) r2 s2
    have hsum : nI (sumL LL (ocn m)) = r'.1 := by
      rw [s4, sumL_cg _ hLe]
    have skw : sx qWr k r'.2 := sx_trans (sx_wide f1 (fun a i z => by
      have := of_decide_eq_false z
      exact decide_eq_false (by omega))) s1
    have hLLP : LLP m e LL (ocn m) := by
      intro o y ho hy
      obtain ⟨a1, a2, a3, a4⟩ := LSO_P r2 o y ho hy
      exact ⟨a1, a2, a3, by rw [p5]; exact a4⟩
    have hend : ∀ w, sx (fun a i => decide ((a = 174 ∧ ((73 ≤ i ∧ i ≤ 79) ∨ i = 90 ∨ i = 91 ∨ i = 106)) ∨ a = 232 ∨ a = 233 ∨ (236 ≤ a ∧ a ≤ 245))) r'.2 w → w.1 174 106 = nI 1 → FLW m e w → PR4 e w := by
      intro w hw h106 hfl
      refine Or.inr ⟨e70, m, h2, ?_, p1, hB, p2, ?_, hfl, Or.inr ⟨h106, p3, LL, hLLP, e2, CKL_cg hLe (fun t => hw.1 250 t (decide_eq_false (by omega))) s3⟩⟩
      · refine AG_sx (AG_sx hA skw nP_Wr) hw ⟨fun a i h => ?_, fun i h => ?_, fun i h => ?_, fun a i h1 h2 h3 => ?_, fun a i h1 h2 h3 => ?_⟩
        · have := PA_of h
          exact decide_eq_false (by omega)
        · have := PF_of h
          exact decide_eq_false (by omega)
        · exact decide_eq_false (by omega)
        · exact decide_eq_false (by omega)
        · exact decide_eq_false (by omega)
      · exact FD_sx (FD_sx p4 skw (fun i => decide_eq_false (by omega))) hw (fun i => decide_eq_false (by omega))
    have w97 : (pI r'.2 174 106 1).1 174 97 = k.1 174 97 := by
      rw [rI, if_neg (by omega)]
      exact skw.1 174 97 (decide_eq_false (by omega))
    have sp : sx (fun a i => decide ((a = 174 ∧ ((73 ≤ i ∧ i ≤ 79) ∨ i = 90 ∨ i = 91 ∨ i = 106)) ∨ a = 232 ∨ a = 233 ∨ (236 ≤ a ∧ a ≤ 245))) r'.2 (pI r'.2 174 106 1) := sx_pI sx_rfl (decide_eq_true (by omega))
    have w106 : (pI r'.2 174 106 1).1 174 106 = nI 1 := by
      rw [rI, if_pos ⟨rfl, rfl⟩]
      rfl
    refine wpl (wpj ?_)
    rw [w97]
    rcases e3 with ⟨q1, q2, q3⟩ | ⟨o, q1, q2, q3, q4, q5⟩
    · refine wpt (by rw [q2]; decide) ⟨hsum, hend _ sp w106 (Or.inl ⟨q1, w97.trans q2, q3⟩)⟩
    · rw [q3]
      refine wpf (by simp (disch := first | omega | decide) only [↓neg1, nlit, rI, rL, rI2, rL1, nI_add, pk_mul, sbT, dvT, nmd, ixT, ↓ibT, ltT, ltF, leT, leF, eqT, eqF, nM_ltT, nM_ltF, nM_leT, nM_leF, nM_eqF, nM_eqF', nbT0, nbT1, oI_s, oI_n, natF, natT, nltT, nltF, nleT, nleF, ↓reduceIte, lgc, not_true_eq_false, not_false_eq_true, or_false, false_or, or_true, true_or, and_true, true_and, and_false, false_and, ne_eq, eq_self, or_self, and_self]) ?_
      have hAz : AG m (pI r'.2 174 106 1) := AG_sx (AG_sx hA skw nP_Wr) (r := fun a i => decide (a = 174 ∧ i = 106)) (sx_pI sx_rfl rfl) ⟨fun a i h => by
        have := PA_of h
        exact decide_eq_false (by omega), fun i h => by
        have := PF_of h
        exact decide_eq_false (by omega), fun i h => decide_eq_false (by omega), fun a i h1 h2 h3 => decide_eq_false (by omega), fun a i h1 h2 h3 => decide_eq_false (by omega)⟩
      have hFz : FD m e (pI r'.2 174 106 1) := FD_sx (FD_sx p4 skw (fun i => decide_eq_false (by omega))) sp (fun i => decide_eq_false (by omega))
      refine wpc (e460 (by omega) e70 h2 hAz p1 q1 hFz (fun p s hp hs => (e190 (n := n) p1.1.1 hp hs q1 (EC_row p1.1 hp).1 p3 p2 p4).2) hB) (fun w hw => ?_)
      obtain ⟨t1, t2⟩ := hw
      have stw := sx_trans sp (sx_wide t1 (q := fun a i => decide ((a = 174 ∧ ((73 ≤ i ∧ i ≤ 79) ∨ i = 90 ∨ i = 91 ∨ i = 106)) ∨ a = 232 ∨ a = 233 ∨ (236 ≤ a ∧ a ≤ 245))) (fun a i z => by
        have := of_decide_eq_false z
        exact decide_eq_false (by omega)))
      refine ⟨hsum, hend w stw ((t1.1 174 106 (decide_eq_false (by omega))).trans w106) (Or.inr ⟨o, q1, q2, ((t1.1 174 97 (decide_eq_false (by omega))).trans w97).trans q3, p3, q4, t2, ?_⟩)⟩
      obtain ⟨j, j1, j2, j3, j4⟩ := q5
      refine ⟨j, j1, j2, ((stw.1 174 102 (decide_eq_false (by omega))).trans (skw.1 174 102 (decide_eq_false (by omega)))).trans j3, fun i hi => ?_⟩
      rw [stw.1 249 i (decide_eq_false (by omega)), skw.1 249 i (decide_eq_false (by omega))]
      exact j4 i hi
  have sxr : sx (fun a i => decide (a = 126 ∨ (a = 150 ∧ (i = 3 ∨ i = 6 ∨ i = 16)) ∨ a = 151 ∨ a = 152)) x r.2 := sx_wide r1 (fun a i z => by
    have := of_decide_eq_false z
    exact decide_eq_false (by omega))
  rw [r4]
  rcases hW with ⟨f1, f2, f3⟩ | ⟨o, w1, w2, w3, w4, w5, w6, w7⟩
  · refine wpj (wpt (by rw [x3v, f1]; decide) ?_)
    refine wpe (show d_29 n r.2 = some (pI (pI (pI r.2 150 3 (-1)) 150 6 0) 150 16 0) from rfl) ?_
    refine hfin _ (sx_pI (sx_pI (sx_pI sxr (decide_eq_true (by omega))) (decide_eq_true (by omega))) (decide_eq_true (by omega))) ?_ (Or.inl ⟨?_, f2, ?_⟩)
    · exact BT_sx (r := fun a i => decide (a = 150)) (sx_pI (sx_pI (sx_pI sx_rfl rfl) rfl) rfl) ⟨fun a i h1 h2 h3 => decide_eq_false (by omega), fun i h => decide_eq_false (by omega)⟩ (fun i => rfl) r3
    · simp (disch := first | omega | decide) only [↓neg1, nlit, rI, rL, rI2, rL1, nI_add, pk_mul, sbT, dvT, nmd, ixT, ↓ibT, ltT, ltF, leT, leF, eqT, eqF, nM_ltT, nM_ltF, nM_leT, nM_leF, nM_eqF, nM_eqF', nbT0, nbT1, oI_s, oI_n, natF, natT, nltT, nltF, nleT, nleF, ↓reduceIte, lgc, not_true_eq_false, not_false_eq_true, or_false, false_or, or_true, true_or, and_true, true_and, and_false, false_and, ne_eq, eq_self, or_self, and_self]
    · simp (disch := first | omega | decide) only [↓neg1, nlit, rI, rL, rI2, rL1, nI_add, pk_mul, sbT, dvT, nmd, ixT, ↓ibT, ltT, ltF, leT, leF, eqT, eqF, nM_ltT, nM_ltF, nM_leT, nM_leF, nM_eqF, nM_eqF', nbT0, nbT1, oI_s, oI_n, natF, natT, nltT, nltF, nleT, nleF, ↓reduceIte, lgc, not_true_eq_false, not_false_eq_true, or_false, false_or, or_true, true_or, and_true, true_and, and_false, false_and, ne_eq, eq_self, or_self, and_self]
  · refine wpj (wpf (by rw [x3v, w2]; simp (disch := first | omega | decide) only [↓neg1, nlit, rI, rL, rI2, rL1, nI_add, pk_mul, sbT, dvT, nmd, ixT, ↓ibT, ltT, ltF, leT, leF, eqT, eqF, nM_ltT, nM_ltF, nM_leT, nM_leF, nM_eqF, nM_eqF', nbT0, nbT1, oI_s, oI_n, natF, natT, nltT, nltF, nleT, nleF, ↓reduceIte, lgc, not_true_eq_false, not_false_eq_true, or_false, false_or, or_true, true_or, and_true, true_and, and_false, false_and, ne_eq, eq_self, or_self, and_self]) ?_)
    rw [x3v, w2]
    refine wpc (e196 hn k1 k2 k3 k4 w1 hB) (fun e he => ?_)
    obtain ⟨e1, e2⟩ := he
    refine hfin e (sx_trans sxr (sx_wide e1 (fun a i z => ?_))) (BT_sx e1 nC_Fo (fun i => decide_eq_false (by omega)) r3) (Or.inr ⟨o, w1, e2.1, w3, FOL_sx (q := fun _ _ => false) e2 e1 (fun i => decide_eq_false (by omega)) sx_rfl ⟨⟨fun a i h1 h2 h3 => rfl, fun i h => rfl⟩, fun i => rfl, rfl, rfl, fun i => rfl, fun i => rfl⟩, ?_⟩)
    · have := of_decide_eq_false z
      exact decide_eq_false (by omega)
    · obtain ⟨j, j1, j2, j3, j4⟩ := w7
      have sce : ∀ i, e.1 158 i = c.1 158 i := fun i => (e1.1 158 i (decide_eq_false (by omega))).trans ((r1.1 158 i (decide_eq_false (by omega))).trans (scx.1 158 i (decide_eq_false (by omega))))
      refine ⟨j, j1, ((e1.1 150 16 (decide_eq_false (by omega))).trans ((r1.1 150 16 (decide_eq_false (by omega))).trans (scx.1 150 16 (decide_eq_false (by omega))))).trans j2, j3, fun i hi => ?_⟩
      rw [sce i]
      exact j4 i hi
