/-! the call begin: class = reference -/
theorem beg_RN {m c u d w : cS} {M : Nat} {a2 : Int32} (hG : PG c m) (hA : AG m u) (hM : isMt m M) (hJ : ∀ i, i < 4 → c.1 160 i = u.1 251 i) (hd : BGC m M a2 c d) (hw : BGR m M a2 u w) : RN m d w 1 1 (fun _ => M) (fun _ => 0) := by
  have hE := hG.1
  have hO := hE.1
  have hC := hE.2.2.1
  have ho4 := hO.1
  have hp4 := (isMt_8 hC hM).2.2.2.2.2
  have hbot : ∀ o, o < ocn m → ix (m.1 188 o) < eln m o ∧ m.1 188 o = nI (ix (m.1 188 o)) := fun o ho => ⟨(bot_lt hO ho).1, (bot_lt hO ho).2.1⟩
  obtain ⟨d0, dj, d12, dB, df, d10, d163, d164, d165⟩ := hd
  obtain ⟨w111, w112, w113, w121, w123, w124, w125, w126, w127, w128, w129, w0, wf, w253, w254, w255, w256⟩ := hw
  obtain ⟨r1, r2⟩ := RCH_0 hG.2.2 hM
  have hn1 := ((hG.2.2.2.1 M hM).1).1.1
  refine ⟨⟨by decide, by decide⟩, ⟨by decide, by decide⟩, d0, w111, d10, w113, d12.trans w112.symm, ⟨?_, ?_, ?_, ?_, ?_, ?_, ?_, ?_⟩, fun j hj => ?_, fun q hq => ?_, fun x y hx hy => ?_, (fun z => by cases z), dB⟩
  · rw [dj 1 (by decide) (by decide), if_neg (by decide), if_neg (by decide)]
    rfl
  · rw [dj 2 (by decide) (by decide), if_neg (by decide), w123]
  · rw [dj 6 (by decide) (by decide), if_neg (by decide), w124]
  · rw [dj 7 (by decide) (by decide), if_pos (by decide), w125]
  · rw [dj 8 (by decide) (by decide), if_pos (by decide), w126]
  · rw [dj 9 (by decide) (by decide), if_pos (by decide), w127]
  · rw [dj 10 (by decide) (by decide), if_neg (by decide), w128]
  · rw [dj 11 (by decide) (by decide), if_neg (by decide), w129]
  · have hj0 : j = 0 := by omega
    subst hj0
    refine ⟨hM, by show 0 < acn m M; omega, r1, d163, w253, d164, w254, ?_, fun z => by omega⟩
    rw [if_pos rfl, w255]
    show nI 8 = nI (8 + dpn m (40 * M + 0))
    rw [r2]
  · have hq : q < 16 := by omega
    obtain ⟨p1, p2⟩ := w256 q hq
    unfold SLq
    rw [d165 q hq, p1]
    by_cases e : q < pM m M
    · rw [if_pos e, if_pos e]
      exact SL_pk (hJ q (by omega)) dB.1 dB.2 ho4 hbot (fun o ho => p2 o ho)
    · rw [if_neg e, if_neg e]
      exact SL_bl rfl dB.1 dB.2 hbot (fun o ho => p2 o ho)
  · have hcc := (CCS_p hC).1
    have hf8 := (hC.1.2.2.2.1 x hx).1
    obtain ⟨p1, p2⟩ := wf (8 * x + y) (by omega)
    unfold SLf
    rw [df _ (by omega), p1]
    refine SL_pk ?_ dB.1 dB.2 ho4 hbot (fun o ho => p2 o ho)
    have := (hC.2.2.2.1 x y hx hy).2
    rw [show x * 8 + y = 8 * x + y by omega] at this
    rw [this]
    exact (hA.1 205 _ rfl).symm
theorem c_begin0 {n : Nat} {a1 a2 : Int32} {c u : cS} (h1 : c.1 7 0 = nI 0) (h2 : u.1 174 14 = nI 0) : wp (d_84 n a1 a2 c) (fun r => wp (d_139 n a1 a2 u) (fun w => r = .inr (1, c) ∧ w = pI u 174 0 (nI 1))) := by
  unfold d_84
  refine wpt h1 ?_
  show wp (d_139 n a1 a2 u) _
  unfold d_139
  refine wpj (wpt h2 (wpl (wpf (by rw [rI, if_pos ⟨rfl, rfl⟩]; decide) ?_)))
  exact ⟨rfl, rfl⟩
theorem c_begin {n : Nat} {a1 a2 : Int32} {c m u : cS} (hn : 10000 ≤ n) (ha : nb a2) (h1 : c.1 7 0 = nI 1) (h2 : m.1 174 14 = nI 1) (hA : AG m u) (hG : PG c m) (hT : TLS c m) (hJ : ∀ i, i < 4 → c.1 160 i = u.1 251 i) : wp (d_84 n a1 a2 c) (fun r => wp (d_139 n a1 a2 u) (fun w => (r = .inr (2, c) ∧ w = pI u 174 0 (nI 2)) ∨ ∃ d M, r = .inl d ∧ isMt m M ∧ RN m d w 1 1 (fun _ => M) (fun _ => 0) ∧ sx qBd c d ∧ sx qBr u w ∧ w.1 174 0 = nI 0 ∧ TLS d m ∧ d.1 146 8 = nI 0)) := by
  have hE := hG.1
  have hC := hE.2.2.1
  have hu14 : u.1 174 14 = nI 1 := (hA.2.2.1 14 rfl).trans h2
  have fail : ∀ (r : cS ⊕ (Nat × cS)), r = .inr (2, c) → d_111 n a1 u = some (nI 0) → wp (d_139 n a1 a2 u) (fun w => (r = .inr (2, c) ∧ w = pI u 174 0 (nI 2)) ∨ ∃ d M, r = .inl d ∧ isMt m M ∧ RN m d w 1 1 (fun _ => M) (fun _ => 0) ∧ sx qBd c d ∧ sx qBr u w ∧ w.1 174 0 = nI 0 ∧ TLS d m ∧ d.1 146 8 = nI 0) := by
    intro r hr h111
    unfold d_139
    refine wpj (wpf (by rw [hu14]; decide) (wpe h111 (wpt rfl (wpl (wpf (by rw [rI, if_pos ⟨rfl, rfl⟩]; decide) ?_)))))
    exact Or.inl ⟨hr, rfl⟩
  unfold d_84
  refine wpf (by rw [h1]; decide) ?_
  rcases plA (n := n) (a := a1) h1 h2 hA hC with ⟨p1, p2⟩ | ⟨p, s, p1, rfl, p3, p4, p5, p6, p7⟩
  · refine wpe p1 (wpf (by decide) ?_)
    exact fail _ rfl (by unfold d_111; simp (disch := first | omega | decide) only [↓neg1, nlit, rI, rL, rI2, rL1, nI_add, pk_mul, sbT, dvT, nmd, ixT, ↓ibT, ltT, ltF, leT, leF, eqT, eqF, nM_ltT, nM_ltF, nM_leT, nM_leF, nM_eqF, nM_eqF', nbT0, nbT1, oI_s, oI_n, natF, natT, nltT, nltF, nleT, nleF, ↓reduceIte, lgc, not_true_eq_false, not_false_eq_true, or_false, false_or, or_true, true_or, and_true, true_and, and_false, false_and, ne_eq, eq_self, or_self, and_self, obs, ↓jn, ↓lt, ↓reduceIte, decide_true, decide_false, Bool.false_eq_true, Bool.and_true, Bool.and_false, Bool.true_and, Bool.false_and, Bool.or_false, Bool.false_or, Bool.or_true, Bool.true_or, p2])
  by_cases hs : s = 2
  · subst hs
    obtain ⟨m1, m2, m3⟩ := isP_MT hC p3 rfl
    have h22 := e22 (n := n) (p := p) (by omega) m1
    have h421 := e421 (n := n) (p := p) (by omega) m1
    have h111 : d_111 n (nI p) u = some (nI 1) := by
      unfold d_111
      simp (disch := first | omega | decide) only [↓neg1, nlit, rI, rL, rI2, rL1, nI_add, pk_mul, sbT, dvT, nmd, ixT, ↓ibT, ltT, ltF, leT, leF, eqT, eqF, nM_ltT, nM_ltF, nM_leT, nM_leF, nM_eqF, nM_eqF', nbT0, nbT1, oI_s, oI_n, natF, natT, nltT, nltF, nleT, nleF, ↓reduceIte, lgc, not_true_eq_false, not_false_eq_true, or_false, false_or, or_true, true_or, and_true, true_and, and_false, false_and, ne_eq, eq_self, or_self, and_self, obs, ↓jn, ↓lt, ↓reduceIte, decide_true, decide_false, Bool.false_eq_true, Bool.and_true, Bool.and_false, Bool.true_and, Bool.false_and, Bool.or_false, Bool.false_or, Bool.or_true, Bool.true_or, p6, p7]
    have hme : 8 * (p / 100) + (p % 100 - 20) / 10 = mAt p := rfl
    rw [hme] at h22 h421
    refine wpe p5 (wpt rfl (wpc (e188 (by omega) h1 hE hT) (fun d hd => wpe h22 ?_)))
    obtain ⟨d1, d2, d3⟩ := hd
    have hGd := PG_CA (CA_sx d1 nC_qL) hG
    refine wpc (e300 hn hGd m2 ha) (fun e he => ?_)
    obtain ⟨e1, e2⟩ := he
    have hJd : ∀ i, i < 4 → d.1 160 i = u.1 251 i := fun i hi => (d1.1 160 i rfl).trans (hJ i hi)
    show wp (d_139 n (nI p) a2 u) _
    refine wp_mono (beg_r hn hA hG h2 p1 h111 h421 m2 ha) (fun w hw => Or.inr ⟨e, mAt p, rfl, m2, beg_RN hGd hA m2 hJd e1 hw.1, ?_, hw.2, ?_, ?_, ?_⟩)
    · exact sx_trans (sx_wide d1 (fun a i z => by
        have := of_decide_eq_false z
        exact decide_eq_false (by omega))) (sx_wide e2 (fun a i z => by
        have := of_decide_eq_false z
        exact decide_eq_false (by omega)))
    · obtain ⟨-, -, -, -, -, -, -, -, -, -, -, q, -⟩ := hw.1
      exact q
    · refine ⟨by rw [e2.1 146 8 (decide_eq_false (by omega))]; exact d3.1, fun z p s o hp hs ho => ?_⟩
      rw [e2.1 146 8 (decide_eq_false (by omega))] at z
      rw [e2.1 147 _ (decide_eq_false (by omega))]
      exact d3.2 z p s o hp hs ho
    · exact (e2.1 146 8 (decide_eq_false (by omega))).trans d2
  · refine wpe p5 (wpf (by simp (disch := first | omega | decide) only [↓neg1, nlit, rI, rL, rI2, rL1, nI_add, pk_mul, sbT, dvT, nmd, ixT, ↓ibT, ltT, ltF, leT, leF, eqT, eqF, nM_ltT, nM_ltF, nM_leT, nM_leF, nM_eqF, nM_eqF', nbT0, nbT1, oI_s, oI_n, natF, natT, nltT, nltF, nleT, nleF, ↓reduceIte, lgc, not_true_eq_false, not_false_eq_true, or_false, false_or, or_true, true_or, and_true, true_and, and_false, false_and, ne_eq, eq_self, or_self, and_self]) ?_)
    refine fail _ rfl ?_
    unfold d_111
    rcases (show s = 0 ∨ s = 1 ∨ s = 3 by omega) with rfl | rfl | rfl
    · simp (disch := first | omega | decide) only [↓neg1, nlit, rI, rL, rI2, rL1, nI_add, pk_mul, sbT, dvT, nmd, ixT, ↓ibT, ltT, ltF, leT, leF, eqT, eqF, nM_ltT, nM_ltF, nM_leT, nM_leF, nM_eqF, nM_eqF', nbT0, nbT1, oI_s, oI_n, natF, natT, nltT, nltF, nleT, nleF, ↓reduceIte, lgc, not_true_eq_false, not_false_eq_true, or_false, false_or, or_true, true_or, and_true, true_and, and_false, false_and, ne_eq, eq_self, or_self, and_self, obs, ↓jn, ↓lt, ↓reduceIte, decide_true, decide_false, Bool.false_eq_true, Bool.and_true, Bool.and_false, Bool.true_and, Bool.false_and, Bool.or_false, Bool.false_or, Bool.or_true, Bool.true_or, p6, p7]
    · simp (disch := first | omega | decide) only [↓neg1, nlit, rI, rL, rI2, rL1, nI_add, pk_mul, sbT, dvT, nmd, ixT, ↓ibT, ltT, ltF, leT, leF, eqT, eqF, nM_ltT, nM_ltF, nM_leT, nM_leF, nM_eqF, nM_eqF', nbT0, nbT1, oI_s, oI_n, natF, natT, nltT, nltF, nleT, nleF, ↓reduceIte, lgc, not_true_eq_false, not_false_eq_true, or_false, false_or, or_true, true_or, and_true, true_and, and_false, false_and, ne_eq, eq_self, or_self, and_self, obs, ↓jn, ↓lt, ↓reduceIte, decide_true, decide_false, Bool.false_eq_true, Bool.and_true, Bool.and_false, Bool.true_and, Bool.false_and, Bool.or_false, Bool.false_or, Bool.or_true, Bool.true_or, p6, p7]
    · simp (disch := first | omega | decide) only [↓neg1, nlit, rI, rL, rI2, rL1, nI_add, pk_mul, sbT, dvT, nmd, ixT, ↓ibT, ltT, ltF, leT, leF, eqT, eqF, nM_ltT, nM_ltF, nM_leT, nM_leF, nM_eqF, nM_eqF', nbT0, nbT1, oI_s, oI_n, natF, natT, nltT, nltF, nleT, nleF, ↓reduceIte, lgc, not_true_eq_false, not_false_eq_true, or_false, false_or, or_true, true_or, and_true, true_and, and_false, false_and, ne_eq, eq_self, or_self, and_self, obs, ↓jn, ↓lt, ↓reduceIte, decide_true, decide_false, Bool.false_eq_true, Bool.and_true, Bool.and_false, Bool.true_and, Bool.false_and, Bool.or_false, Bool.false_or, Bool.or_true, Bool.true_or, p6, p7]
