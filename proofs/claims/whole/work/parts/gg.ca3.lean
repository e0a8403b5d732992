/-! THE CALLS over the invariant: wire, give, rounds, begin, go, compile -/
section CA3S
variable {n T T' a i tot V F : Nat} {c d m m' u v w : cS} {r q : Nat → Nat → Bool} {a1 a2 : Int32} {sz : Nat → Nat} {X : Nat → Nat → Nat} {Y : Nat → Nat}
def qWuz (A i : Nat) : Bool := decide ((A = 174 ∧ (i = 0 ∨ (73 ≤ i ∧ i ≤ 79) ∨ (130 ≤ i ∧ i ≤ 134))) ∨ A = 232 ∨ A = 233 ∨ (261 ≤ A ∧ A ≤ 265))
theorem sx_Wu (h : sx qWu u v) : sx qWuz u v := sx_wide h (fun A l y => by
  have := of_decide_eq_false y
  unfold qWu qWs
  rw [decide_eq_false (by omega), decide_eq_false (by omega)]
  rfl)
theorem i_wire (hn : 1000 ≤ n) (hT : T < 512) (h : INV T c u) : bo (d_88 n c) (d_143 n u) (INV (T + 1)) := by
  obtain ⟨-, ⟨h1, h2, h3, h4, h5, h6, h7, h8, h9⟩, h10⟩ := id h
  rcases id h10 with hN | ⟨k0, m, k1, k2, k3, k4, k5, -⟩
  · refine bo_mono (c_wire0 hN.1 hN.2.1) (fun d w hw => ?_)
    rw [hw.1]
    exact INV_w h hT hw.2
  · refine bo_mono (c_wire hn k5 k3.1 k2 (by rw [k0]; decide) (by rw [(k2.2.2.1 14 rfl).trans k1]; decide)) (fun d w hw => ?_)
    obtain ⟨g1, sc, su⟩ := hw
    have su := sx_Wu su
    refine ⟨by omega, ⟨JT_sx h1 sc su (decide_eq_false (by omega)) (fun i => decide_eq_false (by omega)) (decide_eq_false (by omega)) (fun i => decide_eq_false (by omega)), JOsx h2 sc su (decide_eq_false (by omega)) (fun i => decide_eq_false (by omega)) (decide_eq_false (by omega)) (fun i => decide_eq_false (by omega)), JF_sx h3 sc su (decide_eq_false (by omega)) (decide_eq_false (by omega)) (decide_eq_false (by omega)) (decide_eq_false (by omega)), JA_sx h4 sc su (fun i => decide_eq_false (by omega)) (decide_eq_false (by omega)) (fun i => decide_eq_false (by omega)) (fun i => decide_eq_false (by omega)) (decide_eq_false (by omega)) (fun i => decide_eq_false (by omega)), WTsx h5 sc (fun i => decide_eq_false (by omega)), WV_sx h6 sc (fun i => decide_eq_false (by omega)), tot_sx h7 sc (decide_eq_false (by omega)), g1, ?_⟩, PRW_sx h10 sc su (fun a i z => decide_eq_false (by
      unfold KP at z
      omega)) (fun a i z => decide_eq_false (by
      unfold KPu at z
      omega)) (by omega) (fun m z => MBN_sx z sc (fun a i y => decide_eq_false (by omega)) (by omega))⟩
    rw [sc.1 1 1 (decide_eq_false (by omega))]
    omega
/-- CLASS rows have 240 MARKS at most -/
theorem sS_le (hP : PG c m) (hA : ALO c V F sz X Y) : sumN (fun k => sz (100 * k)) (ccn m) ≤ 240 := by
  have h12 := (CCS_p hP.1.2.2.1).1
  have := sumN_le (g := fun k => sz (100 * k)) (B := 20) (ccn m) (fun j hj => by
    have hR := hP.1.2.2.2 _ 0 (isP_C (k := j) hj)
    have := (rwL_of hA (by omega) hR.1).1
    have := hR.1.1
    show sz (100 * j) ≤ 20
    omega)
  have h20 : 20 * ccn m ≤ 240 := by omega
  omega
theorem JT_00 (h1 : d.1 1 1 = nI 0) (h2 : w.1 174 2 = nI 0) : JT d w := ⟨0, by omega, h1, h2, fun i hi => absurd hi (Nat.not_lt_zero _)⟩
theorem i_give (hn : 10000 ≤ n) (hT : T < 512) (h : INV T c u) : bo (d_65 n a1 c) (d_121 n a1 u) (INV (T + 1)) := by
  obtain ⟨-, ⟨h1, h2, h3, h4, h5, h6, ⟨tot, t1, t2⟩, h8, h9⟩, h10⟩ := id h
  -- where little has changed
  have same : ∀ d w, d.1 1 1 = nI 0 → w.1 174 2 = nI 0 → sx qG0 c d → sx qGz u w → INV (T + 1) d w := fun d w z1 z2 sc su => by
    refine ⟨by omega, ⟨JT_00 z1 z2, JOsx h2 sc su (decide_eq_false (by omega)) (fun i => decide_eq_false (by omega)) (decide_eq_false (by omega)) (fun i => decide_eq_false (by omega)), JF_sx h3 sc su (decide_eq_false (by omega)) (decide_eq_false (by omega)) (decide_eq_false (by omega)) (decide_eq_false (by omega)), JA_sx h4 sc su (fun i => decide_eq_false (by omega)) (decide_eq_false (by omega)) (fun i => decide_eq_false (by omega)) (fun i => decide_eq_false (by omega)) (decide_eq_false (by omega)) (fun i => decide_eq_false (by omega)), WTsx h5 sc (fun i => decide_eq_false (by omega)), WV_sx h6 sc (fun i => decide_eq_false (by omega)), tot_sx ⟨tot, t1, t2⟩ sc (decide_eq_false (by omega)), WRD_sx h8 sc su (fun i y1 y2 => decide_eq_false (by omega)) (fun i => decide_eq_false (by omega)) (fun i y => decide_eq_false (by omega)) (fun i => decide_eq_false (by omega)), ?_⟩, PRW_sx h10 sc su (fun a i z => decide_eq_false (by
      unfold KP at z
      omega)) (fun a i z => decide_eq_false (by
      unfold KPu at z
      omega)) (by omega) (fun m z => MBN_t z sc (fun a i y => decide_eq_false (by omega)) ?_)⟩
    · rw [z1, ix_n (by omega)]
      omega
    · rw [z1, ix_n (by omega)]
      omega
  rcases id h10 with hN | ⟨k0, m, k1, k2, k3, k4, k5, k6, k7, k8, k9, k10, Lb, A, V, F, sz, X, Y, b1, b2, b3, b4, b5⟩
  · refine bo_mono (c_give0 hN.1 hN.2.1) (fun d w hw => ?_)
    obtain ⟨v1, v2, -⟩ := u121_s (u := u)
    rw [hw.1, hw.2]
    refine same _ _ ?_ v2 (sx_pI sx_rfl (decide_eq_true (by omega))) v1
    rw [rI, if_pos ⟨rfl, rfl⟩]
    rfl
  · have hS := sS_le k3 b1
    refine bo_mono (c_give hn h1 t1 t2 b1 (by omega) k0 k1 k2 k3) (fun d w hw => ?_)
    obtain ⟨⟨z1, z2, -⟩, ⟨sc, su⟩ | ⟨p, k, F', X', Y', g1, g2, g3, g4, g5, g6, g7, g8, g9, sc, su⟩⟩ := hw
    · exact same d w z1 z2 sc su
    · have d7 : d.1 114 7 = nI tot := (sc.1 _ _ (decide_eq_false (by omega))).trans t2
      refine ⟨by omega, ⟨JT_00 z1 z2, JOsx h2 sc su (decide_eq_false (by omega)) (fun i => decide_eq_false (by omega)) (decide_eq_false (by omega)) (fun i => decide_eq_false (by omega)), JF_sx h3 sc su (decide_eq_false (by omega)) (decide_eq_false (by omega)) (decide_eq_false (by omega)) (decide_eq_false (by omega)), JA_sx h4 sc su (fun i => decide_eq_false (by omega)) (decide_eq_false (by omega)) (fun i => decide_eq_false (by omega)) (fun i => decide_eq_false (by omega)) (decide_eq_false (by omega)) (fun i => decide_eq_false (by omega)), WTsx h5 sc (fun i => decide_eq_false (by omega)), WV_sx h6 sc (fun i => decide_eq_false (by omega)), ⟨tot, t1, d7⟩, WRD_F g8 g9, ?_⟩, Or.inr ⟨(sc.1 _ _ (decide_eq_false (by omega))).trans k0, gM m w, k1, g6, g5, WB_g k4, k5, TLS_1 g7, FD_2 k7 sc su (fun i => decide_eq_false (by omega)) (fun i => decide_eq_false (by omega)), FLW_F g8 g9, CHK_F g5 t1 d7 g8 g9, Or.inl (RU0_F g8 g9), Lb + k, A, V - sz p + k, F', upZ sz p k, X', Y', g4, ?_, by omega, b4, ?_⟩⟩
      · rw [z1, ix_n (by omega)]
        omega
      · -- CLASS rows, and the others
        show V - sz p + k ≤ Lb + k + sumN (fun j => upZ sz p k (100 * j)) (ccn m)
        have hV := ALO_sz b1 (r := p) (by omega)
        by_cases e : ∃ j, j < ccn m ∧ p = 100 * j
        · obtain ⟨j, j1, j2⟩ := e
          have := sumN_at (g := fun t => upZ sz p k (100 * t)) (h := fun t => sz (100 * t)) (p := j) (ccn m) j1 (fun t ht => by
            unfold upZ
            rw [if_neg (by omega)])
          have e1 : upZ sz p k (100 * j) = k := by
            unfold upZ
            rw [if_pos j2.symm]
          rw [e1, ← j2] at this
          omega
        · rw [sumN_cg (g := fun t => upZ sz p k (100 * t)) (h := fun t => sz (100 * t)) (ccn m) (fun t ht => by
            unfold upZ
            rw [if_neg (fun y => e ⟨t, ht, y.symm⟩)])]
          omega
      · rw [z1, show ix (nI 0) = 0 from ix_n (by omega)]
        have hf : (ix (c.1 1 1) + 19) / 20 = 0 ∨ (ix (c.1 1 1) + 19) / 20 = 1 ∨ (ix (c.1 1 1) + 19) / 20 = 2 ∨ (ix (c.1 1 1) + 19) / 20 = 3 ∨ 4 ≤ (ix (c.1 1 1) + 19) / 20 := by omega
        rcases hf with hf | hf | hf | hf | hf
        · omega
        · omega
        · omega
        · omega
        · omega
theorem i_rounds (hn : 10000 ≤ n) (hT : T < 512) (h : INV T c u) : bo (d_72 n c) (d_124 n u) (INV (T + 1)) := by
  obtain ⟨-, ⟨h1, h2, h3, h4, h5, h6, ⟨tot, t1, t2⟩, h8, h9⟩, h10⟩ := INV_0 (x := 0) h
  rcases id h10 with hN | ⟨k0, m, k1, k2, k3, k4, k5, k6, k7, k8, k9, k10, Lb, A, V, F, sz, X, Y, b1, b2, b3, b4, b5⟩
  · refine bo_mono (c_rounds0 hN.1 ?_) (fun d w hw => ?_)
    · have := hN.2.1
      rw [rI, if_neg (by omega)] at this
      exact this
    · rw [hw.1]
      exact INV_w h hT hw.2
  · have hR : RDI (ccn m) (mcn m) Lb (sumN (fun k => sz (100 * k)) (ccn m)) m c (pI u 174 0 0) := ⟨k1, k2, k3, k4, k5, k6, k7, rfl, rfl, V, F, sz, X, Y, b1, rfl, b2⟩
    refine bo_mono (c_rounds hn (by omega) k0 t1 t2 hR) (fun d w hw => ?_)
    obtain ⟨m', S', ⟨x1, x2, x3, x4, x5, x6, x7, x8, x9, V', F', sz', X', Y', y1, y2, y3⟩, g8, g9, sc, su⟩ := hw
    have d7 : d.1 114 7 = nI tot := (sc.1 _ _ (decide_eq_false (by omega))).trans t2
    have d11 := sc.1 1 1 (decide_eq_false (by omega))
    refine ⟨by omega, ⟨JT_sx h1 sc su (decide_eq_false (by omega)) (fun i => decide_eq_false (by omega)) (decide_eq_false (by omega)) (fun i => decide_eq_false (by omega)), JOsx h2 sc su (decide_eq_false (by omega)) (fun i => decide_eq_false (by omega)) (decide_eq_false (by omega)) (fun i => decide_eq_false (by omega)), JF_sx h3 sc su (decide_eq_false (by omega)) (decide_eq_false (by omega)) (decide_eq_false (by omega)) (decide_eq_false (by omega)), JA_sx h4 sc su (fun i => decide_eq_false (by omega)) (decide_eq_false (by omega)) (fun i => decide_eq_false (by omega)) (fun i => decide_eq_false (by omega)) (decide_eq_false (by omega)) (fun i => decide_eq_false (by omega)), WTsx h5 sc (fun i => decide_eq_false (by omega)), WV_sx h6 sc (fun i => decide_eq_false (by omega)), ⟨tot, t1, d7⟩, WRD_F g8 g9, by rw [d11]; omega⟩, Or.inr ⟨(sc.1 _ _ (decide_eq_false (by omega))).trans k0, m', x1, x2, x3, x4, x5, x6, x7, FLW_F g8 g9, CHK_F x3 t1 d7 g8 g9, Or.inl (RU0_F g8 g9), Lb, A, V', F', sz', X', Y', y1, ?_, by omega, b4, by rw [d11]; omega⟩⟩
    rw [x8, y2]
    exact y3
theorem beg_6 (hn : 10000 ≤ n) (ha : nb a2) (h1 : c.1 7 0 = nI 1) (h2 : m.1 174 14 = nI 1) (hA : AG m u) (hG : PG c m) (hT : TLS c m) : wp (d_84 n a1 a2 c) (fun r => ∀ d, r = .inl d → d.1 162 6 = nI 0) := by
  have hE := hG.1
  have hC := hE.2.2.1
  unfold d_84
  refine wpf (by rw [h1]; decide) ?_
  rcases plA (n := n) (a := a1) h1 h2 hA hC with ⟨p1, p2⟩ | ⟨p, s, p1, rfl, p3, p4, p5, p6, p7⟩
  · refine wpe p1 (wpf (by decide) ?_)
    exact (show ∀ d, (Sum.inr (2, c) : cS ⊕ (Nat × cS)) = .inl d → d.1 162 6 = nI 0 from fun d hd => by cases hd)
  by_cases hs : s = 2
  · subst hs
    obtain ⟨m1, m2, m3⟩ := isP_MT hC p3 rfl
    have h22 := e22 (n := n) (p := p) (by omega) m1
    have hme : 8 * (p / 100) + (p % 100 - 20) / 10 = mAt p := rfl
    rw [hme] at h22
    refine wpe p5 (wpt rfl (wpc (e188 (by omega) h1 hE hT) (fun d hd => wpe h22 ?_)))
    obtain ⟨d1, d2, d3⟩ := hd
    have hGd := PG_CA (CA_sx d1 nC_qL) hG
    refine wpc (e300 hn hGd m2 ha) (fun e he => ?_)
    refine (show ∀ d, (Sum.inl e : cS ⊕ (Nat × cS)) = .inl d → d.1 162 6 = nI 0 from fun d hd => ?_)
    cases hd
    have := he.1.2.1 6 (by omega) (by omega)
    rw [if_neg (by omega)] at this
    exact this
  · refine wpe p5 (wpf (by simp (disch := first | omega | decide) only [↓neg1, nlit, rI, rL, rI2, rL1, nI_add, pk_mul, sbT, dvT, nmd, ixT, ↓ibT, ltT, ltF, leT, leF, eqT, eqF, nM_ltT, nM_ltF, nM_leT, nM_leF, nM_eqF, nM_eqF', nbT0, nbT1, oI_s, oI_n, natF, natT, nltT, nltF, nleT, nleF, ↓reduceIte, lgc, not_true_eq_false, not_false_eq_true, or_false, false_or, or_true, true_or, and_true, true_and, and_false, false_and, ne_eq, eq_self, or_self, and_self]) ?_)
    exact (show ∀ d, (Sum.inr (2, c) : cS ⊕ (Nat × cS)) = .inl d → d.1 162 6 = nI 0 from fun d hd => by cases hd)
/-- begin: what it throws, what it leaves -/
theorem i_begin (hn : 10000 ≤ n) (ha : nb a2) (hT : T < 512) (h : INV T c u) : jw (d_84 n a1 a2 c) (d_139 n a1 a2 u) (fun r w => ∃ d, INV (T + 1) d w ∧ ((r = .inl d ∧ w.1 174 0 = nI 0) ∨ (r = .inr (1, d) ∧ w.1 174 0 = nI 1) ∨ (r = .inr (2, d) ∧ w.1 174 0 = nI 2))) := by
  obtain ⟨-, ⟨h1, h2, h3, h4, h5, h6, h7, h8, h9⟩, h10⟩ := id h
  rcases id h10 with hN | ⟨k0, m, k1, k2, k3, k4, k5, k6, k7, k8, k9, k10, k11⟩
  · refine wp_mono (c_begin0 (n := n) (a1 := a1) (a2 := a2) hN.1 hN.2.1) (fun r hr => wp_mono hr (fun w hw => ⟨c, ?_, Or.inr (Or.inl ⟨hw.1, ?_⟩)⟩))
    · rw [hw.2]
      exact INV_up (INV_0 h) hT
    · rw [hw.2, rI, if_pos ⟨rfl, rfl⟩]
  · obtain ⟨r, er, hr⟩ := wp_ex (c_begin (n := n) (a1 := a1) (a2 := a2) hn ha k0 k1 k2 k3 k6 h4.1)
    obtain ⟨w, ew, hw⟩ := wp_ex hr
    have h6' := beg_6 (n := n) (a1 := a1) (a2 := a2) hn ha k0 k1 k2 k3 k6
    rw [er] at h6'
    have h6' : ∀ d, r = .inl d → d.1 162 6 = nI 0 := h6'
    refine wp_of er (wp_of ew ?_)
    rcases hw with ⟨z1, z2⟩ | ⟨d, M, z1, z2, z3, sc, su, z6, z7, z8⟩
    · refine ⟨c, ?_, Or.inr (Or.inr ⟨z1, ?_⟩)⟩
      · rw [z2]
        exact INV_up (INV_0 h) hT
      · rw [z2, rI, if_pos ⟨rfl, rfl⟩]
    · have d11 := sc.1 1 1 (decide_eq_false (by omega))
      have hC : nC qBd := ⟨fun a i z1 z2 z3 => decide_eq_false (by omega), fun i z => decide_eq_false (by omega)⟩
      have hF : nF qBd := ⟨hC, fun i => decide_eq_false (by omega), decide_eq_false (by omega), decide_eq_false (by omega), fun i => decide_eq_false (by omega), fun i => decide_eq_false (by omega)⟩
      have hP : nP qBr := ⟨fun a i z => by
        have := PA_of z
        exact decide_eq_false (by omega), fun i z => by
        have := PF_of z
        exact decide_eq_false (by omega), fun i z => decide_eq_false (by omega), fun a i z1 z2 z3 => decide_eq_false (by omega), fun a i z1 z2 z3 => decide_eq_false (by omega)⟩
      have hG : nG qBr := ⟨decide_eq_false (by omega), fun a i z1 z2 z3 => decide_eq_false (by omega)⟩
      exact ⟨d, ⟨by omega, ⟨JT_sx h1 sc su (decide_eq_false (by omega)) (fun i => decide_eq_false (by omega)) (decide_eq_false (by omega)) (fun i => decide_eq_false (by omega)), JOsx h2 sc su (decide_eq_false (by omega)) (fun i => decide_eq_false (by omega)) (decide_eq_false (by omega)) (fun i => decide_eq_false (by omega)), JF_sx h3 sc su (decide_eq_false (by omega)) (decide_eq_false (by omega)) (decide_eq_false (by omega)) (decide_eq_false (by omega)), JA_sx h4 sc su (fun i => decide_eq_false (by omega)) (decide_eq_false (by omega)) (fun i => decide_eq_false (by omega)) (fun i => decide_eq_false (by omega)) (decide_eq_false (by omega)) (fun i => decide_eq_false (by omega)), WTsx h5 sc (fun i => decide_eq_false (by omega)), WV_sx h6 sc (fun i => decide_eq_false (by omega)), tot_sx h7 sc (decide_eq_false (by omega)), WRD_sx h8 sc su (fun i y1 y2 => decide_eq_false (by omega)) (fun i => decide_eq_false (by omega)) (fun i y => decide_eq_false (by omega)) (fun i => decide_eq_false (by omega)), by rw [d11]; omega⟩, Or.inr ⟨(sc.1 _ _ (decide_eq_false (by omega))).trans k0, m, k1, AG_sx k2 su hP, PG_CA (CA_sx sc hC) k3, k4, k5, z7, FD_2 k7 sc su (fun i => decide_eq_false (by omega)) (fun i => decide_eq_false (by omega)), FLW_sx k8 sc su hF (fun _ => z8) (decide_eq_false (by omega)) (fun i => decide_eq_false (by omega)) hG (decide_eq_false (by omega)) (decide_eq_false (by omega)) (fun i => decide_eq_false (by omega)), CHK_sx k9 sc su hC (fun i => decide_eq_false (by omega)) (fun i => decide_eq_false (by omega)) (fun _ => z8) (decide_eq_false (by omega)) (fun i => decide_eq_false (by omega)), Or.inr ⟨z8, ⟨0, by omega, h6' d z1⟩, 1, 1, _, _, z3⟩, MBN_sx k11 sc (fun a i z => decide_eq_false (by omega)) (by omega)⟩⟩, Or.inl ⟨z1, z6⟩⟩
/-- go -/
theorem i_go (hn : 20000 ≤ n) (hT : T < 512) (h : INV T c u) : jw (d_85 n a1 c) (d_140 n a1 u) (fun r s => ∃ d w, INV (T + 1) d w ∧ ((∃ k, r = .inl (k, d) ∧ s = (k, w) ∧ w.1 174 0 = nI 0) ∨ (r = .inr (0, d) ∧ s = (0, w) ∧ w.1 174 0 = nI 1) ∨ (r = .inr (1, d) ∧ s = (0, w) ∧ w.1 174 0 = nI 2))) := by
  obtain ⟨-, ⟨h1, h2, h3, h4, h5, h6, h7, h8, h9⟩, h10⟩ := INV_0 (x := 0) h
  by_cases hb : a1 < 1 ∨ ¬ a1 ≤ 10000
  · obtain ⟨r, s, e1, e2, z1, z2⟩ := jw_ex (c_goB (n := n) (c := c) (u := u) hb)
    refine wp_of e1 (wp_of e2 ⟨c, _, INV_up (INV_0 h) hT, Or.inr (Or.inl ⟨z1, z2, ?_⟩)⟩)
    rw [rI, if_pos ⟨rfl, rfl⟩]
  have hb' : ¬ a1 < 1 ∧ a1 ≤ 10000 := by
    by_cases e1 : a1 < 1
    · exact absurd (Or.inl e1) hb
    · by_cases e2 : a1 ≤ 10000
      · exact ⟨e1, e2⟩
      · exact absurd (Or.inr e2) hb
  have stop : c.1 162 0 ≠ nI 1 → u.1 174 111 ≠ nI 1 → jw (d_85 n a1 c) (d_140 n a1 u) (fun r s => ∃ d w, INV (T + 1) d w ∧ ((∃ k, r = .inl (k, d) ∧ s = (k, w) ∧ w.1 174 0 = nI 0) ∨ (r = .inr (0, d) ∧ s = (0, w) ∧ w.1 174 0 = nI 1) ∨ (r = .inr (1, d) ∧ s = (0, w) ∧ w.1 174 0 = nI 2))) := fun y1 y2 => by
    obtain ⟨r, s, e1, e2, z1, z2⟩ := jw_ex (c_go0 (n := n) (c := c) (u := u) hb' y1 y2)
    refine wp_of e1 (wp_of e2 ⟨c, _, INV_up (INV_0 h) hT, Or.inr (Or.inr ⟨z1, z2, ?_⟩)⟩)
    rw [rI, if_pos ⟨rfl, rfl⟩]
  have u111 : (pI u 174 0 0).1 174 111 = u.1 174 111 := by rw [rI, if_neg (by omega)]
  have noR : RU0 c (pI u 174 0 0) → jw (d_85 n a1 c) (d_140 n a1 u) (fun r s => ∃ d w, INV (T + 1) d w ∧ ((∃ k, r = .inl (k, d) ∧ s = (k, w) ∧ w.1 174 0 = nI 0) ∨ (r = .inr (0, d) ∧ s = (0, w) ∧ w.1 174 0 = nI 1) ∨ (r = .inr (1, d) ∧ s = (0, w) ∧ w.1 174 0 = nI 2))) := fun z => stop (by rw [z.1]; decide) (by rw [← u111, z.2.1]; decide)
  rcases id h10 with hN | ⟨k0, m, k1, k2, k3, k4, k5, k6, k7, k8, k9, k10, k11⟩
  · exact noR hN.2.2.2.2.2
  rcases k10 with z | ⟨l8, ⟨L, l1, l2⟩, st, fr, Mf, If, hR⟩
  · exact noR z
  by_cases es : st = 1
  · rw [es] at hR
    have hGO : GOH m c (pI u 174 0 0) L := ⟨⟨k3, k6, l8, fun p s o hp hs ho => ⟨(k7 p s o hp hs ho).1, (k7 p s o hp hs ho).2.1⟩⟩, k2, k7, h4.2, k9, l2, by omega⟩
    obtain ⟨r, s, e1, e2, k, d, w, z1, z2, z3, ⟨g1, sc, su, L', g2, g3⟩, st', fr', Mf', If', hR'⟩ := jw_ex (c_go1 (n := n) (c := c) (u := u) hn hb' hGO hR)
    have d11 := sc.1 1 1 (decide_eq_false (by omega))
    have hC : nC qGc := ⟨fun a i z1 z2 z3 => decide_eq_false (by omega), fun i z => decide_eq_false (by omega)⟩
    have hF : nF qGc := ⟨hC, fun i => decide_eq_false (by omega), decide_eq_false (by omega), decide_eq_false (by omega), fun i => decide_eq_false (by omega), fun i => decide_eq_false (by omega)⟩
    have hP : nP qGr := ⟨fun a i z => by
      have := PA_of z
      exact decide_eq_false (by omega), fun i z => by
      have := PF_of z
      exact decide_eq_false (by omega), fun i z => decide_eq_false (by omega), fun a i z1 z2 z3 => decide_eq_false (by omega), fun a i z1 z2 z3 => decide_eq_false (by omega)⟩
    have hG : nG qGr := ⟨decide_eq_false (by omega), fun a i z1 z2 z3 => decide_eq_false (by omega)⟩
    have d8 : d.1 146 8 = nI 0 := (sc.1 _ _ (decide_eq_false (by omega))).trans l8
    exact wp_of e1 (wp_of e2 ⟨d, w, ⟨by omega, ⟨JT_sx h1 sc su (decide_eq_false (by omega)) (fun i => decide_eq_false (by omega)) (decide_eq_false (by omega)) (fun i => decide_eq_false (by omega)), JOsx h2 sc su (decide_eq_false (by omega)) (fun i => decide_eq_false (by omega)) (decide_eq_false (by omega)) (fun i => decide_eq_false (by omega)), JF_sx h3 sc su (decide_eq_false (by omega)) (decide_eq_false (by omega)) (decide_eq_false (by omega)) (decide_eq_false (by omega)), ⟨fun i hi => by rw [sc.1 _ _ (decide_eq_false (by omega)), su.1 _ _ (decide_eq_false (by omega))]; exact h4.1 i hi, g1⟩, WTsx h5 sc (fun i => decide_eq_false (by omega)), WV_sx h6 sc (fun i => decide_eq_false (by omega)), tot_sx h7 sc (decide_eq_false (by omega)), WRD_sx h8 sc su (fun i y1 y2 => decide_eq_false (by omega)) (fun i => decide_eq_false (by omega)) (fun i y => decide_eq_false (by omega)) (fun i => decide_eq_false (by omega)), by rw [d11]; omega⟩, Or.inr ⟨(sc.1 _ _ (decide_eq_false (by omega))).trans k0, m, k1, AG_sx k2 su hP, PG_CA (CA_sx sc hC) k3, k4, k5, TLS_sx k6 sc (decide_eq_false (by omega)) (fun i => decide_eq_false (by omega)), FD_2 k7 sc su (fun i => decide_eq_false (by omega)) (fun i => decide_eq_false (by omega)), FLW_sx k8 sc su hF (fun _ => d8) (decide_eq_false (by omega)) (fun i => decide_eq_false (by omega)) hG (decide_eq_false (by omega)) (decide_eq_false (by omega)) (fun i => decide_eq_false (by omega)), CHK_sx k9 sc su hC (fun i => decide_eq_false (by omega)) (fun i => decide_eq_false (by omega)) (fun _ => d8) (decide_eq_false (by omega)) (fun i => decide_eq_false (by omega)), Or.inr ⟨d8, ⟨L', by omega, g3⟩, st', fr', Mf', If', hR'⟩, MBN_sx k11 sc (fun a i z => decide_eq_false (by omega)) (by omega)⟩⟩, Or.inl ⟨k, z1, z2, z3⟩⟩)
  · obtain ⟨⟨s1, s2⟩, -, s3, s4, -⟩ := hR
    refine stop (fun z => es ?_) (fun z => es ?_)
    · rw [s3] at z
      exact (nI_eq (by omega) (by decide)).mp z
    · rw [← u111, s4] at z
      exact (nI_eq (by omega) (by decide)).mp z
/-- compile -/
theorem i_compile (hn : 10000 ≤ n) (hT : T < 512) (h : INV T c u) : jw (d_59 n c) (d_106 n u) (fun r s => ∃ d w, INV (T + 1) d w ∧ ((∃ k, r = .inl (k, d) ∧ s = (k, w) ∧ w.1 174 0 = nI 0) ∨ (r = .inr d ∧ s = (0, w) ∧ w.1 174 0 = nI 1))) := by
  obtain ⟨-, ⟨h1, h2, h3, h4, h5, h6, ⟨tot, t1, t2⟩, h8, h9⟩, h10⟩ := id h
  obtain ⟨ℓ, hℓ, l1, -⟩ := id h1
  have eL : ix (c.1 1 1) = ℓ := by
    rw [l1, ix_n (by omega)]
  rw [eL] at h9
  have base : ∀ d w, CPC c u d w → BAS (T + 1) d w ∧ RU0 d w ∧ d.1 150 3 = nM ∧ w.1 174 97 = nM ∧ d.1 150 16 = nI 0 ∧ w.1 174 106 = nI 0 ∧ d.1 1 1 = nI 0 := fun d w hc => by
    obtain ⟨⟨z1, z2⟩, hF, ht, ⟨y1, y2, y3, y4, y5, y6⟩, hR, sc, su⟩ := hc
    refine ⟨⟨JT_00 z1 z2, JOsx h2 sc su (decide_eq_false (by omega)) (fun i => decide_eq_false (by omega)) (decide_eq_false (by omega)) (fun i => decide_eq_false (by omega)), hF, JA_sx h4 sc su (fun i => decide_eq_false (by omega)) (decide_eq_false (by omega)) (fun i => decide_eq_false (by omega)) (fun i => decide_eq_false (by omega)) (decide_eq_false (by omega)) (fun i => decide_eq_false (by omega)), WTsx h5 sc (fun i => decide_eq_false (by omega)), WV_sx h6 sc (fun i => decide_eq_false (by omega)), ht, Or.inl ⟨y4, y5, y6, Or.inr hR.2.2.2.2⟩, ?_⟩, ⟨?_, hR.2.1, fun j q1 q2 => y3 j q2⟩, y1, hR.2.2.1, y2, hR.1, z1⟩
    · rw [z1, ix_n (by omega)]
      omega
    · rw [y3 0 (by omega), if_neg (by omega)]
  obtain ⟨r, s, e1, e2, hX⟩ := jw_ex (c_compile (n := n) (c := c) (u := u) hn h1 h6 t1 t2)
  rw [eL] at hX
  refine wp_of e1 (wp_of e2 ?_)
  rcases hX with ⟨k, d, w, z1, z2, z3, hc, ⟨g1, g2, g3, g4, g5, g6, g7, g8, V, F, sz, X, Y, g9, g10⟩⟩ | ⟨d, w, z1, z2, z3, hc, g1, g2⟩
  · obtain ⟨b1, b2, b3, b4, b5, b6, b7⟩ := base d w hc
    refine ⟨d, w, ⟨by omega, b1, Or.inr ⟨g1, w, g2, AG_rfl, g3, g4, g5, g6, g7, Or.inl ⟨b3, b4, b5⟩, Or.inl ⟨b6, g8⟩, Or.inl b2, V, (ℓ + 19) / 20, V, F, sz, X, Y, g9, by omega, by omega, by omega, ?_⟩⟩, Or.inl ⟨k, z1, z2, z3⟩⟩
    rw [b7, ix_n (by omega)]
    omega
  · obtain ⟨b1, b2, b3, b4, b5, b6, b7⟩ := base d w hc
    exact ⟨d, w, ⟨by omega, b1, Or.inl ⟨g1, g2, b3, b4, b5, b2⟩⟩, Or.inr ⟨z1, z2, z3⟩⟩
end CA3S
