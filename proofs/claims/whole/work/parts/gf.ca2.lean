/-! THE CALLS over the invariant: markOf, flow, way, weave, plain, find -/
section CA2S
variable {n T T' a i tot : Nat} {c d m m' u v w : cS} {r q : Nat → Nat → Bool} {a1 a2 : Int32}
def PRNx (c u : cS) : Prop := c.1 7 0 = nI 0 ∧ u.1 174 14 = nI 0
/-- no PROGRAM: what must stay -/
theorem PRN_cg (h : PRN c u) (h1 : d.1 7 0 = c.1 7 0) (h2 : d.1 150 3 = c.1 150 3) (h3 : d.1 150 16 = c.1 150 16) (h4 : ∀ i, d.1 162 i = c.1 162 i) (g1 : v.1 174 14 = u.1 174 14) (g2 : v.1 174 97 = u.1 174 97) (g3 : v.1 174 111 = u.1 174 111) : PRN d v := by
  obtain ⟨a1, a2, a3, a4, a5, a6⟩ := h
  exact ⟨h1.trans a1, g1.trans a2, h2.trans a3, g2.trans a4, h3.trans a5, RU0_cg a6 h4 g3⟩
theorem i8 (h : d = c ∨ d.1 146 8 = nI 0) : c.1 146 8 = nI 0 → d.1 146 8 = nI 0 := fun z => by
  rcases h with h | h
  · rw [h]
    exact z
  · exact h
theorem BAS_q (h : BAS T c u) (sc : sx r c d) (su : sx q u v) (hr : ∀ a i, KB a i → r a i = false) (hq : ∀ a i, KBu a i → q a i = false) : BAS (T + 1) d v := BAS_sx h sc su hr hq (by omega)
theorem i_markOf (hn : 2000 ≤ n) (hT : T < 512) (h : INV T c u) : bo (d_71 n a1 a2 c) (d_125 n a1 a2 u) (INV (T + 1)) := by
  obtain ⟨-, hB, hP⟩ := INV_0 (x := 0) h
  have hBs : ∀ d w, sx qL c d → sx qR (pI u 174 0 0) w → BAS (T + 1) d w := fun d w s1 s2 => BAS_q hB s1 s2 (fun a i z => decide_eq_false (by
    unfold KB at z
    omega)) (fun a i z => decide_eq_false (by
    unfold KBu at z
    omega))
  rcases hP with hP | ⟨h0, m, h1, h2, h3, h4, h5, h6, h7, h8, h9, h10, h11⟩
  · refine bo_mono (c_markOfm (m := c) hn (Or.inl ⟨hP.1, hP.2.1⟩)) (fun d w hw => ?_)
    obtain ⟨s1, s2, -, -⟩ := hw
    exact ⟨by omega, hBs d w s1 s2, Or.inl (PRN_cg hP (s1.1 _ _ rfl) (s1.1 _ _ rfl) (s1.1 _ _ rfl) (fun i => s1.1 _ _ rfl) (s2.1 _ _ rfl) (s2.1 _ _ rfl) (s2.1 _ _ rfl))⟩
  · refine bo_mono (c_markOfm (m := m) hn (Or.inr ⟨h0, h1, h2, h3, h6, h7⟩)) (fun d w hw => ?_)
    obtain ⟨s1, s2, hX, h146⟩ := hw
    have d0 : d.1 7 0 = nI 1 := (s1.1 _ _ rfl).trans h0
    rcases hX with ⟨z, -⟩ | ⟨-, -, x2, x3, x4, x5⟩
    · rw [d0] at z
      exact absurd z (by decide)
    have hC : nC qL := nC_qL
    have hF : nF qL := ⟨hC, fun _ => rfl, rfl, rfl, fun _ => rfl, fun _ => rfl⟩
    have hG : nG qR := ⟨rfl, fun a i z1 z2 z3 => decide_eq_false (by omega)⟩
    exact ⟨by omega, hBs d w s1 s2, Or.inr ⟨d0, m, h1, x2, x3, h4, h5, x4, x5, FLW_sx h8 s1 s2 hF (i8 h146) rfl (fun _ => rfl) hG rfl rfl (fun _ => rfl), CHK_sx h9 s1 s2 hC (fun _ => rfl) (fun _ => rfl) (i8 h146) rfl (fun _ => rfl), RUX_sx h10 s1 s2 (fun a i z => decide_eq_false (by omega)) (i8 h146) (fun i z => decide_eq_false (by omega)) (fun a i z1 z2 => decide_eq_false (by omega)) (by omega), MBN_sx h11 s1 (fun a i z => decide_eq_false (by omega)) (by omega)⟩⟩
theorem i_flow (hn : 1100000 ≤ n) (hT : T < 512) (h : INV T c u) : bo (d_73 n a1 c) (d_126 n a1 u) (INV (T + 1)) := by
  obtain ⟨-, hB, hP⟩ := INV_0 (x := 0) h
  have hBs : ∀ d w, sx qFc c d → sx qFr (pI u 174 0 0) w → BAS (T + 1) d w := fun d w s1 s2 => BAS_q hB s1 s2 (fun a i z => decide_eq_false (by
    unfold KB at z
    omega)) (fun a i z => decide_eq_false (by
    unfold KBu at z
    omega))
  rcases hP with hP | ⟨h0, m, h1, h2, h3, h4, h5, h6, h7, h8, h9, h10, h11⟩
  · refine bo_mono (c_flowm (m := c) hn (Or.inl ⟨hP.1, hP.2.1, hP.2.2.1, hP.2.2.2.1, hP.2.2.2.2.1⟩)) (fun d w hw => ?_)
    obtain ⟨s1, s2, hX, -⟩ := hw
    have d0 : d.1 7 0 = nI 0 := (s1.1 _ _ rfl).trans hP.1
    rcases hX with ⟨x1, x2, x3, x4, x5⟩ | ⟨z, -⟩
    · exact ⟨by omega, hBs d w s1 s2, Or.inl ⟨x1, x2, x3, x4, x5, RU0_cg hP.2.2.2.2.2 (fun i => s1.1 _ _ rfl) (s2.1 _ _ rfl)⟩⟩
    · rw [d0] at z
      exact absurd z (by decide)
  · refine bo_mono (c_flowm (m := m) hn (Or.inr ⟨h0, h1, h2, h3, h4, h6, h7, h8⟩)) (fun d w hw => ?_)
    obtain ⟨s1, s2, hX, h146⟩ := hw
    have d0 : d.1 7 0 = nI 1 := (s1.1 _ _ rfl).trans h0
    rcases hX with ⟨z, -⟩ | ⟨-, -, x2, x3, x4, x5, x6, x7⟩
    · rw [d0] at z
      exact absurd z (by decide)
    have hC : nC qFc := ⟨fun a i z1 z2 z3 => decide_eq_false (by omega), fun i z => decide_eq_false (by omega)⟩
    exact ⟨by omega, hBs d w s1 s2, Or.inr ⟨d0, m, h1, x2, x3, h4, h5, x5, x6, x7, CHK_sx h9 s1 s2 hC (fun _ => rfl) (fun _ => rfl) (i8 h146) rfl (fun i => decide_eq_false (by omega)), RUX_sx h10 s1 s2 (fun a i z => decide_eq_false (by omega)) (i8 h146) (fun i z => decide_eq_false (by omega)) (fun a i z1 z2 => decide_eq_false (by omega)) (by omega), MBN_sx h11 s1 (fun a i z => decide_eq_false (by omega)) (by omega)⟩⟩
theorem i_way (hn : 20000 ≤ n) (hT : T < 512) (h : INV T c u) : bo (d_75 n a1 c) (d_129 n a1 u) (INV (T + 1)) := by
  obtain ⟨-, hB, hP⟩ := INV_0 (x := 0) h
  have hBs : ∀ d w, sx qYC c d → sx qYR (pI u 174 0 0) w → BAS (T + 1) d w := fun d w s1 s2 => BAS_q hB s1 s2 (fun a i z => decide_eq_false (by
    unfold KB at z
    omega)) (fun a i z => decide_eq_false (by
    unfold KBu at z
    omega))
  rcases hP with hP | ⟨h0, m, h1, h2, h3, h4, h5, h6, h7, h8, h9, h10, h11⟩
  · refine bo_mono (c_waym (m := c) hn (Or.inl ⟨hP.1, hP.2.1, hP.2.2.1, hP.2.2.2.1, hP.2.2.2.2.1⟩)) (fun d w hw => ?_)
    obtain ⟨s1, s2, hX⟩ := hw
    have d0 : d.1 7 0 = nI 0 := (s1.1 _ _ (decide_eq_false (by omega))).trans hP.1
    rcases hX with ⟨x1, x2, x3, x4, x5⟩ | ⟨z, -⟩
    · exact ⟨by omega, hBs d w s1 s2, Or.inl ⟨x1, x2, x3, x4, x5, RU0_cg hP.2.2.2.2.2 (fun i => s1.1 _ _ (decide_eq_false (by omega))) (s2.1 _ _ (decide_eq_false (by omega)))⟩⟩
    · rw [d0] at z
      exact absurd z (by decide)
  · refine bo_mono (c_waym (m := m) hn (Or.inr ⟨h0, h1, h2, h3, h4, h6, h7, h8⟩)) (fun d w hw => ?_)
    obtain ⟨s1, s2, hX⟩ := hw
    have d0 : d.1 7 0 = nI 1 := (s1.1 _ _ (decide_eq_false (by omega))).trans h0
    rcases hX with ⟨z, -⟩ | ⟨-, -, x2, x3, x4, x5, x6, x7⟩
    · rw [d0] at z
      exact absurd z (by decide)
    have hC : nC qYC := ⟨fun a i z1 z2 z3 => decide_eq_false (by omega), fun i z => decide_eq_false (by omega)⟩
    have h8' : c.1 146 8 = nI 0 → d.1 146 8 = nI 0 := fun z => (s1.1 _ _ (decide_eq_false (by omega))).trans z
    exact ⟨by omega, hBs d w s1 s2, Or.inr ⟨d0, m, h1, x2, x3, h4, h5, x5, x6, x7, CHK_sx h9 s1 s2 hC (fun i => decide_eq_false (by omega)) (fun i => decide_eq_false (by omega)) h8' (decide_eq_false (by omega)) (fun i => decide_eq_false (by omega)), RUX_sx h10 s1 s2 (fun a i z => decide_eq_false (by omega)) h8' (fun i z => decide_eq_false (by omega)) (fun a i z1 z2 => decide_eq_false (by omega)) (by omega), MBN_sx h11 s1 (fun a i z => decide_eq_false (by omega)) (by omega)⟩⟩
theorem i_weave (hn : 1100000 ≤ n) (hT : T < 512) (h : INV T c u) : bo (d_80 n c) (d_134 n u) (INV (T + 1)) := by
  obtain ⟨-, hB, hP⟩ := INV_0 (x := 0) h
  have hBs : ∀ d w, sx qWxc c d → sx qWxr (pI u 174 0 0) w → BAS (T + 1) d w := fun d w s1 s2 => BAS_q hB s1 s2 (fun a i z => decide_eq_false (by
    unfold KB at z
    omega)) (fun a i z => decide_eq_false (by
    unfold KBu at z
    omega))
  rcases hP with hP | ⟨h0, m, h1, h2, h3, h4, h5, h6, h7, h8, h9, h10, h11⟩
  · refine bo_mono (c_weavem (m := c) hn (Or.inl ⟨hP.1, hP.2.1, hP.2.2.1, hP.2.2.2.1, hP.2.2.2.2.1⟩)) (fun d w hw => ?_)
    obtain ⟨s1, s2, hX, -⟩ := hw
    have d0 : d.1 7 0 = nI 0 := (s1.1 _ _ (decide_eq_false (by omega))).trans hP.1
    rcases hX with ⟨x1, x2, x3, x4, x5⟩ | ⟨z, -⟩
    · exact ⟨by omega, hBs d w s1 s2, Or.inl ⟨x1, x2, x3, x4, x5, RU0_cg hP.2.2.2.2.2 (fun i => s1.1 _ _ (decide_eq_false (by omega))) (s2.1 _ _ (decide_eq_false (by omega)))⟩⟩
    · rw [d0] at z
      exact absurd z (by decide)
  · refine bo_mono (c_weavem (m := m) hn (Or.inr ⟨h0, h1, h2, h3, h4, h6, h7, h8⟩)) (fun d w hw => ?_)
    obtain ⟨s1, s2, hX, h146⟩ := hw
    have d0 : d.1 7 0 = nI 1 := (s1.1 _ _ (decide_eq_false (by omega))).trans h0
    rcases hX with ⟨z, -⟩ | ⟨-, -, x2, x3, x4, x5, x6, x7, x8⟩
    · rw [d0] at z
      exact absurd z (by decide)
    exact ⟨by omega, hBs d w s1 s2, Or.inr ⟨d0, m, h1, x2, x3, h4, h5, x5, x6, x7, x8, RUX_sx h10 s1 s2 (fun a i z => decide_eq_false (by omega)) (i8 h146) (fun i z => decide_eq_false (by omega)) (fun a i z1 z2 => decide_eq_false (by omega)) (by omega), MBN_sx h11 s1 (fun a i z => decide_eq_false (by omega)) (by omega)⟩⟩
/-! all that was found is forgotten -/
theorem RU0_F (h : FGC tot d) (g : FGR w) : RU0 d w := by
  obtain ⟨-, -, -, -, h5, -⟩ := h
  exact ⟨by rw [h5 0 (by omega), if_neg (by omega)], g.2.1, fun j z1 z2 => h5 j z2⟩
theorem WRD_F (h : FGC tot d) (g : FGR w) : WRD d w := by
  obtain ⟨-, -, -, -, -, h6, h7, h8⟩ := h
  exact Or.inl ⟨h6, h7, h8, Or.inr g.2.2.2.2⟩
theorem FLW_F (h : FGC tot d) (g : FGR w) : FLW m d w := Or.inl ⟨h.1, g.2.2.1, h.2.2.1⟩
theorem CHK_F (hG : PG d m) (ht : tot ≤ 1024) (h7 : d.1 114 7 = nI tot) (h : FGC tot d) (g : FGR w) : CHK m d w := by
  refine Or.inl ⟨g.1, fun M i hM hi => ⟨0, by decide, ?_, fun t ht' => ?_⟩⟩
  · obtain ⟨t2, y1, y2, y3⟩ := hG.2.2.1
    have e : t2 = tot := by
      rw [y2] at h7
      exact (nI_eq (by omega) (by omega)).mp h7
    have := y3 M hM
    exact h.2.2.2.1 _ (by omega)
  · rw [Nat.zero_testBit]
    exact ⟨(fun z => by cases z), fun z => False.elim z⟩
theorem CN_AG (h : CN m) (h1 : AG m u) (h2 : AG m' u) : CN m' ∧ ccn m' = ccn m := by
  have e : ccn m' = ccn m := congrArg ix ((h2.2.2.1 37 rfl).symm.trans (h1.2.2.1 37 rfl))
  refine ⟨fun k hk => ?_, e⟩
  rw [e] at hk
  rw [← h2.2.1 200 k rfl, h1.2.1 200 k rfl]
  exact h k hk
/-- plain and find -/
theorem INV_F (h : INV T c u) (hT : T < 512) (sc : sx r c d) (su : sx q u v) (hr : ∀ a i, KB a i → ¬ (a = 167) → r a i = false) (hr2 : ∀ a i, 133 ≤ a ∧ a ≤ 144 → r a i = false) (hr3 : r 7 0 = false) (hq : ∀ a i, KBu a i → ¬ (a = 174 ∧ i = 130) → q a i = false) (hP : nP q) (hX : PR3 d v) (hF : ∃ tot, tot ≤ 1024 ∧ c.1 114 7 = nI tot ∧ FGC tot d) (hF' : FGR v) : INV (T + 1) d v := by
  obtain ⟨tot, t1, t2, t3⟩ := hF
  obtain ⟨-, ⟨h1, h2, h3, h4, h5, h6, h7, h8, h9⟩, h10⟩ := h
  have r11 : r 1 1 = false := hr _ _ (by unfold KB; omega) (by omega)
  have d7 : d.1 114 7 = nI tot := (sc.1 _ _ (hr _ _ (by unfold KB; omega) (by omega))).trans t2
  refine ⟨by omega, ⟨JT_sx h1 sc su r11 (fun i => hr _ _ (by unfold KB; omega) (by omega)) (hq _ _ (by unfold KBu; omega) (by omega)) (fun i => hq _ _ (by unfold KBu; omega) (by omega)), JOsx h2 sc su (hr _ _ (by unfold KB; omega) (by omega)) (fun i => hr _ _ (by unfold KB; omega) (by omega)) (hq _ _ (by unfold KBu; omega) (by omega)) (fun i => hq _ _ (by unfold KBu; omega) (by omega)), JF_sx h3 sc su (hr _ _ (by unfold KB; omega) (by omega)) (hr _ _ (by unfold KB; omega) (by omega)) (hq _ _ (by unfold KBu; omega) (by omega)) (hq _ _ (by unfold KBu; omega) (by omega)), JA_sx h4 sc su (fun i => hr _ _ (by unfold KB; omega) (by omega)) (hr _ _ (by unfold KB; omega) (by omega)) (fun i => hr _ _ (by unfold KB; omega) (by omega)) (fun i => hq _ _ (by unfold KBu; omega) (by omega)) (hq _ _ (by unfold KBu; omega) (by omega)) (fun i => hq _ _ (by unfold KBu; omega) (by omega)), WTsx h5 sc (fun i => hr _ _ (by unfold KB; omega) (by omega)), WV_sx h6 sc (fun i => hr _ _ (by unfold KB; omega) (by omega)), ⟨tot, t1, d7⟩, WRD_F t3 hF', ?_⟩, ?_⟩
  · rw [sc.1 1 1 r11]
    omega
  · have d0 := sc.1 7 0 hr3
    rcases h10 with hN | ⟨k0, m, k1, k2, k3, k4, k5, k6, k7, k8, k9, k10, k11⟩
    · rcases hX with ⟨x1, x2, x3, x4, x5⟩ | ⟨z, -⟩
      · exact Or.inl ⟨x1, x2, x3, x4, x5, RU0_F t3 hF'⟩
      · rw [d0, hN.1] at z
        exact absurd z (by decide)
    · rcases hX with ⟨z, -⟩ | ⟨x0, m', x1, x2, x3, x4, x5, x6, x7⟩
      · rw [d0, k0] at z
        exact absurd z (by decide)
      · obtain ⟨y1, y2⟩ := CN_AG k5 (AG_sx k2 su hP) x2
        refine Or.inr ⟨x0, m', x1, x2, x3, x4, y1, x5, x6, x7, CHK_F x3 t1 d7 t3 hF', Or.inl (RU0_F t3 hF'), ?_⟩
        have := MBN_sx (T' := T + 1) k11 sc (fun a i z => by
          rcases z with z | z
          · exact hr2 a i z
          · rw [z.1, z.2]
            exact r11) (by omega)
        obtain ⟨Lb, A, V, F, sz, X, Y, b1, b2, b3⟩ := this
        exact ⟨Lb, A, V, F, sz, X, Y, b1, by rw [y2]; exact b2, b3⟩
theorem i_plain (hn : 10000 ≤ n) (hT : T < 512) (h : INV T c u) : bo (d_79 n a1 c) (d_132 n a1 u) (INV (T + 1)) := bo_mono (c_plain hn (INV_P3 (INV_0 h))) (fun d w hw => by
  obtain ⟨hX, ⟨rfl, rfl⟩ | ⟨s1, s2, hF, hF'⟩⟩ := hw
  · exact INV_up (INV_0 h) hT
  · refine INV_F (INV_0 h) hT s1 s2 (fun a i z y => decide_eq_false (by
      unfold KB at z
      omega)) (fun a i z => decide_eq_false (by omega)) (decide_eq_false (by omega)) (fun a i z y => decide_eq_false (by
      unfold KBu at z
      omega)) ⟨fun a i z => ?_, fun i z => ?_, fun i z => decide_eq_false (by omega), fun a i z1 z2 z3 => decide_eq_false (by omega), fun a i z1 z2 z3 => decide_eq_false (by omega)⟩ hX hF hF'
    · have := PA_of z
      exact decide_eq_false (by omega)
    · have := PF_of z
      exact decide_eq_false (by omega))
theorem i_find (hn : 1100000 ≤ n) (hT : T < 512) (h : INV T c u) : bo (d_78 n a1 c) (d_131 n a1 u) (INV (T + 1)) := bo_mono (c_find hn (INV_P3 (INV_0 h))) (fun d w hw => by
  obtain ⟨hX, ⟨rfl, rfl⟩ | ⟨s1, s2, hF, hF'⟩⟩ := hw
  · exact INV_up (INV_0 h) hT
  · refine INV_F (INV_0 h) hT s1 s2 (fun a i z y => decide_eq_false (by
      unfold KB at z
      omega)) (fun a i z => decide_eq_false (by omega)) (decide_eq_false (by omega)) (fun a i z y => decide_eq_false (by
      unfold KBu at z
      omega)) ⟨fun a i z => ?_, fun i z => ?_, fun i z => decide_eq_false (by omega), fun a i z1 z2 z3 => decide_eq_false (by omega), fun a i z1 z2 z3 => decide_eq_false (by omega)⟩ hX hF hF'
    · have := PA_of z
      exact decide_eq_false (by omega)
    · have := PF_of z
      exact decide_eq_false (by omega))
end CA2S
