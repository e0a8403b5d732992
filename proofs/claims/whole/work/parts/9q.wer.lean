/-! the call weave: the reference's side, and both -/
def qWr (a i : Nat) : Bool := decide ((a = 174 ∧ ((73 ≤ i ∧ i ≤ 79) ∨ i = 90 ∨ i = 91)) ∨ a = 232 ∨ a = 233 ∨ (236 ≤ a ∧ a ≤ 245) ∨ a = 250)
theorem nP_Wr : nP qWr := by
  refine ⟨fun a i h => ?_, fun i h => ?_, fun i h => ?_, fun a i h1 h2 h3 => ?_, fun a i h1 h2 h3 => ?_⟩
  · have := PA_of h
    exact decide_eq_false (by omega)
  · have := PF_of h
    exact decide_eq_false (by omega)
  · exact decide_eq_false (by omega)
  · exact decide_eq_false (by omega)
  · exact decide_eq_false (by omega)
theorem wea_r {n : Nat} {c m u : cS} (hn : 100000 ≤ n) (h0 : c.1 7 0 = nI 1) (h0' : m.1 174 14 = nI 1) (hA : AG m u) (hG : PG c m) (h2 : TLS c m) (h3 : c.1 146 8 = nI 0) (hF : FD m c u) (hB : WB m) (hf : ∀ t, t < 61440 → u.1 250 t = nM) :
    wp (whl (R := (Int32 × cS)) (fun s14 : Int32 × Int32 × cS =>
        if (s14.2.2.1 174 15) ≤ s14.2.1 then
          some (.inr (s14.1, s14.2.2))
        else
          Option.bind (d_460 n s14.2.1 s14.2.2) (fun r15 =>
          Option.bind (whl (R := (cS)) (fun s17 : Int32 × cS =>
            if (s17.2.1 174 91) ≤ s17.1 then
              some (.inr s17.2)
            else
              if ib s17.1 15360 then
              if ib s17.1 15360 then
              if ib s17.1 15360 then
              Option.bind (d_463 n ((40 * (s17.2.1 241 (ix s17.1))) + (s17.2.1 242 (ix s17.1))) s14.2.1 (s17.2.1 243 (ix s17.1))) (fun v21 =>
              if ib s17.1 15360 then
              if ib v21 61440 then
              lt (pI s17.2 250 (ix v21) (s17.2.1 245 (ix s17.1))) (fun c24 =>
              lt (s17.1 + 1 : Int32) (fun v27 =>
              some (.inl (v27, c24))))
              else none
              else none)
              else none
              else none
              else none) n (0, r15))
          (fun x29 : cS =>
            lt ((s14.1 + (x29.1 174 91)) : Int32) (fun v31 =>
            lt (s14.2.1 + 1 : Int32) (fun v34 =>
            some (.inl (v31, v34, x29))))))) n (0, 0, u)) (fun r => sx qWr u r.2 ∧ ∃ LL, LSO m c LL (ocn m) ∧ CKL r.2 LL (ocn m) ∧ r.1 = nI (sumL LL (ocn m))) := by
  have ho4 := hG.1.1.1
  refine whl_cnt (fun o (st : Int32 × Int32 × cS) => st.2.1 = nI o ∧ sx qWr u st.2.2 ∧ ∃ LL, LSO m c LL o ∧ CKL st.2.2 LL o ∧ st.1 = nI (sumL LL o)) (ocn m) ?_ ?_ (by omega) ⟨rfl, sx_rfl, fun _ => [], fun o ho => by omega, ⟨fun o x ho => by omega, fun t ht _ => hf t ht⟩, rfl⟩
  · rintro o ⟨a, b, w⟩ ho ⟨g1, g2, LL, g3, g4, g5⟩
    dsimp only at g1 g2 g3 g4 g5
    subst g1
    subst g5
    have hAw := AG_sx hA g2 nP_Wr
    have hFw := FD_sx hF g2 (fun i => decide_eq_false (by omega))
    have p15 : w.1 174 15 = nI (ocn m) := (hAw.2.2.1 15 rfl).trans hG.1.1.2.2.1
    refine wpf (by dsimp only; rw [p15]; simp (disch := first | omega | decide) only [↓neg1, nlit, rI, rL, rI2, rL1, nI_add, pk_mul, sbT, dvT, nmd, ixT, ↓ibT, ltT, ltF, leT, leF, eqT, eqF, nM_ltT, nM_ltF, nM_leT, nM_leF, nM_eqF, nM_eqF', nbT0, nbT1, oI_s, oI_n, natF, natT, nltT, nltF, nleT, nleF, ↓reduceIte, lgc, not_true_eq_false, not_false_eq_true, or_false, false_or, or_true, true_or, and_true, true_and, and_false, false_and, ne_eq, eq_self, or_self, and_self]) ?_
    have hK : okK m o (fun p => TM m c p o) := fun p s hp hs => (e190 (n := n) hG.1.1 hp hs ho (EC_row hG.1 hp).1 h3 h2 hF).2
    refine wpc (e460 hn h0 h0' hAw hG ho hFw hK hB) (fun x hx => ?_)
    obtain ⟨x1, x2⟩ := hx
    obtain ⟨-, -, y2, y3⟩ := x2
    have hlen := erM_len (m := m) (o := o) (K := fun p => TM m c p o) (XX := RX x) 96
    have hB' := hB
    unfold WB at hB'
    have hin := fun z => erM_in (m := m) (o := o) (K := fun p => TM m c p o) (X := RX x) (x := z) 96
    have hb3 : ∀ z, z ∈ erM m o (fun p => TM m c p o) (RX x) 96 → z.1 < 96 ∧ z.2.1 < 40 ∧ z.2.2.1 < 4 := by
      intro z hz
      obtain ⟨a1, a2, a3, -⟩ := hin z hz
      have q1 := isMt_lt hG.1.2.2.1 a1
      have q2 := wnt_le hG.1.2.2.1 (MTS_ac hG.2.2 a1 a2).2.2.2.2.2.2.1
      have q3 := (hG.2.2.2.1 z.1 a1).1.1.2
      omega
    have hlso := LSO_ext (L := erM m o (fun p => TM m c p o) (RX x) 96) g3 ⟨RX x, fun M hM => (y2 M hM).1, rfl⟩
    generalize hL : erM m o (fun p => TM m c p o) (RX x) 96 = L at *
    refine wpc (wvl (by omega) (by omega) y3 (by omega) hb3 (fun z z' hz hz' e1 e2 e3 => ?_)) (fun r hr => ?_)
    · obtain ⟨-, -, -, f, -, -, w1⟩ := hin z hz
      obtain ⟨-, -, -, f', -, -, w2⟩ := hin z' hz'
      rw [w1, w2, e1, e2, e3]
    obtain ⟨r1, r2, r3⟩ := hr
    have r91 : r.1 174 91 = nI L.length := (r1.1 174 91 rfl).trans y3.1
    have hx250 : ∀ t, x.1 250 t = w.1 250 t := fun t => x1.1 250 t (decide_eq_false (by omega))
    refine wpl (wpl ⟨nI_1 _, sx_trans g2 (sx_trans (sx_wide x1 (fun a i z => ?_)) (sx_wide r1 (fun a i z => ?_))), ext LL o L, hlso, ⟨fun o' z ho' hz => ?_, fun t ht hne => ?_⟩, ?_⟩)
    · have := of_decide_eq_false z
      exact decide_eq_false (by omega)
    · have := of_decide_eq_false z
      exact decide_eq_false (by omega)
    · dsimp only
      by_cases e : o' = o
      · subst e
        rw [ext_eq] at hz
        exact r2 z hz
      · rw [ext_lt (by omega)] at hz
        rw [r3 (ixx o' z) (fun y hy => ?_), hx250]
        · exact g4.1 o' z (by omega) hz
        · obtain ⟨a1, a2, a3, -⟩ := LSO_P g3 o' z (by omega) hz
          have q2 := wnt_le hG.1.2.2.1 (MTS_ac hG.2.2 a1 a2).2.2.2.2.2.2.1
          obtain ⟨b1, b2, b3⟩ := hb3 y hy
          unfold ixx
          omega
    · dsimp only
      rw [r3 t (fun y hy => hne o y (by omega) (by rw [ext_eq]; exact hy)), hx250]
      exact g4.2 t ht (fun o' y ho' hy => hne o' y (by omega) (by rw [ext_lt ho']; exact hy))
    · dsimp only
      rw [r91, nI_add, sumL_ext]
  · rintro ⟨a, b, w⟩ ⟨g1, g2, LL, g3, g4, g5⟩
    dsimp only at g1 g2 g3 g4 g5
    subst g1
    have hAw := AG_sx hA g2 nP_Wr
    have p15 : w.1 174 15 = nI (ocn m) := (hAw.2.2.1 15 rfl).trans hG.1.1.2.2.1
    exact wpt (by dsimp only; rw [p15]; simp (disch := first | omega | decide) only [↓neg1, nlit, rI, rL, rI2, rL1, nI_add, pk_mul, sbT, dvT, nmd, ixT, ↓ibT, ltT, ltF, leT, leF, eqT, eqF, nM_ltT, nM_ltF, nM_leT, nM_leF, nM_eqF, nM_eqF', nbT0, nbT1, oI_s, oI_n, natF, natT, nltT, nltF, nleT, nleF, ↓reduceIte, lgc, not_true_eq_false, not_false_eq_true, or_false, false_or, or_true, true_or, and_true, true_and, and_false, false_and, ne_eq, eq_self, or_self, and_self]) ⟨g2, LL, g3, g4, g5⟩
/-- a PROGRAM with its FLOW and its checks -/
def PR4 (c u : cS) : Prop := (c.1 7 0 = nI 0 ∧ u.1 174 14 = nI 0 ∧ c.1 150 3 = nM ∧ u.1 174 97 = nM ∧ c.1 150 16 = nI 0) ∨ (c.1 7 0 = nI 1 ∧ ∃ m, m.1 174 14 = nI 1 ∧ AG m u ∧ PG c m ∧ WB m ∧ TLS c m ∧ FD m c u ∧ FLW m c u ∧ CHK m c u)
theorem PR4_3 {c u : cS} (h : PR4 c u) : PR3 c u := by
  rcases h with h | ⟨h1, m, h2, h3, h4, h5, h6, h7, h8, -⟩
  · exact Or.inl h
  · exact Or.inr ⟨h1, m, h2, h3, h4, h5, h6, h7, h8⟩
