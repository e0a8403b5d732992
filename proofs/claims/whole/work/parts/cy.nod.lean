/-! WIRING: one node (the FIELDS of one CLASS) in lockstep -/
section NOD
variable {n t p s k x y a4 f : Nat} {c w w1 m u v v1 v2 : cS} {S S1 : Nat → Nat}
theorem whl_in {α β : Type} {g : α → Option (α ⊕ β)} {a b : α} {i : Nat} (h : g a = some (.inl b)) : whl g (i + 1) a = whl g i b := by
  show (g a).bind _ = _
  rw [h]
  rfl
theorem whl_out {α β : Type} {g : α → Option (α ⊕ β)} {a : α} {b : β} {i : Nat} (h : g a = some (.inr b)) : whl g (i + 1) a = some b := by
  show (g a).bind _ = _
  rw [h]
  rfl
def ndC (rec : Int32 → Int32 → Int32 → cS → Option (Int32 × cS)) (n : Nat) (a1 a2 a3 v6 : Int32) (w : cS) : Option (cS ⊕ (Int32 × cS)) :=
  whl (R := (cS) ⊕ (Int32 × cS)) (fun s9 : Int32 × cS =>
          if v6 < 0 then
            some (.inr (.inl s9.2))
          else
            if ib v6 12 then
            if (s9.2.1 14 (ix v6)) ≤ s9.1 then
              some (.inr (.inl s9.2))
            else
              Option.bind (d_348 rec n a1 (((100 * v6) + 1) + s9.1) a2 a3 s9.2) (fun r11 =>
              if r11.1 = 0 then
                lt (s9.1 + 1 : Int32) (fun v14 =>
                some (.inl (v14, r11.2)))
              else
                some (.inr (.inr (r11.1, r11.2))))
            else none) n (0, w)
def ndB (rec : Int32 → Int32 → cS → Option (cS)) (n : Nat) (a1 a2 v3 : Int32) (s6 : Int32 × cS) : Option ((Int32 × cS) ⊕ cS) :=
          if ib a2 12 then
          if (s6.2.1 202 (ix a2)) ≤ s6.1 then
            some (.inr s6.2)
          else
            if v3 < 0 then
              some (.inr s6.2)
            else
              if (s6.2.1 174 131) = 0 then
                Option.bind (d_451 n a2 s6.1) (fun v8 =>
                Option.bind (d_428 n v8 v3 s6.2) (fun r10 =>
                jn (fun p11 : cS =>
                  lt (s6.1 + 1 : Int32) (fun v13 =>
                  some (.inl (v13, p11))))
                (fun j89 =>
                if (r10.1 174 74) ≤ 0 then
                  j89 r10
                else
                  if ib 0 20 then
                  Option.bind (d_480 rec n a1 v8 (r10.1 233 (ix 0)) v3 r10) (fun r16 =>
                  j89 r16)
                  else none)))
              else
                some (.inr s6.2)
          else none
def ndR (rec : Int32 → Int32 → cS → Option (cS)) (n : Nat) (a1 a2 v3 : Int32) (v : cS) : Option cS := whl (ndB rec n a1 a2 v3) n (0, v)
theorem ndB_x {rec : Int32 → Int32 → cS → Option (cS)} {a1 f0 v3 : Int32} (hA : AG m v) (hC : CCS c m) (hy : y < ccn m) (h : v3 < 0 ∨ v.1 174 131 ≠ nI 0 ∨ nI (fM m y) ≤ f0) : ndB rec n a1 (nI y) v3 (f0, v) = some (.inr v) := by
  have h12 := (CCS_p hC).1
  have h202 : v.1 202 (ix (nI y)) = nI (fM m y) := by
    rw [ix_n (by omega)]
    exact (hA.1 202 y rfl).trans (hC.1.2.2.2.1 y hy).2.2
  unfold ndB
  dsimp only
  refine eq_wp (wpt (by simp (disch := first | omega | decide) only [↓neg1, nlit, rI, rL, rI2, rL1, nI_add, pk_mul, sbT, dvT, nmd, ixT, ↓ibT, ltT, ltF, leT, leF, eqT, eqF, nM_ltT, nM_ltF, nM_leT, nM_leF, nM_eqF, nM_eqF', nbT0, nbT1, oI_s, oI_n, natF, natT, nltT, nltF, nleT, nleF, ↓reduceIte, lgc, not_true_eq_false, not_false_eq_true, or_false, false_or, or_true, true_or, and_true, true_and, and_false, false_and, ne_eq, eq_self, or_self, and_self]) ?_)
  by_cases e : v.1 202 (ix (nI y)) ≤ f0
  · exact wpt e rfl
  · refine wpf e ?_
    by_cases e2 : v3 < 0
    · exact wpt e2 rfl
    · refine wpf e2 (wpf (fun z => ?_) rfl)
      rcases h with h | h | h
      · exact e2 h
      · exact h z
      · exact e (by rw [h202]; exact h)
theorem ndB_s {rec : Int32 → Int32 → cS → Option (cS)} {a1 : Int32} (hA : AG m v) (hC : CCS c m) (hy : y < ccn m) (hf : f < fM m y) (hv : v.1 174 131 = nI 0) (ht : t < 12) (h : wr1 rec n a1 (nI (100 * y + 1 + f)) (nI t) v = some v2) : ndB rec n a1 (nI y) (nI t) (nI f, v) = some (.inl (nI (f + 1), v2)) := by
  have h12 := (CCS_p hC).1
  have h8 := (hC.1.2.2.2.1 y hy).1
  have h202 : v.1 202 (ix (nI y)) = nI (fM m y) := by
    rw [ix_n (by omega)]
    exact (hA.1 202 y rfl).trans (hC.1.2.2.2.1 y hy).2.2
  unfold ndB
  dsimp only
  refine eq_wp (wpt (by simp (disch := first | omega | decide) only [↓neg1, nlit, rI, rL, rI2, rL1, nI_add, pk_mul, sbT, dvT, nmd, ixT, ↓ibT, ltT, ltF, leT, leF, eqT, eqF, nM_ltT, nM_ltF, nM_leT, nM_leF, nM_eqF, nM_eqF', nbT0, nbT1, oI_s, oI_n, natF, natT, nltT, nltF, nleT, nleF, ↓reduceIte, lgc, not_true_eq_false, not_false_eq_true, or_false, false_or, or_true, true_or, and_true, true_and, and_false, false_and, ne_eq, eq_self, or_self, and_self]) (wpf (by rw [h202]; simp (disch := first | omega | decide) only [↓neg1, nlit, rI, rL, rI2, rL1, nI_add, pk_mul, sbT, dvT, nmd, ixT, ↓ibT, ltT, ltF, leT, leF, eqT, eqF, nM_ltT, nM_ltF, nM_leT, nM_leF, nM_eqF, nM_eqF', nbT0, nbT1, oI_s, oI_n, natF, natT, nltT, nltF, nleT, nleF, ↓reduceIte, lgc, not_true_eq_false, not_false_eq_true, or_false, false_or, or_true, true_or, and_true, true_and, and_false, false_and, ne_eq, eq_self, or_self, and_self]) (wpf (by simp (disch := first | omega | decide) only [↓neg1, nlit, rI, rL, rI2, rL1, nI_add, pk_mul, sbT, dvT, nmd, ixT, ↓ibT, ltT, ltF, leT, leF, eqT, eqF, nM_ltT, nM_ltF, nM_leT, nM_leF, nM_eqF, nM_eqF', nbT0, nbT1, oI_s, oI_n, natF, natT, nltT, nltF, nleT, nleF, ↓reduceIte, lgc, not_true_eq_false, not_false_eq_true, or_false, false_or, or_true, true_or, and_true, true_and, and_false, false_and, ne_eq, eq_self, or_self, and_self]) (wpt hv (wpe e451 ?_)))))
  unfold wr1 at h
  obtain ⟨r, hr, h⟩ := Option.bind_eq_some_iff.mp h
  refine wpe hr (wpj ?_)
  unfold jn at h
  dsimp only at h
  by_cases e : r.1 174 74 ≤ 0
  · rw [if_pos e] at h
    cases h
    refine wpt e (wpl ?_)
    show Sum.inl (nI f + 1, _) = _
    rw [nI_1]
  · rw [if_neg e, if_pos (by decide)] at h
    obtain ⟨q, hq, h⟩ := Option.bind_eq_some_iff.mp h
    cases h
    refine wpf e (wpt (by decide) (wpe hq (wpl ?_)))
    show Sum.inl (nI f + 1, _) = _
    rw [nI_1]
theorem node {e E : Nat} (hn : 1000 ≤ n) (hN : CN m) (ht : t < kcn m) (hy : y < ccn m) (ha : a4 < 12) (hE : EC w m) (hA : AG m v) (h : WR m w v S k) (hv : v.1 174 131 = nI 0)
  (hrec : ∀ w1 v1 S1 k1, EC w1 m → AG m v1 → WR m w1 v1 S1 k1 → XS S S1 (nI 0) → v1.1 174 131 = nI 0 → ∀ y, y < ccn m → S1 y = 0 → jw (d_347 e n (nI y) (nI t) (nI (a4 + 1)) w1) (d_478 (d_479 E n) n (nI y) v1) (LK m w1 v1 S1)) :
  jw (ndC (d_347 e n) n (nI x) (nI t) (nI a4) (nI y) w) (ndR (d_479 E n) n (nI x) (nI y) (nI t) v) (fun r v' => Sum.elim (fun w' => LK m w v S (nI 0, w') v') (fun q => LK m w v S q v' ∧ q.1 ≠ nI 0) r) := by
  have hC := hE.2.2.1
  have h12 := (CCS_p hC).1
  have k12 := hE.2.1.1
  have h8 := (hC.1.2.2.2.1 y hy).1
  suffices hs : wp (ndC (d_347 e n) n (nI x) (nI t) (nI a4) (nI y) w) (fun r => ∃ v', ndR (d_479 E n) n (nI x) (nI y) (nI t) v = some v' ∧ Sum.elim (fun w' => LK m w v S (nI 0, w') v') (fun q => LK m w v S q v' ∧ q.1 ≠ nI 0) r) from wp_mono hs (fun r hr => by
    obtain ⟨v', h1, h2⟩ := hr
    exact wp_of h1 h2)
  have h14 : ∀ {d}, sx qWc w d → d.1 14 (ix (nI y)) = nI (fM m y) := fun hd => by
    rw [ix_n (by omega), hd.1 14 y (decide_eq_false (by omega))]
    exact (hC.1.2.2.2.1 y hy).2.1
  unfold ndC ndR
  refine whl_cnt (fun f (st : Int32 × cS) => st.1 = nI f ∧ ∃ v', whl (ndB (d_479 E n) n (nI x) (nI y) (nI t)) n (0, v) = whl (ndB (d_479 E n) n (nI x) (nI y) (nI t)) (n - f) (nI f, v') ∧ LK m w v S (nI 0, st.2) v') (fM m y) ?_ ?_ (by omega) ⟨rfl, v, rfl, S, k, h, hv, XS_rfl, sx_rfl, sx_rfl, Or.inl rfl⟩
  · rintro f ⟨f0, w1⟩ hf ⟨g1, v1, g2, S1, k1, g3, g4, g5, g6, g7, -⟩
    dsimp only at g1 g3 g4 g5 g6
    subst g1
    dsimp only
    have hE1 := EC_CA (CA_sx g6 nC_Wc) hE
    have hA1 := AG_sx hA g7 nP_Ws
    refine wpf (by simp (disch := first | omega | decide) only [↓neg1, nlit, rI, rL, rI2, rL1, nI_add, pk_mul, sbT, dvT, nmd, ixT, ↓ibT, ltT, ltF, leT, leF, eqT, eqF, nM_ltT, nM_ltF, nM_leT, nM_leF, nM_eqF, nM_eqF', nbT0, nbT1, oI_s, oI_n, natF, natT, nltT, nltF, nleT, nleF, ↓reduceIte, lgc, not_true_eq_false, not_false_eq_true, or_false, false_or, or_true, true_or, and_true, true_and, and_false, false_and, ne_eq, eq_self, or_self, and_self]) (wpt (by simp (disch := first | omega | decide) only [↓neg1, nlit, rI, rL, rI2, rL1, nI_add, pk_mul, sbT, dvT, nmd, ixT, ↓ibT, ltT, ltF, leT, leF, eqT, eqF, nM_ltT, nM_ltF, nM_leT, nM_leF, nM_eqF, nM_eqF', nbT0, nbT1, oI_s, oI_n, natF, natT, nltT, nltF, nleT, nleF, ↓reduceIte, lgc, not_true_eq_false, not_false_eq_true, or_false, false_or, or_true, true_or, and_true, true_and, and_false, false_and, ne_eq, eq_self, or_self, and_self]) (wpf (by rw [h14 g6]; simp (disch := first | omega | decide) only [↓neg1, nlit, rI, rL, rI2, rL1, nI_add, pk_mul, sbT, dvT, nmd, ixT, ↓ibT, ltT, ltF, leT, leF, eqT, eqF, nM_ltT, nM_ltF, nM_leT, nM_leF, nM_eqF, nM_eqF', nbT0, nbT1, oI_s, oI_n, natF, natT, nltT, nltF, nleT, nleF, ↓reduceIte, lgc, not_true_eq_false, not_false_eq_true, or_false, false_or, or_true, true_or, and_true, true_and, and_false, false_and, ne_eq, eq_self, or_self, and_self]) ?_))
    rw [show ((100 : Int32) * nI y + 1) + nI f = nI (100 * y + 1 + f) from Option.some.inj (e451 (n := 0))]
    obtain ⟨r, v2, a1, a2, S2, k2, b1, b2, b3, b4, b5, b6⟩ := jw_ex (wan (x := x) hn hE1 hA1 hN (isP_F hy hf h8) ht g3 g4 ha (fun w' v' s1 s2 hw' hv' z hz hz0 => hrec w' v' S1 k1 (EC_CA (CA_sx s1 nC_Wc) hE1) (AG_sx hA1 s2 nP_Ws) hw' g5 hv' z hz hz0))
    refine wpe a1 ?_
    have hst := ndB_s (n := n) hA1 hC hy hf g4 (by omega) a2
    have hw : whl (ndB (d_479 E n) n (nI x) (nI y) (nI t)) n (0, v) = whl (ndB (d_479 E n) n (nI x) (nI y) (nI t)) (n - (f + 1)) (nI (f + 1), v2) := by
      rw [g2, show n - f = (n - (f + 1)) + 1 by omega]
      exact whl_in hst
    by_cases e0 : r.1 = nI 0
    · refine wpt (show r.1 = 0 from e0) (wpl ⟨nI_1 f, v2, hw, S2, k2, b1, b2.trans e0, ?_, sx_trans g6 b4, sx_trans g7 b5, Or.inl rfl⟩)
      rw [e0] at b3
      exact XS_tr g5 b3
    · refine wpf (show ¬ r.1 = 0 from e0) ⟨v2, ?_, ⟨S2, k2, b1, b2, XS_tr g5 b3, sx_trans g6 b4, sx_trans g7 b5, b6⟩, e0⟩
      rw [hw, show n - (f + 1) = (n - (f + 2)) + 1 by omega]
      exact whl_out (ndB_x (AG_sx hA1 b5 nP_Ws) hC hy (Or.inr (Or.inl (by rw [b2]; exact e0))))
  · rintro ⟨f0, w1⟩ ⟨g1, v1, g2, S1, k1, g3, g4, g5, g6, g7, g8⟩
    dsimp only at g1 g3 g4 g5 g6
    subst g1
    dsimp only
    refine wpf (by simp (disch := first | omega | decide) only [↓neg1, nlit, rI, rL, rI2, rL1, nI_add, pk_mul, sbT, dvT, nmd, ixT, ↓ibT, ltT, ltF, leT, leF, eqT, eqF, nM_ltT, nM_ltF, nM_leT, nM_leF, nM_eqF, nM_eqF', nbT0, nbT1, oI_s, oI_n, natF, natT, nltT, nltF, nleT, nleF, ↓reduceIte, lgc, not_true_eq_false, not_false_eq_true, or_false, false_or, or_true, true_or, and_true, true_and, and_false, false_and, ne_eq, eq_self, or_self, and_self]) (wpt (by simp (disch := first | omega | decide) only [↓neg1, nlit, rI, rL, rI2, rL1, nI_add, pk_mul, sbT, dvT, nmd, ixT, ↓ibT, ltT, ltF, leT, leF, eqT, eqF, nM_ltT, nM_ltF, nM_leT, nM_leF, nM_eqF, nM_eqF', nbT0, nbT1, oI_s, oI_n, natF, natT, nltT, nltF, nleT, nleF, ↓reduceIte, lgc, not_true_eq_false, not_false_eq_true, or_false, false_or, or_true, true_or, and_true, true_and, and_false, false_and, ne_eq, eq_self, or_self, and_self]) (wpt (by rw [h14 g6]; simp (disch := first | omega | decide) only [↓neg1, nlit, rI, rL, rI2, rL1, nI_add, pk_mul, sbT, dvT, nmd, ixT, ↓ibT, ltT, ltF, leT, leF, eqT, eqF, nM_ltT, nM_ltF, nM_leT, nM_leF, nM_eqF, nM_eqF', nbT0, nbT1, oI_s, oI_n, natF, natT, nltT, nltF, nleT, nleF, ↓reduceIte, lgc, not_true_eq_false, not_false_eq_true, or_false, false_or, or_true, true_or, and_true, true_and, and_false, false_and, ne_eq, eq_self, or_self, and_self]) ⟨v1, ?_, S1, k1, g3, g4, g5, g6, g7, g8⟩))
    rw [g2, show n - fM m y = (n - (fM m y + 1)) + 1 by omega]
    exact whl_out (ndB_x (AG_sx hA g7 nP_Ws) hC hy (Or.inr (Or.inr (by simp (disch := first | omega | decide) only [↓neg1, nlit, rI, rL, rI2, rL1, nI_add, pk_mul, sbT, dvT, nmd, ixT, ↓ibT, ltT, ltF, leT, leF, eqT, eqF, nM_ltT, nM_ltF, nM_leT, nM_leF, nM_eqF, nM_eqF', nbT0, nbT1, oI_s, oI_n, natF, natT, nltT, nltF, nleT, nleF, ↓reduceIte, lgc, not_true_eq_false, not_false_eq_true, or_false, false_or, or_true, true_or, and_true, true_and, and_false, false_and, ne_eq, eq_self, or_self, and_self]))))
end NOD
