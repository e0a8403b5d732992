/-! RUN: checks -/
section CKS
variable {n f M i B : Nat} {c m u : cS}
/-- how many checks were made, and whether one failed -/
def ckS (B : Nat) (bad : Nat → Bool) (x : Int32) : Nat → Int32 × Bool
  | 0 => (x, false)
  | t + 1 => if (ckS B bad x t).2 = true then ckS B bad x t else if B.testBit t = true then ((ckS B bad x t).1 + 1, bad t) else ckS B bad x t
theorem ckS_stay {bad : Nat → Bool} {x : Int32} {t : Nat} (h : (ckS B bad x t).2 = true) : ∀ d, ckS B bad x (t + d) = ckS B bad x t
  | 0 => rfl
  | d + 1 => by
    have ih := ckS_stay h d
    show (if (ckS B bad x (t + d)).2 = true then ckS B bad x (t + d) else if B.testBit (t + d) = true then ((ckS B bad x (t + d)).1 + 1, bad (t + d)) else ckS B bad x (t + d)) = _
    rw [ih, if_pos h]
theorem ckS_off {bad : Nat → Bool} {x : Int32} {t : Nat} : ∀ d, (∀ j, t ≤ j → j < t + d → B.testBit j = false) → ckS B bad x (t + d) = ckS B bad x t
  | 0, _ => rfl
  | d + 1, h => by
    have ih := ckS_off (t := t) (x := x) (bad := bad) d (fun j h1 h2 => h j h1 (by omega))
    show (if (ckS B bad x (t + d)).2 = true then ckS B bad x (t + d) else if B.testBit (t + d) = true then ((ckS B bad x (t + d)).1 + 1, bad (t + d)) else ckS B bad x (t + d)) = _
    rw [h (t + d) (by omega) (by omega), ih]
    by_cases e : (ckS B bad x t).2 = true
    · rw [if_pos e]
    · rw [if_neg e, if_neg (by decide)]
theorem ckS_on {bad : Nat → Bool} {x : Int32} {t : Nat} (h : (ckS B bad x t).2 = false) (hb : B.testBit t = true) : ckS B bad x (t + 1) = ((ckS B bad x t).1 + 1, bad t) := by
  rw [ckS, if_neg (by rw [h]; decide), if_pos hb]
def ckB (m c : cS) (f M i t : Nat) : Bool := lfB m c f M i (t / 4) (t % 4)
def q11 (a i : Nat) : Bool := decide (a = 162 ∧ i = 11)
theorem e307 (hn : 1000 ≤ n) (h : TST m c) (hM : isMt m M) (hi : i < acn m M) (hr : RCH m M i) (hf : f < 12) (h163 : c.1 163 f = nI M) (hS : ∀ q o, q < 16 * (f + 1) → o < ocn m → nbl (c.2 165 q) (8 + o) < eln m o) (hB : CKA m c u M i B) : wp (d_307 n (nI f) (nI (fa c M + i)) c) (fun r => r.2.1 162 11 = (ckS B (ckB m c f M i) (c.1 162 11) 16).1 ∧ (r.1 = 0 ↔ (ckS B (ckB m c f M i) (c.1 162 11) 16).2 = true) ∧ sx q11 c r.2) := by
  have hG := h.1
  have hC := hG.1.2.2.1
  have ho4 := hG.1.1.1
  have hM96 := isMt_lt hC hM
  have hac := MTS_ac hG.2.2 hM hi
  obtain ⟨b1, b2, b3⟩ := hB
  obtain ⟨tot, ht1, -, ht3⟩ := hG.2.2.1
  have hfa := ht3 M hM
  have i11 : ix (11 : Int32) = 11 := by decide
  have K1 : ∀ {y : cS}, sx q11 c y → ∀ A j, ¬ (A = 162 ∧ j = 11) → y.1 A j = c.1 A j := fun hy A j z => hy.1 A j (decide_eq_false z)
  have nc : nC q11 := ⟨fun a i h1 h2 h3 => decide_eq_false (by omega), fun i h => decide_eq_false (by omega)⟩
  unfold d_307
  refine wpc (K' := fun d : cS ⊕ cS => (∃ x, d = .inl x ∧ (ckS B (ckB m c f M i) (c.1 162 11) 16).2 = false ∧ x.1 162 11 = (ckS B (ckB m c f M i) (c.1 162 11) 16).1 ∧ sx q11 c x) ∨ (∃ x, d = .inr x ∧ (ckS B (ckB m c f M i) (c.1 162 11) 16).2 = true ∧ x.1 162 11 = (ckS B (ckB m c f M i) (c.1 162 11) 16).1 ∧ sx q11 c x)) (whl_cnt (fun t (st : Int32 × cS) => st.1 = nI t ∧ (ckS B (ckB m c f M i) (c.1 162 11) t).2 = false ∧ st.2.1 162 11 = (ckS B (ckB m c f M i) (c.1 162 11) t).1 ∧ sx q11 c st.2) 16 ?_ ?_ (by omega) ⟨rfl, rfl, rfl, sx_rfl⟩) ?_
  · rintro t ⟨t0, w⟩ ht ⟨g1, g2, g3, g4⟩
    dsimp only at g1 g2 g3 g4
    subst g1
    dsimp only
    refine wpf (by simp (disch := first | omega | decide) only [↓neg1, nlit, rI, rL, rI2, rL1, nI_add, pk_mul, sbT, dvT, nmd, ixT, ↓ibT, ltT, ltF, leT, leF, eqT, eqF, nM_ltT, nM_ltF, nM_leT, nM_leF, nM_eqF, nM_eqF', nbT0, nbT1, oI_s, oI_n, natF, natT, nltT, nltF, nleT, nleF, ↓reduceIte, lgc, not_true_eq_false, not_false_eq_true, or_false, false_or, or_true, true_or, and_true, true_and, and_false, false_and, ne_eq, eq_self, or_self, and_self]) (wpt (by simp (disch := first | omega | decide) only [↓neg1, nlit, rI, rL, rI2, rL1, nI_add, pk_mul, sbT, dvT, nmd, ixT, ↓ibT, ltT, ltF, leT, leF, eqT, eqF, nM_ltT, nM_ltF, nM_leT, nM_leF, nM_eqF, nM_eqF', nbT0, nbT1, oI_s, oI_n, natF, natT, nltT, nltF, nleT, nleF, ↓reduceIte, lgc, not_true_eq_false, not_false_eq_true, or_false, false_or, or_true, true_or, and_true, true_and, and_false, false_and, ne_eq, eq_self, or_self, and_self]) ?_)
    rw [ix_n (by omega), K1 g4 126 _ (by omega), b2]
    have hb := b3 (t / 4) (t % 4) (by omega) (by omega)
    rw [show 4 * (t / 4) + t % 4 = t by omega] at hb
    refine wpj ?_
    by_cases e : B.testBit t = true
    · rw [if_pos e] at hb
      obtain ⟨c1, c2, c3, c4⟩ := hb
      refine wpf (fun z => by rw [bit_n (by omega) (by omega)] at z; rw [e] at z; cases z) (wpt (by decide) (wpt (by decide) (wpl ?_)))
      rw [i11, g3, show nI t / 4 = nI (t / 4) from dvT (by omega) (by decide) (by decide), show nI t - nI (t / 4) * 4 = nI (t % 4) by
        rw [show (4 : Int32) = nI 4 from rfl, pk_mul, pk_sub (by omega)]
        exact congrArg nI (by omega)]
      have hon := ckS_on (bad := ckB m c f M i) (x := c.1 162 11) g2 e
      have g5 : sx q11 c (pI w 162 11 ((ckS B (ckB m c f M i) (c.1 162 11) t).1 + 1)) := sx_pI g4 rfl
      have g6 : (pI w 162 11 ((ckS B (ckB m c f M i) (c.1 162 11) t).1 + 1)).1 162 11 = (ckS B (ckB m c f M i) (c.1 162 11) t).1 + 1 := by rw [rI, if_pos ⟨rfl, rfl⟩]
      generalize pI w 162 11 ((ckS B (ckB m c f M i) (c.1 162 11) t).1 + 1) = y at g5 g6 ⊢
      obtain ⟨hTy, hTM⟩ := TST_sx h g5 nc (fun i => decide_eq_false (by omega)) (fun i => decide_eq_false (by omega)) (fun i => decide_eq_false (by omega))
      have y165 : ∀ q, y.2 165 q = c.2 165 q := fun q => g5.2 165 q (decide_eq_false (by omega))
      have hwb := wts_b hr c2
      have hd8 := hr.2.2.1
      have h306 := e306 (n := n) (k := t % 4) (o := t / 4) hTy hM hi hr hf ((K1 g5 163 f (by omega)).trans h163) c2 c1 (by rw [y165]; exact hS _ _ (by omega) c1)
      rw [FC_fa g5 nc, y165, hTM] at h306
      refine wpe h306 ?_
      by_cases hb : mBb m (t / 4) (nbl (c.2 165 (16 * f + wts m (40 * M + i) (t % 4))) (8 + t / 4)) (TM m c (wtp m M (40 * M + i) (t % 4)) (t / 4)) = true
      · rw [if_pos hb]
        have hl : ckB m c f M i t = false := by
          unfold ckB lfB
          rw [hb]
          rfl
        rw [hl] at hon
        exact wpf (by decide) (wpl ⟨nI_1 _, by rw [hon], by rw [hon]; exact g6, g5⟩)
      · rw [if_neg hb]
        have hl : ckB m c f M i t = true := by
          unfold ckB lfB
          rw [show mBb m (t / 4) (nbl (c.2 165 (16 * f + wts m (40 * M + i) (t % 4))) (8 + t / 4)) (TM m c (wtp m M (40 * M + i) (t % 4)) (t / 4)) = false by simpa using hb]
          rfl
        rw [hl] at hon
        have hst := ckS_stay (B := B) (bad := ckB m c f M i) (x := c.1 162 11) (t := t + 1) (by rw [hon]) (16 - (t + 1))
        rw [show t + 1 + (16 - (t + 1)) = 16 by omega, hon] at hst
        exact wpt rfl (Or.inr ⟨y, rfl, by rw [hst], by rw [hst]; exact g6, g5⟩)
    · have hof := ckS_off (B := B) (bad := ckB m c f M i) (x := c.1 162 11) (t := t) 1 (fun j h1 h2 => by rw [show j = t by omega]; simpa using e)
      exact wpt ((bit_n (by omega) (by omega)).mpr (by simpa using e)) (wpl ⟨nI_1 _, by rw [hof]; exact g2, by rw [hof]; exact g3, g4⟩)
  · rintro ⟨t0, w⟩ ⟨g1, g2, g3, g4⟩
    dsimp only at g1 g2 g3 g4
    subst g1
    exact wpt (by dsimp only; decide) (Or.inl ⟨w, rfl, g2, g3, g4⟩)
  · rintro d (⟨x, rfl, g1, g2, g3⟩ | ⟨x, rfl, g1, g2, g3⟩)
    · exact ⟨g2, ⟨fun z => absurd (show (1 : Int32) = 0 from z) (by decide), fun z => by rw [g1] at z; cases z⟩, g3⟩
    · exact ⟨g2, ⟨fun _ => g1, fun _ => rfl⟩, g3⟩
def q29 (a i : Nat) : Bool := decide (a = 174 ∧ i = 129)
theorem nP_q29 : nP q29 := by
  refine ⟨fun a i h => ?_, fun i h => ?_, fun i h => ?_, fun a i h1 h2 h3 => ?_, fun a i h1 h2 h3 => ?_⟩
  · have := PA_of h
    exact decide_eq_false (by omega)
  · have := PF_of h
    exact decide_eq_false (by omega)
  · exact decide_eq_false (by omega)
  · exact decide_eq_false (by omega)
  · exact decide_eq_false (by omega)
theorem e468 (hn : 1000 ≤ n) (hT : TST m c) (hA : AG m u) (hM : isMt m M) (hi : i < acn m M) (hr : RCH m M i) (hf : f < 12) (h255 : u.1 255 f = nI (8 + dpn m (40 * M + i))) (hS : ∀ q, q < 16 * (f + 1) → SLq m c u q) (h6 : u.1 174 106 = nI 1) (hB : CKA m c u M i B) : wp (d_468 n (nI f) (nI (40 * M + i)) u) (fun r => r.2.1 174 129 = (ckS B (ckB m c f M i) (u.1 174 129) 16).1 ∧ (r.1 = 0 ↔ (ckS B (ckB m c f M i) (u.1 174 129) 16).2 = true) ∧ sx q29 u r.2) := by
  have hG := hT.1
  have hC := hG.1.2.2.1
  have ho4 := hG.1.1.1
  have hM96 := isMt_lt hC hM
  have hac := MTS_ac hG.2.2 hM hi
  have hR := hac.2.2.2.2.2.2.1
  have hn40 := ((hG.2.2.2.1 M hM).1).1.2
  obtain ⟨b1, b2, b3⟩ := hB
  have K1 : ∀ {y : cS}, sx q29 u y → ∀ A j, ¬ (A = 174 ∧ j = 129) → y.1 A j = u.1 A j := fun hy A j z => hy.1 A j (decide_eq_false z)
  have hend := ckS_off (B := B) (bad := ckB m c f M i) (x := u.1 174 129) (t := 4 * ocn m) (16 - 4 * ocn m) (fun j h1 h2 => by
    have hb := b3 (j / 4) (j % 4) (by omega) (by omega)
    rw [show 4 * (j / 4) + j % 4 = j by omega] at hb
    by_cases e : B.testBit j = true
    · rw [if_pos e] at hb
      have := hb.1
      omega
    · simpa using e)
  rw [show 4 * ocn m + (16 - 4 * ocn m) = 16 by omega] at hend
  unfold d_468
  refine wpc (K' := fun d : cS ⊕ cS => (∃ x, d = .inl x ∧ (ckS B (ckB m c f M i) (u.1 174 129) 16).2 = false ∧ x.1 174 129 = (ckS B (ckB m c f M i) (u.1 174 129) 16).1 ∧ sx q29 u x) ∨ (∃ x, d = .inr x ∧ (ckS B (ckB m c f M i) (u.1 174 129) 16).2 = true ∧ x.1 174 129 = (ckS B (ckB m c f M i) (u.1 174 129) 16).1 ∧ sx q29 u x)) (whl_cnt (fun o (st : Int32 × cS) => st.1 = nI o ∧ (ckS B (ckB m c f M i) (u.1 174 129) (4 * o)).2 = false ∧ st.2.1 174 129 = (ckS B (ckB m c f M i) (u.1 174 129) (4 * o)).1 ∧ sx q29 u st.2) (ocn m) ?_ ?_ (by omega) ⟨rfl, rfl, rfl, sx_rfl⟩) ?_
  · rintro o ⟨o0, w⟩ ho ⟨g1, g2, g3, g4⟩
    dsimp only at g1 g2 g3 g4
    subst g1
    dsimp only
    rw [K1 g4 174 15 (by omega), hA.2.2.1 15 rfl, hG.1.1.2.2.1]
    refine wpf (by simp (disch := first | omega | decide) only [↓neg1, nlit, rI, rL, rI2, rL1, nI_add, pk_mul, sbT, dvT, nmd, ixT, ↓ibT, ltT, ltF, leT, leF, eqT, eqF, nM_ltT, nM_ltF, nM_leT, nM_leF, nM_eqF, nM_eqF', nbT0, nbT1, oI_s, oI_n, natF, natT, nltT, nltF, nleT, nleF, ↓reduceIte, lgc, not_true_eq_false, not_false_eq_true, or_false, false_or, or_true, true_or, and_true, true_and, and_false, false_and, ne_eq, eq_self, or_self, and_self]) ?_
    refine wpc (K' := fun d : cS ⊕ cS => (∃ x, d = .inl x ∧ (ckS B (ckB m c f M i) (u.1 174 129) (4 * (o + 1))).2 = false ∧ x.1 174 129 = (ckS B (ckB m c f M i) (u.1 174 129) (4 * (o + 1))).1 ∧ sx q29 u x) ∨ (∃ x, d = .inr x ∧ (ckS B (ckB m c f M i) (u.1 174 129) 16).2 = true ∧ x.1 174 129 = (ckS B (ckB m c f M i) (u.1 174 129) 16).1 ∧ sx q29 u x)) (whl_cnt (fun k (st : Int32 × cS) => st.1 = nI k ∧ (ckS B (ckB m c f M i) (u.1 174 129) (4 * o + k)).2 = false ∧ st.2.1 174 129 = (ckS B (ckB m c f M i) (u.1 174 129) (4 * o + k)).1 ∧ sx q29 u st.2) 4 ?_ ?_ (by omega) ⟨rfl, g2, g3, g4⟩) ?_
    · rintro k ⟨k0, y⟩ hk ⟨q1, q2, q3, q4⟩
      dsimp only at q1 q2 q3 q4
      subst q1
      dsimp only
      have h463 : d_463 n (nI (40 * M + i)) (nI o) (nI k) = some (nI (16 * (40 * M + i) + (4 * o + k))) := by
        unfold d_463
        rw [show (4 : Int32) = nI 4 from rfl, pk_mul, nI_add, pk_mul, nI_add]
        congr 2
        omega
      refine wpf (by simp (disch := first | omega | decide) only [↓neg1, nlit, rI, rL, rI2, rL1, nI_add, pk_mul, sbT, dvT, nmd, ixT, ↓ibT, ltT, ltF, leT, leF, eqT, eqF, nM_ltT, nM_ltF, nM_leT, nM_leF, nM_eqF, nM_eqF', nbT0, nbT1, oI_s, oI_n, natF, natT, nltT, nltF, nleT, nleF, ↓reduceIte, lgc, not_true_eq_false, not_false_eq_true, or_false, false_or, or_true, true_or, and_true, true_and, and_false, false_and, ne_eq, eq_self, or_self, and_self]) (wpe h463 (wpt (by simp (disch := first | omega | decide) only [↓neg1, nlit, rI, rL, rI2, rL1, nI_add, pk_mul, sbT, dvT, nmd, ixT, ↓ibT, ltT, ltF, leT, leF, eqT, eqF, nM_ltT, nM_ltF, nM_leT, nM_leF, nM_eqF, nM_eqF', nbT0, nbT1, oI_s, oI_n, natF, natT, nltT, nltF, nleT, nleF, ↓reduceIte, lgc, not_true_eq_false, not_false_eq_true, or_false, false_or, or_true, true_or, and_true, true_and, and_false, false_and, ne_eq, eq_self, or_self, and_self]) (wpl ?_)))
      rw [ix_n (by omega), K1 q4 250 _ (by omega)]
      have hb := b3 o k (by omega) hk
      refine wpj ?_
      by_cases e : B.testBit (4 * o + k) = true
      · rw [if_pos e] at hb
        obtain ⟨c1, c2, c3, c4⟩ := hb
        obtain ⟨s', hP, hs'⟩ := wtp_P hC hM hR c2
        have hTM := (TST_K (n := n) hT hP hs' ho).2
        have hel := OOS_el hG.1.1 ho
        rw [c4, q3]
        have hon := ckS_on (bad := ckB m c f M i) (x := u.1 174 129) q2 e
        have g5 : sx q29 u (pI y 174 129 ((ckS B (ckB m c f M i) (u.1 174 129) (4 * o + k)).1 + 1)) := sx_pI q4 rfl
        have g6 : (pI y 174 129 ((ckS B (ckB m c f M i) (u.1 174 129) (4 * o + k)).1 + 1)).1 174 129 = (ckS B (ckB m c f M i) (u.1 174 129) (4 * o + k)).1 + 1 := by rw [rI, if_pos ⟨rfl, rfl⟩]
        refine wpt (nI_pos' (by omega)) (wpl ?_)
        generalize pI y 174 129 ((ckS B (ckB m c f M i) (u.1 174 129) (4 * o + k)).1 + 1) = x at g5 g6 ⊢
        have hAx := AG_sx hA g5 nP_q29
        refine wpt (by simp (disch := first | omega | decide) only [↓neg1, nlit, rI, rL, rI2, rL1, nI_add, pk_mul, sbT, dvT, nmd, ixT, ↓ibT, ltT, ltF, leT, leF, eqT, eqF, nM_ltT, nM_ltF, nM_leT, nM_leF, nM_eqF, nM_eqF', nbT0, nbT1, oI_s, oI_n, natF, natT, nltT, nltF, nleT, nleF, ↓reduceIte, lgc, not_true_eq_false, not_false_eq_true, or_false, false_or, or_true, true_or, and_true, true_and, and_false, false_and, ne_eq, eq_self, or_self, and_self]) (wpe (e459 hAx hC hM (by omega) hac.2.1 hac.1.2 hR c2) ?_)
        have hwb := wts_b hr c2
        have hd8 := hr.2.2.1
        have hwe : wts m (40 * M + i) k = 8 + dpn m (40 * M + i) - wnt m (40 * M + i) + k := rfl
        rw [ix_n (by omega), K1 g5 255 f (by omega), h255, show (4 : Int32) * (16 * nI f + nI (8 + dpn m (40 * M + i)) - 1 - nI (wnt m (40 * M + i) - 1 - k)) + nI o = nI (4 * (16 * f + wts m (40 * M + i) k) + o) by
          rw [show (16 : Int32) = nI 16 from rfl, pk_mul, nI_add, show (1 : Int32) = nI 1 from rfl, pk_sub (by omega), pk_sub (by omega), show (4 : Int32) = nI 4 from rfl, pk_mul, nI_add]
          exact congrArg nI (by omega)]
        refine wpt (by simp (disch := first | omega | decide) only [↓neg1, nlit, rI, rL, rI2, rL1, nI_add, pk_mul, sbT, dvT, nmd, ixT, ↓ibT, ltT, ltF, leT, leF, eqT, eqF, nM_ltT, nM_ltF, nM_leT, nM_leF, nM_eqF, nM_eqF', nbT0, nbT1, oI_s, oI_n, natF, natT, nltT, nltF, nleT, nleF, ↓reduceIte, lgc, not_true_eq_false, not_false_eq_true, or_false, false_or, or_true, true_or, and_true, true_and, and_false, false_and, ne_eq, eq_self, or_self, and_self]) ?_
        obtain ⟨-, hsl⟩ := hS (16 * f + wts m (40 * M + i) k) (by omega)
        obtain ⟨hb1, hb2⟩ := hsl o ho
        dsimp only at hb2
        rw [ix_n (by omega), K1 g5 257 _ (by omega), hb2]
        refine wpe (e387b hAx hG.1.1 ho hb1 hTM) ?_
        have hck : ckB m c f M i (4 * o + k) = !mBb m o (nbl (c.2 165 (16 * f + wts m (40 * M + i) k)) (8 + o)) (TM m c (wtp m M (40 * M + i) k) o) := by
          unfold ckB lfB
          rw [show (4 * o + k) / 4 = o by omega, show (4 * o + k) % 4 = k by omega]
        by_cases hb : mBb m o (nbl (c.2 165 (16 * f + wts m (40 * M + i) k)) (8 + o)) (TM m c (wtp m M (40 * M + i) k) o) = true
        · rw [if_pos hb]
          rw [hck, hb] at hon
          exact wpf (by decide) (wpl ⟨nI_1 _, by rw [show 4 * o + (k + 1) = 4 * o + k + 1 by omega, hon]; rfl, by rw [show 4 * o + (k + 1) = 4 * o + k + 1 by omega, hon]; exact g6, g5⟩)
        · rw [if_neg hb]
          rw [hck, show mBb m o (nbl (c.2 165 (16 * f + wts m (40 * M + i) k)) (8 + o)) (TM m c (wtp m M (40 * M + i) k) o) = false by simpa using hb] at hon
          have hst := ckS_stay (B := B) (bad := ckB m c f M i) (x := u.1 174 129) (t := 4 * o + k + 1) (by rw [hon]; rfl) (16 - (4 * o + k + 1))
          rw [show 4 * o + k + 1 + (16 - (4 * o + k + 1)) = 16 by omega, hon] at hst
          exact wpt rfl (Or.inr ⟨x, rfl, by rw [hst]; rfl, by rw [hst]; exact g6, g5⟩)
      · rw [if_neg e] at hb
        rw [hb h6]
        have hof := ckS_off (B := B) (bad := ckB m c f M i) (x := u.1 174 129) (t := 4 * o + k) 1 (fun j h1 h2 => by rw [show j = 4 * o + k by omega]; simpa using e)
        exact wpf (by decide) (wpl ⟨nI_1 _, by rw [show 4 * o + (k + 1) = 4 * o + k + 1 by omega, hof]; exact q2, by rw [show 4 * o + (k + 1) = 4 * o + k + 1 by omega, hof]; exact q3, q4⟩)
    · rintro ⟨k0, y⟩ ⟨q1, q2, q3, q4⟩
      dsimp only at q1 q2 q3 q4
      subst q1
      exact wpt (by dsimp only; decide) (Or.inl ⟨y, rfl, q2, q3, q4⟩)
    · rintro d (⟨x, rfl, q1, q2, q3⟩ | ⟨x, rfl, q1, q2, q3⟩)
      · exact wpl ⟨nI_1 _, q1, q2, q3⟩
      · exact Or.inr ⟨x, rfl, q1, q2, q3⟩
  · rintro ⟨o0, w⟩ ⟨g1, g2, g3, g4⟩
    dsimp only at g1 g2 g3 g4
    subst g1
    dsimp only
    rw [K1 g4 174 15 (by omega), hA.2.2.1 15 rfl, hG.1.1.2.2.1]
    rw [← hend] at g2 g3
    exact wpt (by simp (disch := first | omega | decide) only [↓neg1, nlit, rI, rL, rI2, rL1, nI_add, pk_mul, sbT, dvT, nmd, ixT, ↓ibT, ltT, ltF, leT, leF, eqT, eqF, nM_ltT, nM_ltF, nM_leT, nM_leF, nM_eqF, nM_eqF', nbT0, nbT1, oI_s, oI_n, natF, natT, nltT, nltF, nleT, nleF, ↓reduceIte, lgc, not_true_eq_false, not_false_eq_true, or_false, false_or, or_true, true_or, and_true, true_and, and_false, false_and, ne_eq, eq_self, or_self, and_self]) (Or.inl ⟨w, rfl, g2, g3, g4⟩)
  · rintro d (⟨x, rfl, g1, g2, g3⟩ | ⟨x, rfl, g1, g2, g3⟩)
    · exact ⟨g2, ⟨fun z => absurd (show (1 : Int32) = 0 from z) (by decide), fun z => by rw [g1] at z; cases z⟩, g3⟩
    · exact ⟨g2, ⟨fun _ => g1, fun _ => rfl⟩, g3⟩
end CKS
