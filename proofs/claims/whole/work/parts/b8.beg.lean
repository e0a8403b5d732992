/-! the call begin -/
def qBd (a i : Nat) : Bool := decide ((a = 146 ∧ 3 ≤ i ∧ i ≤ 8) ∨ a = 147 ∨ a = 162 ∨ (a = 159 ∧ (i = 10 ∨ i = 12 ∨ i = 14)) ∨ (163 ≤ a ∧ a ≤ 166))
def qBc (a i : Nat) : Bool := decide (a = 162 ∨ (a = 159 ∧ (i = 10 ∨ i = 12 ∨ i = 14)) ∨ (163 ≤ a ∧ a ≤ 166))
def qBr (a i : Nat) : Bool := decide ((a = 174 ∧ (i = 0 ∨ (111 ≤ i ∧ i ≤ 113) ∨ i = 121 ∨ (123 ≤ i ∧ i ≤ 129))) ∨ (253 ≤ a ∧ a ≤ 259))
theorem nP_Br : nP qBr := by
  refine ⟨fun a i h => ?_, fun i h => ?_, fun i h => ?_, fun a i h1 h2 h3 => ?_, fun a i h1 h2 h3 => ?_⟩
  · have := PA_of h
    exact decide_eq_false (by omega)
  · have := PF_of h
    exact decide_eq_false (by omega)
  · exact decide_eq_false (by omega)
  · exact decide_eq_false (by omega)
  · exact decide_eq_false (by omega)
/-- what the class holds at the beginning -/
def BGC (m : cS) (M : Nat) (a2 : Int32) (c d : cS) : Prop := d.1 162 0 = nI 1 ∧ (∀ j, 1 ≤ j → j < 12 → d.1 162 j = if 7 ≤ j ∧ j < 10 then nM else nI 0) ∧ d.1 159 12 = a2 ∧ BLK m d ∧ (∀ k, k < 96 → d.2 166 k = pkV (c.1 16 k) (d.2 159 14)) ∧ d.1 159 10 = nI 1 ∧ d.1 163 0 = nI M ∧ d.1 164 0 = nI 0 ∧ ∀ s, s < 16 → d.2 165 s = if s < pM m M then pkV (c.1 160 s) (d.2 159 14) else d.2 159 14
theorem e300 {n M : Nat} {a2 : Int32} {c m : cS} (hn : 10000 ≤ n) (hG : PG c m) (hM : isMt m M) (ha : nb a2) : wp (d_300 n (nI M) a2 c) (fun d => BGC m M a2 c d ∧ sx qBc c d) := by
  have hE := hG.1
  have hO := hE.1
  have hC := hE.2.2.1
  have ho4 := hO.1
  have hM96 := isMt_lt hC hM
  have hpm := (isMt_8 hC hM)
  unfold d_300
  have h48 : wp (d_48 n c) (fun w => (∀ j, j < 12 → w.1 162 j = if 7 ≤ j ∧ j < 10 then nM else nI 0) ∧ sx (fun a i => decide (a = 162)) c w) := by
    unfold d_48
    refine wpc (e153 (by omega) (by omega)) (fun x hx => wpc (e154 (a := 7) (b := 10) (v := -1) (by omega) (by omega) (by omega) (by omega)) (fun y hy => ⟨fun j hj => ?_, sx_trans (sx_fill hx.2.1 hx.2.2 (fun i => rfl)) (sx_fill hy.2.1 hy.2.2 (fun i => rfl))⟩))
    rw [hy.1, hx.1]
    by_cases e : 7 ≤ j ∧ j < 10
    · rw [if_pos e, if_pos e]
      rfl
    · rw [if_neg e, if_neg e, if_pos hj]
      rfl
  refine wpc h48 (fun x hx => wpt (by decide) (wpl (wpt ha (wpl (wpl ?_)))))
  obtain ⟨x1, x2⟩ := hx
  have i0 : ix (0 : Int32) = 0 := by decide
  rw [i0]
  generalize e1 : pL (pI (pI x 162 0 1) 159 12 a2) 159 14 0 = c1
  have s1 : sx qBc c c1 := by
    rw [← e1]
    exact sx_pL (sx_pI (sx_pI (sx_wide x2 (fun a i z => by
      have := of_decide_eq_false z
      exact decide_eq_false (by omega))) rfl) rfl) rfl
  have b0 : c1.1 162 0 = nI 1 := by
    rw [← e1]
    show (pI (pI x 162 0 1) 159 12 a2).1 162 0 = _
    rw [rI, if_neg (by omega), rI, if_pos ⟨rfl, rfl⟩]
    rfl
  have bj : ∀ j, 1 ≤ j → j < 12 → c1.1 162 j = if 7 ≤ j ∧ j < 10 then nM else nI 0 := by
    intro j h1 h2
    rw [← e1]
    show (pI (pI x 162 0 1) 159 12 a2).1 162 j = _
    rw [rI, if_neg (by omega), rI, if_neg (by omega)]
    exact x1 j h2
  have b12 : c1.1 159 12 = a2 := by
    rw [← e1]
    show (pI (pI x 162 0 1) 159 12 a2).1 159 12 = _
    rw [rI, if_pos ⟨rfl, rfl⟩]
  have b14 : c1.2 159 14 = 0 := by
    rw [← e1, rL, if_pos ⟨rfl, rfl⟩]
  refine wpc (K' := fun w : cS => BLK m w ∧ sx (fun a i => decide (a = 159 ∧ i = 14)) c1 w) (whl_cnt (fun k (st : Int32 × cS) => st.1 = nI k ∧ (st.2.2 159 14).toInt32 = 0 ∧ (∀ o, o < k → nbl (st.2.2 159 14) (8 + o) = ix (m.1 188 o)) ∧ sx (fun a i => decide (a = 159 ∧ i = 14)) c1 st.2) (ocn m) ?_ ?_ (by omega) ⟨rfl, by rw [b14]; exact z_32, fun o ho => by omega, sx_rfl⟩) ?_
  · rintro k ⟨k0, w⟩ hk ⟨g1, g2, g3, g4⟩
    dsimp only at g1 g2 g3 g4
    subst g1
    dsimp only
    have hb := bot_lt hO hk
    have hel := OOS_el hO hk
    have hw : ∀ A i, ¬ (A = 159 ∧ i = 14) → w.1 A i = c1.1 A i := fun A i z => g4.1 A i (decide_eq_false z)
    rw [hw 7 2 (by omega), s1.1 7 2 (decide_eq_false (by omega)), hO.2.1]
    refine wpf (by simp (disch := first | omega | decide) only [↓neg1, nlit, rI, rL, rI2, rL1, nI_add, pk_mul, sbT, dvT, nmd, ixT, ↓ibT, ltT, ltF, leT, leF, eqT, eqF, nM_ltT, nM_ltF, nM_leT, nM_leF, nM_eqF, nM_eqF', nbT0, nbT1, oI_s, oI_n, natF, natT, nltT, nltF, nleT, nleF, ↓reduceIte, lgc, not_true_eq_false, not_false_eq_true, or_false, false_or, or_true, true_or, and_true, true_and, and_false, false_and, ne_eq, eq_self, or_self, and_self]) (wpt (by simp (disch := first | omega | decide) only [↓neg1, nlit, rI, rL, rI2, rL1, nI_add, pk_mul, sbT, dvT, nmd, ixT, ↓ibT, ltT, ltF, leT, leF, eqT, eqF, nM_ltT, nM_ltF, nM_leT, nM_leF, nM_eqF, nM_eqF', nbT0, nbT1, oI_s, oI_n, natF, natT, nltT, nltF, nleT, nleF, ↓reduceIte, lgc, not_true_eq_false, not_false_eq_true, or_false, false_or, or_true, true_or, and_true, true_and, and_false, false_and, ne_eq, eq_self, or_self, and_self]) ?_)
    rw [ix_n (by omega), hw _ 3 (by omega), s1.1 (oA k) 3 (decide_eq_false (by unfold oA; omega)), hb.2.2, show (8 : Int32) + nI k = nI (8 + k) from nI_add 8 k]
    refine wpe (e356 (by omega) (by omega)) (wpl (wpl ⟨nI_1 _, ?_, fun o ho => ?_, sx_pL g4 (decide_eq_true ⟨rfl, rfl⟩)⟩))
    · dsimp only
      rw [rL, if_pos ⟨rfl, rfl⟩, wn_32 (by omega) (by omega) (by omega)]
      exact g2
    · dsimp only
      rw [rL, if_pos ⟨rfl, rfl⟩, nbl_wn (by omega) (by omega) (by omega)]
      by_cases e : o = k
      · rw [if_pos (by omega), e]
      · rw [if_neg (by omega)]
        exact g3 o (by omega)
  · rintro ⟨k0, w⟩ ⟨g1, g2, g3, g4⟩
    dsimp only at g1 g2 g3 g4
    subst g1
    dsimp only
    rw [g4.1 7 2 (decide_eq_false (by omega)), s1.1 7 2 (decide_eq_false (by omega)), hO.2.1]
    exact wpt (by simp (disch := first | omega | decide) only [↓neg1, nlit, rI, rL, rI2, rL1, nI_add, pk_mul, sbT, dvT, nmd, ixT, ↓ibT, ltT, ltF, leT, leF, eqT, eqF, nM_ltT, nM_ltF, nM_leT, nM_leF, nM_eqF, nM_eqF', nbT0, nbT1, oI_s, oI_n, natF, natT, nltT, nltF, nleT, nleF, ↓reduceIte, lgc, not_true_eq_false, not_false_eq_true, or_false, false_or, or_true, true_or, and_true, true_and, and_false, false_and, ne_eq, eq_self, or_self, and_self]) ⟨⟨g2, g3⟩, g4⟩
  rintro y ⟨y1, y2⟩
  have sy : sx qBc c y := sx_trans s1 (sx_wide y2 (fun a i z => by
    have := of_decide_eq_false z
    exact decide_eq_false (by omega)))
  refine wpc (K' := fun w : cS => (∀ k, k < 96 → w.2 166 k = pkV (c.1 16 k) (y.2 159 14)) ∧ sx (fun a i => decide (a = 166)) y w) (whl_cnt (fun k (st : Int32 × cS) => st.1 = nI k ∧ (∀ j, j < k → st.2.2 166 j = pkV (c.1 16 j) (y.2 159 14)) ∧ sx (fun a i => decide (a = 166)) y st.2) 96 ?_ ?_ (by omega) ⟨rfl, fun j hj => by omega, sx_rfl⟩) ?_
  · rintro k ⟨k0, w⟩ hk ⟨g1, g2, g3⟩
    dsimp only at g1 g2 g3
    subst g1
    dsimp only
    refine wpf (by simp (disch := first | omega | decide) only [↓neg1, nlit, rI, rL, rI2, rL1, nI_add, pk_mul, sbT, dvT, nmd, ixT, ↓ibT, ltT, ltF, leT, leF, eqT, eqF, nM_ltT, nM_ltF, nM_leT, nM_leF, nM_eqF, nM_eqF', nbT0, nbT1, oI_s, oI_n, natF, natT, nltT, nltF, nleT, nleF, ↓reduceIte, lgc, not_true_eq_false, not_false_eq_true, or_false, false_or, or_true, true_or, and_true, true_and, and_false, false_and, ne_eq, eq_self, or_self, and_self]) (wpt (by simp (disch := first | omega | decide) only [↓neg1, nlit, rI, rL, rI2, rL1, nI_add, pk_mul, sbT, dvT, nmd, ixT, ↓ibT, ltT, ltF, leT, leF, eqT, eqF, nM_ltT, nM_ltF, nM_leT, nM_leF, nM_eqF, nM_eqF', nbT0, nbT1, oI_s, oI_n, natF, natT, nltT, nltF, nleT, nleF, ↓reduceIte, lgc, not_true_eq_false, not_false_eq_true, or_false, false_or, or_true, true_or, and_true, true_and, and_false, false_and, ne_eq, eq_self, or_self, and_self]) (wpt (by simp (disch := first | omega | decide) only [↓neg1, nlit, rI, rL, rI2, rL1, nI_add, pk_mul, sbT, dvT, nmd, ixT, ↓ibT, ltT, ltF, leT, leF, eqT, eqF, nM_ltT, nM_ltF, nM_leT, nM_leF, nM_eqF, nM_eqF', nbT0, nbT1, oI_s, oI_n, natF, natT, nltT, nltF, nleT, nleF, ↓reduceIte, lgc, not_true_eq_false, not_false_eq_true, or_false, false_or, or_true, true_or, and_true, true_and, and_false, false_and, ne_eq, eq_self, or_self, and_self]) ?_))
    rw [ix_n (by omega), g3.1 16 k rfl, sy.1 16 k (decide_eq_false (by omega)), g3.2 159 14 rfl]
    refine wpl (wpl ⟨nI_1 _, fun j hj => ?_, sx_pL g3 rfl⟩)
    dsimp only
    rw [rL]
    by_cases e : j = k
    · rw [if_pos ⟨rfl, e⟩, e]
      rfl
    · rw [if_neg (fun z => e z.2)]
      exact g2 j (by omega)
  · rintro ⟨k0, w⟩ ⟨g1, g2, g3⟩
    dsimp only at g1 g2 g3
    subst g1
    exact wpt (by dsimp only; decide) ⟨g2, g3⟩
  intro z hz
  have z1 := hz.1
  have z2 := hz.2
  clear hz
  refine wpl ?_
  have hz10 : (pI z 159 10 0).1 159 10 = nI 0 := by
    rw [rI, if_pos ⟨rfl, rfl⟩]
    rfl
  have hz14 : (pI z 159 10 0).2 159 14 = y.2 159 14 := z2.2 159 14 rfl
  have hz166 : ∀ k, (pI z 159 10 0).2 166 k = z.2 166 k := fun k => rfl
  have szz : sx (fun a i => decide (a = 163 ∨ a = 164 ∨ a = 165 ∨ a = 166 ∨ (a = 159 ∧ i = 10))) y (pI z 159 10 0) := sx_pI (sx_wide z2 (fun a i z => by
    have := of_decide_eq_false z
    exact decide_eq_false (by omega))) rfl
  generalize pI z 159 10 0 = zz at hz10 hz14 hz166 szz ⊢
  obtain ⟨f0, hf0⟩ : ∃ f0 : Nat, f0 = 0 := ⟨0, rfl⟩
  rw [← hf0] at hz10
  refine wpc (e301 (M := M) hn (by omega) hz10) (fun w hw => ?_)
  obtain ⟨w1, w2, w3, w4, w5⟩ := hw
  subst hf0
  have w14 : w.2 159 14 = y.2 159 14 := (w5.2 159 14 (decide_eq_false (by omega))).trans hz14
  have szw : sx (fun a i => decide (a = 163 ∨ a = 164 ∨ a = 165 ∨ a = 166 ∨ (a = 159 ∧ i = 10))) y w := sx_trans szz (sx_wide w5 (fun a i z => by
    have := of_decide_eq_false z
    exact decide_eq_false (by omega)))
  have hw166 : ∀ k, w.2 166 k = z.2 166 k := fun k => (w5.2 166 k (decide_eq_false (by omega))).trans (hz166 k)
  have hyw : ∀ A i, ¬ (A = 163 ∨ A = 164 ∨ A = 165 ∨ A = 166 ∨ (A = 159 ∧ i = 10)) → w.1 A i = y.1 A i := fun A i h => szw.1 A i (decide_eq_false h)
  have swc : sx qBc c w := sx_trans sy (sx_wide szw (fun a i z => by
    have := of_decide_eq_false z
    exact decide_eq_false (by omega)))
  have h116 : c.1 116 M = nI (pM m M) := hpm.2.2.2.1
  have hp4 : pM m M ≤ 4 := hpm.2.2.2.2.2
  refine wpc (K' := fun v : cS => (∀ s, s < 16 → v.2 165 s = if s < pM m M then pkV (c.1 160 s) (y.2 159 14) else y.2 159 14) ∧ sx (fun a i => decide (a = 165)) w v) (whl_cnt (fun k (st : Int32 × cS) => st.1 = nI k ∧ (∀ s, s < 16 → st.2.2 165 s = if s < k then pkV (c.1 160 s) (y.2 159 14) else y.2 159 14) ∧ sx (fun a i => decide (a = 165)) w st.2) (pM m M) ?_ ?_ (by omega) ⟨rfl, fun s hs => ?_, sx_rfl⟩) ?_
  · rintro k ⟨k0, v⟩ hk ⟨g1, g2, g3⟩
    dsimp only at g1 g2 g3
    subst g1
    dsimp only
    refine wpt (by simp (disch := first | omega | decide) only [↓neg1, nlit, rI, rL, rI2, rL1, nI_add, pk_mul, sbT, dvT, nmd, ixT, ↓ibT, ltT, ltF, leT, leF, eqT, eqF, nM_ltT, nM_ltF, nM_leT, nM_leF, nM_eqF, nM_eqF', nbT0, nbT1, oI_s, oI_n, natF, natT, nltT, nltF, nleT, nleF, ↓reduceIte, lgc, not_true_eq_false, not_false_eq_true, or_false, false_or, or_true, true_or, and_true, true_and, and_false, false_and, ne_eq, eq_self, or_self, and_self]) ?_
    rw [ix_n (by omega), g3.1 116 M rfl, swc.1 116 M (decide_eq_false (by omega)), h116]
    refine wpf (by simp (disch := first | omega | decide) only [↓neg1, nlit, rI, rL, rI2, rL1, nI_add, pk_mul, sbT, dvT, nmd, ixT, ↓ibT, ltT, ltF, leT, leF, eqT, eqF, nM_ltT, nM_ltF, nM_leT, nM_leF, nM_eqF, nM_eqF', nbT0, nbT1, oI_s, oI_n, natF, natT, nltT, nltF, nleT, nleF, ↓reduceIte, lgc, not_true_eq_false, not_false_eq_true, or_false, false_or, or_true, true_or, and_true, true_and, and_false, false_and, ne_eq, eq_self, or_self, and_self]) (wpt (by simp (disch := first | omega | decide) only [↓neg1, nlit, rI, rL, rI2, rL1, nI_add, pk_mul, sbT, dvT, nmd, ixT, ↓ibT, ltT, ltF, leT, leF, eqT, eqF, nM_ltT, nM_ltF, nM_leT, nM_leF, nM_eqF, nM_eqF', nbT0, nbT1, oI_s, oI_n, natF, natT, nltT, nltF, nleT, nleF, ↓reduceIte, lgc, not_true_eq_false, not_false_eq_true, or_false, false_or, or_true, true_or, and_true, true_and, and_false, false_and, ne_eq, eq_self, or_self, and_self]) (wpt (by simp (disch := first | omega | decide) only [↓neg1, nlit, rI, rL, rI2, rL1, nI_add, pk_mul, sbT, dvT, nmd, ixT, ↓ibT, ltT, ltF, leT, leF, eqT, eqF, nM_ltT, nM_ltF, nM_leT, nM_leF, nM_eqF, nM_eqF', nbT0, nbT1, oI_s, oI_n, natF, natT, nltT, nltF, nleT, nleF, ↓reduceIte, lgc, not_true_eq_false, not_false_eq_true, or_false, false_or, or_true, true_or, and_true, true_and, and_false, false_and, ne_eq, eq_self, or_self, and_self]) ?_))
    rw [ix_n (by omega), g3.1 160 k rfl, swc.1 160 k (decide_eq_false (by omega)), g3.2 159 14 rfl, w14]
    refine wpl (wpl ⟨nI_1 _, fun s hs => ?_, sx_pL g3 rfl⟩)
    dsimp only
    rw [rL]
    by_cases e : s = k
    · rw [if_pos ⟨rfl, e⟩, if_pos (by omega), e]
      rfl
    · rw [if_neg (fun z => e z.2), g2 s hs]
      by_cases e2 : s < k
      · rw [if_pos e2, if_pos (by omega)]
      · rw [if_neg e2, if_neg (by omega)]
  · rintro ⟨k0, v⟩ ⟨g1, g2, g3⟩
    dsimp only at g1 g2 g3
    subst g1
    dsimp only
    refine wpt (by simp (disch := first | omega | decide) only [↓neg1, nlit, rI, rL, rI2, rL1, nI_add, pk_mul, sbT, dvT, nmd, ixT, ↓ibT, ltT, ltF, leT, leF, eqT, eqF, nM_ltT, nM_ltF, nM_leT, nM_leF, nM_eqF, nM_eqF', nbT0, nbT1, oI_s, oI_n, natF, natT, nltT, nltF, nleT, nleF, ↓reduceIte, lgc, not_true_eq_false, not_false_eq_true, or_false, false_or, or_true, true_or, and_true, true_and, and_false, false_and, ne_eq, eq_self, or_self, and_self]) ?_
    rw [ix_n (by omega), g3.1 116 M rfl, swc.1 116 M (decide_eq_false (by omega)), h116]
    exact wpt (by simp (disch := first | omega | decide) only [↓neg1, nlit, rI, rL, rI2, rL1, nI_add, pk_mul, sbT, dvT, nmd, ixT, ↓ibT, ltT, ltF, leT, leF, eqT, eqF, nM_ltT, nM_ltF, nM_leT, nM_leF, nM_eqF, nM_eqF', nbT0, nbT1, oI_s, oI_n, natF, natT, nltT, nltF, nleT, nleF, ↓reduceIte, lgc, not_true_eq_false, not_false_eq_true, or_false, false_or, or_true, true_or, and_true, true_and, and_false, false_and, ne_eq, eq_self, or_self, and_self]) ⟨g2, g3⟩
  · rw [if_neg (by omega)]
    have := w3 s hs
    rw [show 16 * 0 + s = s by omega, hz14] at this
    exact this
  · rintro v ⟨v1, v2⟩
    have hv14 : v.2 159 14 = y.2 159 14 := (v2.2 159 14 rfl).trans w14
    have hv1 : ∀ A i, A ≠ 165 → v.1 A i = w.1 A i := fun A i h => v2.1 A i (decide_eq_false h)
    refine ⟨⟨?_, fun j h1 h2 => ?_, ?_, ?_, fun k hk => ?_, ?_, ?_, ?_, fun s hs => ?_⟩, sx_trans swc (sx_wide v2 (fun a i z => ?_))⟩
    · rw [hv1 162 0 (by decide), hyw 162 0 (by omega), y2.1 162 0 rfl]
      exact b0
    · rw [hv1 162 j (by decide), hyw 162 j (by omega), y2.1 162 j (decide_eq_false (by omega))]
      exact bj j h1 h2
    · rw [hv1 159 12 (by decide), hyw 159 12 (by omega), y2.1 159 12 rfl]
      exact b12
    · unfold BLK
      rw [hv14]
      exact y1
    · rw [v2.2 166 k rfl, hw166, hv14]
      exact z1 k hk
    · rw [hv1 159 10 (by decide)]
      exact w4
    · rw [hv1 163 0 (by decide)]
      exact w1
    · rw [hv1 164 0 (by decide)]
      exact w2
    · rw [hv14]
      exact v1 s hs
    · have := of_decide_eq_false z
      exact decide_eq_false (by omega)
