/-! RUN: frames and slots -/
theorem e152s {n r nr a b : Nat} {v : Int64} {c : cS} (hn : 10000 ≤ n) (hab : a ≤ b) (hb : b ≤ nr) (hnr : nr < 10000) : wp (d_152 n r nr (nI a) (nI b) v c) (fun w => (∀ j, w.2 r j = if a ≤ j ∧ j < b then v else c.2 r j) ∧ sx (fun A i => decide (A = r ∧ a ≤ i ∧ i < b)) c w) := by
  unfold d_152
  refine wpe (show d_151 n (Int32.ofNat nr) (nI a) (nI b) = some () by
    unfold d_151
    rw [show Int32.ofNat nr = nI nr from rfl]
    simp (disch := first | omega | decide) only [↓neg1, nlit, rI, rL, rI2, rL1, nI_add, pk_mul, sbT, dvT, nmd, ixT, ↓ibT, ltT, ltF, leT, leF, eqT, eqF, nM_ltT, nM_ltF, nM_leT, nM_leF, nM_eqF, nM_eqF', nbT0, nbT1, oI_s, oI_n, natF, natT, nltT, nltF, nleT, nleF, ↓reduceIte, lgc, not_true_eq_false, not_false_eq_true, or_false, false_or, or_true, true_or, and_true, true_and, and_false, false_and, ne_eq, eq_self, or_self, and_self, obs, ↓jn, ↓lt, ↓reduceIte, decide_true, decide_false, Bool.false_eq_true, Bool.and_true, Bool.and_false, Bool.true_and, Bool.false_and, Bool.or_false, Bool.false_or, Bool.or_true, Bool.true_or]) ?_
  refine wpc (K' := fun w : cS => (∀ j, w.2 r j = if a ≤ j ∧ j < b then v else c.2 r j) ∧ sx (fun A i => decide (A = r ∧ a ≤ i ∧ i < b)) c w) (whl_cnt (fun k (st : Int32 × cS) => st.1 = nI (a + k) ∧ (∀ j, st.2.2 r j = if a ≤ j ∧ j < a + k then v else c.2 r j) ∧ sx (fun A i => decide (A = r ∧ a ≤ i ∧ i < b)) c st.2) (b - a) ?_ ?_ (by omega) ⟨rfl, fun j => by rw [if_neg (by omega)], sx_rfl⟩) (fun w hw => hw)
  · rintro k ⟨x, w⟩ hk ⟨g1, g2, g3⟩
    dsimp only at g1 g2 g3
    subst g1
    dsimp only
    refine wpf (by simp (disch := first | omega | decide) only [↓neg1, nlit, rI, rL, rI2, rL1, nI_add, pk_mul, sbT, dvT, nmd, ixT, ↓ibT, ltT, ltF, leT, leF, eqT, eqF, nM_ltT, nM_ltF, nM_leT, nM_leF, nM_eqF, nM_eqF', nbT0, nbT1, oI_s, oI_n, natF, natT, nltT, nltF, nleT, nleF, ↓reduceIte, lgc, not_true_eq_false, not_false_eq_true, or_false, false_or, or_true, true_or, and_true, true_and, and_false, false_and, ne_eq, eq_self, or_self, and_self]) (wpt (by simp (disch := first | omega | decide) only [↓neg1, nlit, rI, rL, rI2, rL1, nI_add, pk_mul, sbT, dvT, nmd, ixT, ↓ibT, ltT, ltF, leT, leF, eqT, eqF, nM_ltT, nM_ltF, nM_leT, nM_leF, nM_eqF, nM_eqF', nbT0, nbT1, oI_s, oI_n, natF, natT, nltT, nltF, nleT, nleF, ↓reduceIte, lgc, not_true_eq_false, not_false_eq_true, or_false, false_or, or_true, true_or, and_true, true_and, and_false, false_and, ne_eq, eq_self, or_self, and_self]) ?_)
    rw [ix_n (by omega)]
    refine wpl (wpl ⟨nI_1 _, fun j => ?_, sx_pL g3 (decide_eq_true ⟨rfl, by omega, by omega⟩)⟩)
    dsimp only
    rw [rL]
    by_cases e : j = a + k
    · rw [if_pos ⟨rfl, e⟩, if_pos (by omega)]
    · rw [if_neg (fun z => e z.2), g2]
      by_cases e2 : a ≤ j ∧ j < a + k
      · rw [if_pos e2, if_pos (by omega)]
      · rw [if_neg e2, if_neg (by omega)]
  · rintro ⟨x, w⟩ ⟨g1, g2, g3⟩
    dsimp only at g1 g2 g3
    subst g1
    rw [show a + (b - a) = b by omega] at *
    dsimp only
    exact wpt (by simp (disch := first | omega | decide) only [↓neg1, nlit, rI, rL, rI2, rL1, nI_add, pk_mul, sbT, dvT, nmd, ixT, ↓ibT, ltT, ltF, leT, leF, eqT, eqF, nM_ltT, nM_ltF, nM_leT, nM_leF, nM_eqF, nM_eqF', nbT0, nbT1, oI_s, oI_n, natF, natT, nltT, nltF, nleT, nleF, ↓reduceIte, lgc, not_true_eq_false, not_false_eq_true, or_false, false_or, or_true, true_or, and_true, true_and, and_false, false_and, ne_eq, eq_self, or_self, and_self]) ⟨g2, g3⟩
/-- what opens a frame of the class -/
def qF1 (f : Nat) (A i : Nat) : Bool := decide ((A = 163 ∧ i = f) ∨ (A = 164 ∧ i = f) ∨ (A = 165 ∧ 16 * f ≤ i ∧ i < 16 * f + 16) ∨ (A = 159 ∧ i = 10))
theorem e301 {n f M : Nat} {c : cS} (hn : 10000 ≤ n) (hf : f < 12) (h10 : c.1 159 10 = nI f) : wp (d_301 n (nI M) c) (fun w => w.1 163 f = nI M ∧ w.1 164 f = nI 0 ∧ (∀ s, s < 16 → w.2 165 (16 * f + s) = c.2 159 14) ∧ w.1 159 10 = nI (f + 1) ∧ sx (qF1 f) c w) := by
  unfold d_301
  rw [h10]
  refine wpt (by simp (disch := first | omega | decide) only [↓neg1, nlit, rI, rL, rI2, rL1, nI_add, pk_mul, sbT, dvT, nmd, ixT, ↓ibT, ltT, ltF, leT, leF, eqT, eqF, nM_ltT, nM_ltF, nM_leT, nM_leF, nM_eqF, nM_eqF', nbT0, nbT1, oI_s, oI_n, natF, natT, nltT, nltF, nleT, nleF, ↓reduceIte, lgc, not_true_eq_false, not_false_eq_true, or_false, false_or, or_true, true_or, and_true, true_and, and_false, false_and, ne_eq, eq_self, or_self, and_self]) ?_
  rw [ix_n (by omega)]
  refine wpl ?_
  rw [show (pI c 163 f (nI M)).1 159 10 = nI f by rw [rI, if_neg (by omega)]; exact h10]
  refine wpt (by simp (disch := first | omega | decide) only [↓neg1, nlit, rI, rL, rI2, rL1, nI_add, pk_mul, sbT, dvT, nmd, ixT, ↓ibT, ltT, ltF, leT, leF, eqT, eqF, nM_ltT, nM_ltF, nM_leT, nM_leF, nM_eqF, nM_eqF', nbT0, nbT1, oI_s, oI_n, natF, natT, nltT, nltF, nleT, nleF, ↓reduceIte, lgc, not_true_eq_false, not_false_eq_true, or_false, false_or, or_true, true_or, and_true, true_and, and_false, false_and, ne_eq, eq_self, or_self, and_self]) ?_
  rw [ix_n (by omega)]
  refine wpl ?_
  generalize e2 : pI (pI c 163 f (nI M)) 164 f 0 = c2
  have h2 : c2.1 159 10 = nI f := by
    rw [← e2, rI, if_neg (by omega), rI, if_neg (by omega)]
    exact h10
  have s2 : sx (qF1 f) c c2 := by
    rw [← e2]
    exact sx_pI (sx_pI sx_rfl (decide_eq_true (by omega))) (decide_eq_true (by omega))
  have l2 : c2.2 = c.2 := by
    rw [← e2]
    rfl
  rw [h2, l2, show nI f * 16 = nI (16 * f) by rw [show (16 : Int32) = nI 16 from rfl, pk_mul]; exact congrArg nI (by omega), show nI (16 * f) + 16 = nI (16 * f + 16) from nI_add _ 16]
  refine wpc (e152s hn (by omega) (by omega) (by omega)) (fun w hw => ?_)
  obtain ⟨w1, w2⟩ := hw
  have hw10 : w.1 159 10 = nI f := (w2.1 159 10 (decide_eq_false (by omega))).trans h2
  rw [hw10]
  refine wpl ⟨?_, ?_, fun s hs => ?_, ?_, sx_pI (sx_trans s2 (sx_wide w2 (fun a i z => ?_))) (decide_eq_true (by omega))⟩
  · rw [rI, if_neg (by omega), w2.1 163 f (decide_eq_false (by omega)), ← e2, rI, if_neg (by omega), rI, if_pos ⟨rfl, rfl⟩]
  · rw [rI, if_neg (by omega), w2.1 164 f (decide_eq_false (by omega)), ← e2, rI, if_pos ⟨rfl, rfl⟩]
    rfl
  · show w.2 165 _ = _
    rw [w1, if_pos (by omega)]
  · rw [rI, if_pos ⟨rfl, rfl⟩]
    exact nI_1 _
  · have := of_decide_eq_false z
    exact decide_eq_false (by omega)
section RE
variable {n : Nat} {c m u : cS}
/-- a slot of the reference set plainly -/
def q57 (q : Nat) (A i : Nat) : Bool := decide ((A = 256 ∧ i = q) ∨ (A = 257 ∧ 4 * q ≤ i ∧ i < 4 * q + 4))
theorem e138 {q : Nat} {v : Int32} (hn : 1000 ≤ n) (hq : q < 192) (hA : AG m u) (hO : OOS c m) : wp (d_138 n (nI q) v u) (fun w => w.1 256 q = v ∧ (∀ o, o < ocn m → w.1 257 (4 * q + o) = m.1 188 o) ∧ sx (q57 q) u w) := by
  have ho4 := hO.1
  have h15 : u.1 174 15 = nI (ocn m) := (hA.2.2.1 15 rfl).trans hO.2.2.1
  unfold d_138
  refine wpt (by simp (disch := first | omega | decide) only [↓neg1, nlit, rI, rL, rI2, rL1, nI_add, pk_mul, sbT, dvT, nmd, ixT, ↓ibT, ltT, ltF, leT, leF, eqT, eqF, nM_ltT, nM_ltF, nM_leT, nM_leF, nM_eqF, nM_eqF', nbT0, nbT1, oI_s, oI_n, natF, natT, nltT, nltF, nleT, nleF, ↓reduceIte, lgc, not_true_eq_false, not_false_eq_true, or_false, false_or, or_true, true_or, and_true, true_and, and_false, false_and, ne_eq, eq_self, or_self, and_self]) ?_
  rw [ix_n (by omega)]
  refine wpl ?_
  have s0 : sx (q57 q) u (pI u 256 q v) := sx_pI sx_rfl (decide_eq_true (by omega))
  refine wpc (K' := fun w : cS => w.1 256 q = v ∧ (∀ o, o < ocn m → w.1 257 (4 * q + o) = m.1 188 o) ∧ sx (q57 q) u w) (whl_cnt (fun k (st : Int32 × cS) => st.1 = nI k ∧ st.2.1 256 q = v ∧ (∀ o, o < k → st.2.1 257 (4 * q + o) = m.1 188 o) ∧ sx (q57 q) u st.2) (ocn m) ?_ ?_ (by omega) ⟨rfl, by rw [rI, if_pos ⟨rfl, rfl⟩], fun o ho => by omega, s0⟩) (fun w hw => hw)
  · rintro k ⟨k0, w⟩ hk ⟨g1, g2, g3, g4⟩
    dsimp only at g1 g2 g3 g4
    subst g1
    dsimp only
    rw [(g4.1 174 15 (decide_eq_false (by omega))).trans h15]
    refine wpf (by simp (disch := first | omega | decide) only [↓neg1, nlit, rI, rL, rI2, rL1, nI_add, pk_mul, sbT, dvT, nmd, ixT, ↓ibT, ltT, ltF, leT, leF, eqT, eqF, nM_ltT, nM_ltF, nM_leT, nM_leF, nM_eqF, nM_eqF', nbT0, nbT1, oI_s, oI_n, natF, natT, nltT, nltF, nleT, nleF, ↓reduceIte, lgc, not_true_eq_false, not_false_eq_true, or_false, false_or, or_true, true_or, and_true, true_and, and_false, false_and, ne_eq, eq_self, or_self, and_self]) (wpt (by simp (disch := first | omega | decide) only [↓neg1, nlit, rI, rL, rI2, rL1, nI_add, pk_mul, sbT, dvT, nmd, ixT, ↓ibT, ltT, ltF, leT, leF, eqT, eqF, nM_ltT, nM_ltF, nM_leT, nM_leF, nM_eqF, nM_eqF', nbT0, nbT1, oI_s, oI_n, natF, natT, nltT, nltF, nleT, nleF, ↓reduceIte, lgc, not_true_eq_false, not_false_eq_true, or_false, false_or, or_true, true_or, and_true, true_and, and_false, false_and, ne_eq, eq_self, or_self, and_self]) ?_)
    rw [show (4 : Int32) * nI q + nI k = nI (4 * q + k) by rw [show (4 : Int32) = nI 4 from rfl, pk_mul, nI_add]]
    refine wpt (by simp (disch := first | omega | decide) only [↓neg1, nlit, rI, rL, rI2, rL1, nI_add, pk_mul, sbT, dvT, nmd, ixT, ↓ibT, ltT, ltF, leT, leF, eqT, eqF, nM_ltT, nM_ltF, nM_leT, nM_leF, nM_eqF, nM_eqF', nbT0, nbT1, oI_s, oI_n, natF, natT, nltT, nltF, nleT, nleF, ↓reduceIte, lgc, not_true_eq_false, not_false_eq_true, or_false, false_or, or_true, true_or, and_true, true_and, and_false, false_and, ne_eq, eq_self, or_self, and_self]) ?_
    rw [ix_n (by omega), ix_n (by omega), (g4.1 188 k (decide_eq_false (by omega))).trans (hA.1 188 k rfl)]
    refine wpl (wpl ⟨nI_1 _, ?_, fun o ho => ?_, sx_pI g4 (decide_eq_true (by omega))⟩)
    · dsimp only
      rw [rI, if_neg (by omega)]
      exact g2
    · dsimp only
      rw [rI]
      by_cases e : o = k
      · rw [if_pos ⟨rfl, by omega⟩, e]
      · rw [if_neg (by omega)]
        exact g3 o (by omega)
  · rintro ⟨k0, w⟩ ⟨g1, g2, g3, g4⟩
    dsimp only at g1 g2 g3 g4
    subst g1
    dsimp only
    rw [(g4.1 174 15 (decide_eq_false (by omega))).trans h15]
    exact wpt (by simp (disch := first | omega | decide) only [↓neg1, nlit, rI, rL, rI2, rL1, nI_add, pk_mul, sbT, dvT, nmd, ixT, ↓ibT, ltT, ltF, leT, leF, eqT, eqF, nM_ltT, nM_ltF, nM_leT, nM_leF, nM_eqF, nM_eqF', nbT0, nbT1, oI_s, oI_n, natF, natT, nltT, nltF, nleT, nleF, ↓reduceIte, lgc, not_true_eq_false, not_false_eq_true, or_false, false_or, or_true, true_or, and_true, true_and, and_false, false_and, ne_eq, eq_self, or_self, and_self]) ⟨g2, g3, g4⟩
/-- a slot copied -/
theorem e467 {a b : Nat} (hn : 1000 ≤ n) (ha : a < 192) (hb : b < 192) (hA : AG m u) (hO : OOS c m) : wp (d_467 n (nI a) (nI b) u) (fun w => w.1 256 a = u.1 256 b ∧ (∀ o, o < ocn m → w.1 257 (4 * a + o) = u.1 257 (4 * b + o)) ∧ sx (q57 a) u w) := by
  have ho4 := hO.1
  have h15 : u.1 174 15 = nI (ocn m) := (hA.2.2.1 15 rfl).trans hO.2.2.1
  unfold d_467
  refine wpt (by simp (disch := first | omega | decide) only [↓neg1, nlit, rI, rL, rI2, rL1, nI_add, pk_mul, sbT, dvT, nmd, ixT, ↓ibT, ltT, ltF, leT, leF, eqT, eqF, nM_ltT, nM_ltF, nM_leT, nM_leF, nM_eqF, nM_eqF', nbT0, nbT1, oI_s, oI_n, natF, natT, nltT, nltF, nleT, nleF, ↓reduceIte, lgc, not_true_eq_false, not_false_eq_true, or_false, false_or, or_true, true_or, and_true, true_and, and_false, false_and, ne_eq, eq_self, or_self, and_self]) (wpt (by simp (disch := first | omega | decide) only [↓neg1, nlit, rI, rL, rI2, rL1, nI_add, pk_mul, sbT, dvT, nmd, ixT, ↓ibT, ltT, ltF, leT, leF, eqT, eqF, nM_ltT, nM_ltF, nM_leT, nM_leF, nM_eqF, nM_eqF', nbT0, nbT1, oI_s, oI_n, natF, natT, nltT, nltF, nleT, nleF, ↓reduceIte, lgc, not_true_eq_false, not_false_eq_true, or_false, false_or, or_true, true_or, and_true, true_and, and_false, false_and, ne_eq, eq_self, or_self, and_self]) ?_)
  rw [ix_n (by omega), ix_n (by omega)]
  refine wpl ?_
  have s0 : sx (q57 a) u (pI u 256 a (u.1 256 b)) := sx_pI sx_rfl (decide_eq_true (by omega))
  refine wpc (K' := fun w : cS => w.1 256 a = u.1 256 b ∧ (∀ o, o < ocn m → w.1 257 (4 * a + o) = u.1 257 (4 * b + o)) ∧ sx (q57 a) u w) (whl_cnt (fun k (st : Int32 × cS) => st.1 = nI k ∧ st.2.1 256 a = u.1 256 b ∧ (∀ o, st.2.1 257 (4 * a + o) = if o < k then u.1 257 (4 * b + o) else u.1 257 (4 * a + o)) ∧ sx (q57 a) u st.2) (ocn m) ?_ ?_ (by omega) ⟨rfl, by rw [rI, if_pos ⟨rfl, rfl⟩], fun o => by rw [if_neg (by omega), rI, if_neg (by omega)], s0⟩) (fun w hw => hw)
  · rintro k ⟨k0, w⟩ hk ⟨g1, g2, g3, g4⟩
    dsimp only at g1 g2 g3 g4
    subst g1
    dsimp only
    rw [(g4.1 174 15 (decide_eq_false (by omega))).trans h15]
    refine wpf (by simp (disch := first | omega | decide) only [↓neg1, nlit, rI, rL, rI2, rL1, nI_add, pk_mul, sbT, dvT, nmd, ixT, ↓ibT, ltT, ltF, leT, leF, eqT, eqF, nM_ltT, nM_ltF, nM_leT, nM_leF, nM_eqF, nM_eqF', nbT0, nbT1, oI_s, oI_n, natF, natT, nltT, nltF, nleT, nleF, ↓reduceIte, lgc, not_true_eq_false, not_false_eq_true, or_false, false_or, or_true, true_or, and_true, true_and, and_false, false_and, ne_eq, eq_self, or_self, and_self]) ?_
    rw [show (4 : Int32) * nI b + nI k = nI (4 * b + k) by rw [show (4 : Int32) = nI 4 from rfl, pk_mul, nI_add], show (4 : Int32) * nI a + nI k = nI (4 * a + k) by rw [show (4 : Int32) = nI 4 from rfl, pk_mul, nI_add]]
    refine wpt (by simp (disch := first | omega | decide) only [↓neg1, nlit, rI, rL, rI2, rL1, nI_add, pk_mul, sbT, dvT, nmd, ixT, ↓ibT, ltT, ltF, leT, leF, eqT, eqF, nM_ltT, nM_ltF, nM_leT, nM_leF, nM_eqF, nM_eqF', nbT0, nbT1, oI_s, oI_n, natF, natT, nltT, nltF, nleT, nleF, ↓reduceIte, lgc, not_true_eq_false, not_false_eq_true, or_false, false_or, or_true, true_or, and_true, true_and, and_false, false_and, ne_eq, eq_self, or_self, and_self]) (wpt (by simp (disch := first | omega | decide) only [↓neg1, nlit, rI, rL, rI2, rL1, nI_add, pk_mul, sbT, dvT, nmd, ixT, ↓ibT, ltT, ltF, leT, leF, eqT, eqF, nM_ltT, nM_ltF, nM_leT, nM_leF, nM_eqF, nM_eqF', nbT0, nbT1, oI_s, oI_n, natF, natT, nltT, nltF, nleT, nleF, ↓reduceIte, lgc, not_true_eq_false, not_false_eq_true, or_false, false_or, or_true, true_or, and_true, true_and, and_false, false_and, ne_eq, eq_self, or_self, and_self]) ?_)
    have hval : w.1 257 (4 * b + k) = u.1 257 (4 * b + k) := by
      by_cases e : a = b
      · subst e
        rw [g3 k, if_neg (by omega)]
      · exact g4.1 257 _ (decide_eq_false (by omega))
    rw [ix_n (by omega), ix_n (by omega), hval]
    refine wpl (wpl ⟨nI_1 _, ?_, fun o => ?_, sx_pI g4 (decide_eq_true (by omega))⟩)
    · dsimp only
      rw [rI, if_neg (by omega)]
      exact g2
    · dsimp only
      rw [rI]
      by_cases e : o = k
      · rw [if_pos ⟨rfl, by omega⟩, if_pos (by omega), e]
      · rw [if_neg (by omega), g3 o]
        by_cases e2 : o < k
        · rw [if_pos e2, if_pos (by omega)]
        · rw [if_neg e2, if_neg (by omega)]
  · rintro ⟨k0, w⟩ ⟨g1, g2, g3, g4⟩
    dsimp only at g1 g2 g3 g4
    subst g1
    dsimp only
    rw [(g4.1 174 15 (decide_eq_false (by omega))).trans h15]
    exact wpt (by simp (disch := first | omega | decide) only [↓neg1, nlit, rI, rL, rI2, rL1, nI_add, pk_mul, sbT, dvT, nmd, ixT, ↓ibT, ltT, ltF, leT, leF, eqT, eqF, nM_ltT, nM_ltF, nM_leT, nM_leF, nM_eqF, nM_eqF', nbT0, nbT1, oI_s, oI_n, natF, natT, nltT, nltF, nleT, nleF, ↓reduceIte, lgc, not_true_eq_false, not_false_eq_true, or_false, false_or, or_true, true_or, and_true, true_and, and_false, false_and, ne_eq, eq_self, or_self, and_self]) ⟨g2, fun o ho => by rw [g3 o, if_pos ho], g4⟩
def qF2 (f : Nat) (A i : Nat) : Bool := decide ((253 ≤ A ∧ A ≤ 255 ∧ i = f) ∨ (A = 256 ∧ 16 * f ≤ i ∧ i < 16 * f + 16) ∨ (A = 257 ∧ 64 * f ≤ i ∧ i < 64 * f + 64) ∨ (A = 174 ∧ i = 113))
theorem nP_F2 {f : Nat} : nP (qF2 f) := by
  refine ⟨fun a i h => ?_, fun i h => ?_, fun i h => ?_, fun a i h1 h2 h3 => ?_, fun a i h1 h2 h3 => ?_⟩
  · have := PA_of h
    exact decide_eq_false (by omega)
  · have := PF_of h
    exact decide_eq_false (by omega)
  · exact decide_eq_false (by omega)
  · exact decide_eq_false (by omega)
  · exact decide_eq_false (by omega)
theorem e466 {f M : Nat} (hn : 1000 ≤ n) (hf : f < 12) (hA : AG m u) (hO : OOS c m) (h113 : u.1 174 113 = nI f) : wp (d_466 n (nI M) u) (fun w => w.1 253 f = nI M ∧ w.1 254 f = nI 0 ∧ w.1 255 f = nI 8 ∧ (∀ s, s < 16 → w.1 256 (16 * f + s) = 0 ∧ ∀ o, o < ocn m → w.1 257 (4 * (16 * f + s) + o) = m.1 188 o) ∧ w.1 174 113 = nI (f + 1) ∧ sx (qF2 f) u w) := by
  unfold d_466
  rw [h113]
  refine wpl (wpl (wpt (by simp (disch := first | omega | decide) only [↓neg1, nlit, rI, rL, rI2, rL1, nI_add, pk_mul, sbT, dvT, nmd, ixT, ↓ibT, ltT, ltF, leT, leF, eqT, eqF, nM_ltT, nM_ltF, nM_leT, nM_leF, nM_eqF, nM_eqF', nbT0, nbT1, oI_s, oI_n, natF, natT, nltT, nltF, nleT, nleF, ↓reduceIte, lgc, not_true_eq_false, not_false_eq_true, or_false, false_or, or_true, true_or, and_true, true_and, and_false, false_and, ne_eq, eq_self, or_self, and_self]) ?_))
  rw [ix_n (by omega)]
  refine wpl (wpt (by simp (disch := first | omega | decide) only [↓neg1, nlit, rI, rL, rI2, rL1, nI_add, pk_mul, sbT, dvT, nmd, ixT, ↓ibT, ltT, ltF, leT, leF, eqT, eqF, nM_ltT, nM_ltF, nM_leT, nM_leF, nM_eqF, nM_eqF', nbT0, nbT1, oI_s, oI_n, natF, natT, nltT, nltF, nleT, nleF, ↓reduceIte, lgc, not_true_eq_false, not_false_eq_true, or_false, false_or, or_true, true_or, and_true, true_and, and_false, false_and, ne_eq, eq_self, or_self, and_self]) (wpl (wpt (by simp (disch := first | omega | decide) only [↓neg1, nlit, rI, rL, rI2, rL1, nI_add, pk_mul, sbT, dvT, nmd, ixT, ↓ibT, ltT, ltF, leT, leF, eqT, eqF, nM_ltT, nM_ltF, nM_leT, nM_leF, nM_eqF, nM_eqF', nbT0, nbT1, oI_s, oI_n, natF, natT, nltT, nltF, nleT, nleF, ↓reduceIte, lgc, not_true_eq_false, not_false_eq_true, or_false, false_or, or_true, true_or, and_true, true_and, and_false, false_and, ne_eq, eq_self, or_self, and_self]) (wpl ?_))))
  generalize e2 : pI (pI (pI (pI u 174 113 (nI f + 1)) 253 f (nI M)) 254 f 0) 255 f 8 = u2
  have s2 : sx (qF2 f) u u2 := by
    rw [← e2]
    exact sx_pI (sx_pI (sx_pI (sx_pI sx_rfl (decide_eq_true (by omega))) (decide_eq_true (by omega))) (decide_eq_true (by omega))) (decide_eq_true (by omega))
  have v1 : u2.1 253 f = nI M := by
    rw [← e2, rI, if_neg (by omega), rI, if_neg (by omega), rI, if_pos ⟨rfl, rfl⟩]
  have v2 : u2.1 254 f = nI 0 := by
    rw [← e2, rI, if_neg (by omega), rI, if_pos ⟨rfl, rfl⟩]
    rfl
  have v3 : u2.1 255 f = nI 8 := by
    rw [← e2, rI, if_pos ⟨rfl, rfl⟩]
    rfl
  have v4 : u2.1 174 113 = nI (f + 1) := by
    rw [← e2, rI, if_neg (by omega), rI, if_neg (by omega), rI, if_neg (by omega), rI, if_pos ⟨rfl, rfl⟩]
    exact nI_1 _
  refine wpc (K' := fun w : cS => sx (fun A i => decide ((A = 256 ∧ 16 * f ≤ i ∧ i < 16 * f + 16) ∨ (A = 257 ∧ 64 * f ≤ i ∧ i < 64 * f + 64))) u2 w ∧ ∀ s, s < 16 → w.1 256 (16 * f + s) = 0 ∧ ∀ o, o < ocn m → w.1 257 (4 * (16 * f + s) + o) = m.1 188 o) (whl_cnt (fun k (st : Int32 × cS) => st.1 = nI k ∧ sx (fun A i => decide ((A = 256 ∧ 16 * f ≤ i ∧ i < 16 * f + 16) ∨ (A = 257 ∧ 64 * f ≤ i ∧ i < 64 * f + 64))) u2 st.2 ∧ ∀ s, s < k → st.2.1 256 (16 * f + s) = 0 ∧ ∀ o, o < ocn m → st.2.1 257 (4 * (16 * f + s) + o) = m.1 188 o) 16 ?_ ?_ (by omega) ⟨rfl, sx_rfl, fun s hs => by omega⟩) ?_
  · rintro k ⟨k0, w⟩ hk ⟨g1, g2, g3⟩
    dsimp only at g1 g2 g3
    subst g1
    dsimp only
    have ho4 := hO.1
    have sw : sx (qF2 f) u w := sx_trans s2 (sx_wide g2 (fun a i z => by
      have := of_decide_eq_false z
      exact decide_eq_false (by omega)))
    rw [show (16 : Int32) * nI f + nI k = nI (16 * f + k) by rw [show (16 : Int32) = nI 16 from rfl, pk_mul, nI_add]]
    refine wpf (by simp (disch := first | omega | decide) only [↓neg1, nlit, rI, rL, rI2, rL1, nI_add, pk_mul, sbT, dvT, nmd, ixT, ↓ibT, ltT, ltF, leT, leF, eqT, eqF, nM_ltT, nM_ltF, nM_leT, nM_leF, nM_eqF, nM_eqF', nbT0, nbT1, oI_s, oI_n, natF, natT, nltT, nltF, nleT, nleF, ↓reduceIte, lgc, not_true_eq_false, not_false_eq_true, or_false, false_or, or_true, true_or, and_true, true_and, and_false, false_and, ne_eq, eq_self, or_self, and_self]) (wpc (e138 hn (by omega) (AG_sx hA sw nP_F2) hO) (fun d hd => wpl ⟨nI_1 _, sx_trans g2 (sx_wide hd.2.2 (fun a i z => ?_)), fun s hs => ?_⟩))
    · have := of_decide_eq_false z
      exact decide_eq_false (by omega)
    · dsimp only
      by_cases e : s = k
      · subst e
        exact ⟨hd.1, hd.2.1⟩
      · obtain ⟨p1, p2⟩ := g3 s (by omega)
        exact ⟨(hd.2.2.1 256 _ (decide_eq_false (by omega))).trans p1, fun o ho => (hd.2.2.1 257 _ (decide_eq_false (by omega))).trans (p2 o ho)⟩
  · rintro ⟨k0, w⟩ ⟨g1, g2, g3⟩
    dsimp only at g1 g2 g3
    subst g1
    exact wpt (by dsimp only; decide) ⟨g2, g3⟩
  · rintro w ⟨w1, w2⟩
    exact ⟨(w1.1 253 f (decide_eq_false (by omega))).trans v1, (w1.1 254 f (decide_eq_false (by omega))).trans v2, (w1.1 255 f (decide_eq_false (by omega))).trans v3, w2, (w1.1 174 113 (decide_eq_false (by omega))).trans v4, sx_trans s2 (sx_wide w1 (fun a i z => by
      have := of_decide_eq_false z
      exact decide_eq_false (by omega)))⟩
end RE
