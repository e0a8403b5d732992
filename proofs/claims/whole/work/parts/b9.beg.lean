/-! the call begin: both -/
theorem SL_pk {m : cS} {v v' : Int32} {b : Int64} {k : Nat → Int32} (hv : v = v') (h0 : b.toInt32 = 0) (hb : ∀ o, o < ocn m → nbl b (8 + o) = ix (m.1 188 o)) (hO : ocn m ≤ 4) (hbot : ∀ o, o < ocn m → ix (m.1 188 o) < eln m o ∧ m.1 188 o = nI (ix (m.1 188 o))) (hk : ∀ o, o < ocn m → k o = m.1 188 o) : SL m (pkV v b) v' k := by
  refine ⟨(pkV_32 h0).trans hv, fun o ho => ?_⟩
  rw [pkV_nb (by omega), hb o ho, hk o ho]
  exact hbot o ho
theorem SL_bl {m : cS} {b : Int64} {v : Int32} {k : Nat → Int32} (hv : v = 0) (h0 : b.toInt32 = 0) (hb : ∀ o, o < ocn m → nbl b (8 + o) = ix (m.1 188 o)) (hbot : ∀ o, o < ocn m → ix (m.1 188 o) < eln m o ∧ m.1 188 o = nI (ix (m.1 188 o))) (hk : ∀ o, o < ocn m → k o = m.1 188 o) : SL m b v k := by
  refine ⟨h0.trans hv.symm, fun o ho => ?_⟩
  rw [hb o ho, hk o ho]
  exact hbot o ho
def BGR (m : cS) (M : Nat) (a2 : Int32) (u w : cS) : Prop := w.1 174 111 = nI 1 ∧ w.1 174 112 = a2 ∧ w.1 174 113 = nI 1 ∧ w.1 174 121 = nI 0 ∧ w.1 174 123 = nI 0 ∧ w.1 174 124 = nI 0 ∧ w.1 174 125 = nM ∧ w.1 174 126 = nM ∧ w.1 174 127 = nM ∧ w.1 174 128 = nI 0 ∧ w.1 174 129 = nI 0 ∧ w.1 174 0 = nI 0 ∧ (∀ k, k < 96 → w.1 258 k = u.1 205 k ∧ ∀ o, o < ocn m → w.1 259 (4 * k + o) = m.1 188 o) ∧ w.1 253 0 = nI M ∧ w.1 254 0 = nI 0 ∧ w.1 255 0 = nI 8 ∧ (∀ s, s < 16 → w.1 256 s = (if s < pM m M then u.1 251 s else 0) ∧ ∀ o, o < ocn m → w.1 257 (4 * s + o) = m.1 188 o)
theorem beg_r {n p : Nat} {a2 : Int32} {c m u : cS} (hn : 10000 ≤ n) (hA : AG m u) (hG : PG c m) (h14 : m.1 174 14 = nI 1) (hp : p < 1200) (h111 : d_111 n (nI p) u = some (nI 1)) (h421 : d_421 n (nI p) = some (nI (mAt p))) (hM : isMt m (mAt p)) (ha : nb a2) : wp (d_139 n (nI p) a2 u) (fun w => BGR m (mAt p) a2 u w ∧ sx qBr u w) := by
  have hE := hG.1
  have hO := hE.1
  have hC := hE.2.2.1
  have ho4 := hO.1
  generalize hMe : mAt p = M at *
  have hM96 := isMt_lt hC hM
  have hpm := (isMt_8 hC hM)
  have hp4 : pM m M ≤ 4 := hpm.2.2.2.2.2
  unfold d_139
  refine wpj (wpf (by rw [(hA.2.2.1 14 rfl).trans h14]; decide) (wpe h111 (wpf (by decide) (wpl ?_))))
  refine wpt (by rw [rI, if_pos ⟨rfl, rfl⟩]; decide) (wpl (wpt ha ?_))
  refine wpl (wpl (wpl (wpl (wpl (wpl (wpl (wpl (wpl (wpl ?_)))))))))
  generalize e1 : pI (pI (pI (pI (pI (pI (pI (pI (pI (pI (pI (pI u 174 0 0) 174 111 1) 174 112 a2) 174 113 0) 174 121 0) 174 123 0) 174 124 0) 174 125 (-1)) 174 126 (-1)) 174 127 (-1)) 174 128 0) 174 129 0 = u1
  have s1 : sx (fun a i => decide (a = 174 ∧ (i = 0 ∨ (111 ≤ i ∧ i ≤ 113) ∨ i = 121 ∨ (123 ≤ i ∧ i ≤ 129)))) u u1 := by
    rw [← e1]
    exact sx_pI (sx_pI (sx_pI (sx_pI (sx_pI (sx_pI (sx_pI (sx_pI (sx_pI (sx_pI (sx_pI (sx_pI sx_rfl rfl) rfl) rfl) rfl) rfl) rfl) rfl) rfl) rfl) rfl) rfl) rfl
  have f0 : u1.1 174 0 = nI 0 := by
    rw [← e1]
    simp (disch := first | omega | decide) only [↓neg1, nlit, rI, rL, rI2, rL1, nI_add, pk_mul, sbT, dvT, nmd, ixT, ↓ibT, ltT, ltF, leT, leF, eqT, eqF, nM_ltT, nM_ltF, nM_leT, nM_leF, nM_eqF, nM_eqF', nbT0, nbT1, oI_s, oI_n, natF, natT, nltT, nltF, nleT, nleF, ↓reduceIte, lgc, not_true_eq_false, not_false_eq_true, or_false, false_or, or_true, true_or, and_true, true_and, and_false, false_and, ne_eq, eq_self, or_self, and_self]
  have f111 : u1.1 174 111 = nI 1 := by
    rw [← e1]
    simp (disch := first | omega | decide) only [↓neg1, nlit, rI, rL, rI2, rL1, nI_add, pk_mul, sbT, dvT, nmd, ixT, ↓ibT, ltT, ltF, leT, leF, eqT, eqF, nM_ltT, nM_ltF, nM_leT, nM_leF, nM_eqF, nM_eqF', nbT0, nbT1, oI_s, oI_n, natF, natT, nltT, nltF, nleT, nleF, ↓reduceIte, lgc, not_true_eq_false, not_false_eq_true, or_false, false_or, or_true, true_or, and_true, true_and, and_false, false_and, ne_eq, eq_self, or_self, and_self]
  have f112 : u1.1 174 112 = a2 := by
    rw [← e1]
    simp (disch := first | omega | decide) only [↓neg1, nlit, rI, rL, rI2, rL1, nI_add, pk_mul, sbT, dvT, nmd, ixT, ↓ibT, ltT, ltF, leT, leF, eqT, eqF, nM_ltT, nM_ltF, nM_leT, nM_leF, nM_eqF, nM_eqF', nbT0, nbT1, oI_s, oI_n, natF, natT, nltT, nltF, nleT, nleF, ↓reduceIte, lgc, not_true_eq_false, not_false_eq_true, or_false, false_or, or_true, true_or, and_true, true_and, and_false, false_and, ne_eq, eq_self, or_self, and_self]
  have f113 : u1.1 174 113 = nI 0 := by
    rw [← e1]
    simp (disch := first | omega | decide) only [↓neg1, nlit, rI, rL, rI2, rL1, nI_add, pk_mul, sbT, dvT, nmd, ixT, ↓ibT, ltT, ltF, leT, leF, eqT, eqF, nM_ltT, nM_ltF, nM_leT, nM_leF, nM_eqF, nM_eqF', nbT0, nbT1, oI_s, oI_n, natF, natT, nltT, nltF, nleT, nleF, ↓reduceIte, lgc, not_true_eq_false, not_false_eq_true, or_false, false_or, or_true, true_or, and_true, true_and, and_false, false_and, ne_eq, eq_self, or_self, and_self]
  have f121 : u1.1 174 121 = nI 0 := by
    rw [← e1]
    simp (disch := first | omega | decide) only [↓neg1, nlit, rI, rL, rI2, rL1, nI_add, pk_mul, sbT, dvT, nmd, ixT, ↓ibT, ltT, ltF, leT, leF, eqT, eqF, nM_ltT, nM_ltF, nM_leT, nM_leF, nM_eqF, nM_eqF', nbT0, nbT1, oI_s, oI_n, natF, natT, nltT, nltF, nleT, nleF, ↓reduceIte, lgc, not_true_eq_false, not_false_eq_true, or_false, false_or, or_true, true_or, and_true, true_and, and_false, false_and, ne_eq, eq_self, or_self, and_self]
  have f123 : u1.1 174 123 = nI 0 := by
    rw [← e1]
    simp (disch := first | omega | decide) only [↓neg1, nlit, rI, rL, rI2, rL1, nI_add, pk_mul, sbT, dvT, nmd, ixT, ↓ibT, ltT, ltF, leT, leF, eqT, eqF, nM_ltT, nM_ltF, nM_leT, nM_leF, nM_eqF, nM_eqF', nbT0, nbT1, oI_s, oI_n, natF, natT, nltT, nltF, nleT, nleF, ↓reduceIte, lgc, not_true_eq_false, not_false_eq_true, or_false, false_or, or_true, true_or, and_true, true_and, and_false, false_and, ne_eq, eq_self, or_self, and_self]
  have f124 : u1.1 174 124 = nI 0 := by
    rw [← e1]
    simp (disch := first | omega | decide) only [↓neg1, nlit, rI, rL, rI2, rL1, nI_add, pk_mul, sbT, dvT, nmd, ixT, ↓ibT, ltT, ltF, leT, leF, eqT, eqF, nM_ltT, nM_ltF, nM_leT, nM_leF, nM_eqF, nM_eqF', nbT0, nbT1, oI_s, oI_n, natF, natT, nltT, nltF, nleT, nleF, ↓reduceIte, lgc, not_true_eq_false, not_false_eq_true, or_false, false_or, or_true, true_or, and_true, true_and, and_false, false_and, ne_eq, eq_self, or_self, and_self]
  have f125 : u1.1 174 125 = nM := by
    rw [← e1]
    simp (disch := first | omega | decide) only [↓neg1, nlit, rI, rL, rI2, rL1, nI_add, pk_mul, sbT, dvT, nmd, ixT, ↓ibT, ltT, ltF, leT, leF, eqT, eqF, nM_ltT, nM_ltF, nM_leT, nM_leF, nM_eqF, nM_eqF', nbT0, nbT1, oI_s, oI_n, natF, natT, nltT, nltF, nleT, nleF, ↓reduceIte, lgc, not_true_eq_false, not_false_eq_true, or_false, false_or, or_true, true_or, and_true, true_and, and_false, false_and, ne_eq, eq_self, or_self, and_self]
  have f126 : u1.1 174 126 = nM := by
    rw [← e1]
    simp (disch := first | omega | decide) only [↓neg1, nlit, rI, rL, rI2, rL1, nI_add, pk_mul, sbT, dvT, nmd, ixT, ↓ibT, ltT, ltF, leT, leF, eqT, eqF, nM_ltT, nM_ltF, nM_leT, nM_leF, nM_eqF, nM_eqF', nbT0, nbT1, oI_s, oI_n, natF, natT, nltT, nltF, nleT, nleF, ↓reduceIte, lgc, not_true_eq_false, not_false_eq_true, or_false, false_or, or_true, true_or, and_true, true_and, and_false, false_and, ne_eq, eq_self, or_self, and_self]
  have f127 : u1.1 174 127 = nM := by
    rw [← e1]
    simp (disch := first | omega | decide) only [↓neg1, nlit, rI, rL, rI2, rL1, nI_add, pk_mul, sbT, dvT, nmd, ixT, ↓ibT, ltT, ltF, leT, leF, eqT, eqF, nM_ltT, nM_ltF, nM_leT, nM_leF, nM_eqF, nM_eqF', nbT0, nbT1, oI_s, oI_n, natF, natT, nltT, nltF, nleT, nleF, ↓reduceIte, lgc, not_true_eq_false, not_false_eq_true, or_false, false_or, or_true, true_or, and_true, true_and, and_false, false_and, ne_eq, eq_self, or_self, and_self]
  have f128 : u1.1 174 128 = nI 0 := by
    rw [← e1]
    simp (disch := first | omega | decide) only [↓neg1, nlit, rI, rL, rI2, rL1, nI_add, pk_mul, sbT, dvT, nmd, ixT, ↓ibT, ltT, ltF, leT, leF, eqT, eqF, nM_ltT, nM_ltF, nM_leT, nM_leF, nM_eqF, nM_eqF', nbT0, nbT1, oI_s, oI_n, natF, natT, nltT, nltF, nleT, nleF, ↓reduceIte, lgc, not_true_eq_false, not_false_eq_true, or_false, false_or, or_true, true_or, and_true, true_and, and_false, false_and, ne_eq, eq_self, or_self, and_self]
  have f129 : u1.1 174 129 = nI 0 := by
    rw [← e1]
    simp (disch := first | omega | decide) only [↓neg1, nlit, rI, rL, rI2, rL1, nI_add, pk_mul, sbT, dvT, nmd, ixT, ↓ibT, ltT, ltF, leT, leF, eqT, eqF, nM_ltT, nM_ltF, nM_leT, nM_leF, nM_eqF, nM_eqF', nbT0, nbT1, oI_s, oI_n, natF, natT, nltT, nltF, nleT, nleF, ↓reduceIte, lgc, not_true_eq_false, not_false_eq_true, or_false, false_or, or_true, true_or, and_true, true_and, and_false, false_and, ne_eq, eq_self, or_self, and_self]
  clear e1
  have wB : ∀ {x y : cS} {r : Nat → Nat → Bool}, sx r x y → (∀ a i, qBr a i = false → r a i = false) → sx qBr x y := fun h hr => sx_wide h hr
  have s1' : sx qBr u u1 := sx_wide s1 (fun a i z => by
    have := of_decide_eq_false z
    exact decide_eq_false (by omega))
  refine wpc (K' := fun w : cS => (∀ k, k < 96 → w.1 258 k = u.1 205 k ∧ ∀ o, o < ocn m → w.1 259 (4 * k + o) = m.1 188 o) ∧ sx (fun a i => decide (a = 258 ∨ a = 259)) u1 w) (whl_cnt (fun k (st : Int32 × cS) => st.1 = nI k ∧ (∀ j, j < k → st.2.1 258 j = u.1 205 j ∧ ∀ o, o < ocn m → st.2.1 259 (4 * j + o) = m.1 188 o) ∧ sx (fun a i => decide (a = 258 ∨ a = 259)) u1 st.2) 96 ?_ ?_ (by omega) ⟨rfl, fun j hj => by omega, sx_rfl⟩) ?_
  · rintro k ⟨k0, w⟩ hk ⟨g1, g2, g3⟩
    dsimp only at g1 g2 g3
    subst g1
    dsimp only
    refine wpf (by simp (disch := first | omega | decide) only [↓neg1, nlit, rI, rL, rI2, rL1, nI_add, pk_mul, sbT, dvT, nmd, ixT, ↓ibT, ltT, ltF, leT, leF, eqT, eqF, nM_ltT, nM_ltF, nM_leT, nM_leF, nM_eqF, nM_eqF', nbT0, nbT1, oI_s, oI_n, natF, natT, nltT, nltF, nleT, nleF, ↓reduceIte, lgc, not_true_eq_false, not_false_eq_true, or_false, false_or, or_true, true_or, and_true, true_and, and_false, false_and, ne_eq, eq_self, or_self, and_self]) (wpt (by simp (disch := first | omega | decide) only [↓neg1, nlit, rI, rL, rI2, rL1, nI_add, pk_mul, sbT, dvT, nmd, ixT, ↓ibT, ltT, ltF, leT, leF, eqT, eqF, nM_ltT, nM_ltF, nM_leT, nM_leF, nM_eqF, nM_eqF', nbT0, nbT1, oI_s, oI_n, natF, natT, nltT, nltF, nleT, nleF, ↓reduceIte, lgc, not_true_eq_false, not_false_eq_true, or_false, false_or, or_true, true_or, and_true, true_and, and_false, false_and, ne_eq, eq_self, or_self, and_self]) (wpt (by simp (disch := first | omega | decide) only [↓neg1, nlit, rI, rL, rI2, rL1, nI_add, pk_mul, sbT, dvT, nmd, ixT, ↓ibT, ltT, ltF, leT, leF, eqT, eqF, nM_ltT, nM_ltF, nM_leT, nM_leF, nM_eqF, nM_eqF', nbT0, nbT1, oI_s, oI_n, natF, natT, nltT, nltF, nleT, nleF, ↓reduceIte, lgc, not_true_eq_false, not_false_eq_true, or_false, false_or, or_true, true_or, and_true, true_and, and_false, false_and, ne_eq, eq_self, or_self, and_self]) ?_))
    rw [ix_n (by omega), (g3.1 205 k rfl).trans (s1.1 205 k rfl)]
    refine wpl ?_
    have hx0 : ∀ i, (pI w 258 k (u.1 205 k)).1 259 i = w.1 259 i := fun i => by rw [rI, if_neg (by omega)]
    refine wpc (K' := fun x : cS => (x.1 258 k = u.1 205 k ∧ ∀ o, o < ocn m → x.1 259 (4 * k + o) = m.1 188 o) ∧ sx (fun a i => decide ((a = 258 ∧ i = k) ∨ (a = 259 ∧ 4 * k ≤ i ∧ i < 4 * k + 4))) w x) (whl_cnt (fun o (st : Int32 × cS) => st.1 = nI o ∧ st.2.1 258 k = u.1 205 k ∧ (∀ o', o' < o → st.2.1 259 (4 * k + o') = m.1 188 o') ∧ sx (fun a i => decide ((a = 258 ∧ i = k) ∨ (a = 259 ∧ 4 * k ≤ i ∧ i < 4 * k + 4))) w st.2) (ocn m) ?_ ?_ (by omega) ⟨rfl, by rw [rI, if_pos ⟨rfl, rfl⟩], fun o ho => by omega, sx_pI sx_rfl (decide_eq_true (by omega))⟩) (fun x hx => wpl ⟨nI_1 _, fun j hj => ?_, sx_trans g3 (sx_wide hx.2 (fun a i z => ?_))⟩)
    · rintro o ⟨o0, x⟩ ho ⟨q1, q2, q3, q4⟩
      dsimp only at q1 q2 q3 q4
      subst q1
      dsimp only
      have hx15 : x.1 174 15 = nI (ocn m) := (q4.1 174 15 (decide_eq_false (by omega))).trans ((g3.1 174 15 rfl).trans ((s1.1 174 15 rfl).trans ((hA.2.2.1 15 rfl).trans hO.2.2.1)))
      have hx188 : x.1 188 o = m.1 188 o := (q4.1 188 o (decide_eq_false (by omega))).trans ((g3.1 188 o rfl).trans ((s1.1 188 o rfl).trans (hA.1 188 o rfl)))
      rw [hx15]
      refine wpf (by simp (disch := first | omega | decide) only [↓neg1, nlit, rI, rL, rI2, rL1, nI_add, pk_mul, sbT, dvT, nmd, ixT, ↓ibT, ltT, ltF, leT, leF, eqT, eqF, nM_ltT, nM_ltF, nM_leT, nM_leF, nM_eqF, nM_eqF', nbT0, nbT1, oI_s, oI_n, natF, natT, nltT, nltF, nleT, nleF, ↓reduceIte, lgc, not_true_eq_false, not_false_eq_true, or_false, false_or, or_true, true_or, and_true, true_and, and_false, false_and, ne_eq, eq_self, or_self, and_self]) (wpt (by simp (disch := first | omega | decide) only [↓neg1, nlit, rI, rL, rI2, rL1, nI_add, pk_mul, sbT, dvT, nmd, ixT, ↓ibT, ltT, ltF, leT, leF, eqT, eqF, nM_ltT, nM_ltF, nM_leT, nM_leF, nM_eqF, nM_eqF', nbT0, nbT1, oI_s, oI_n, natF, natT, nltT, nltF, nleT, nleF, ↓reduceIte, lgc, not_true_eq_false, not_false_eq_true, or_false, false_or, or_true, true_or, and_true, true_and, and_false, false_and, ne_eq, eq_self, or_self, and_self]) ?_)
      rw [show (4 : Int32) * nI k + nI o = nI (4 * k + o) by rw [show (4 : Int32) = nI 4 from rfl, pk_mul, nI_add]]
      refine wpt (by simp (disch := first | omega | decide) only [↓neg1, nlit, rI, rL, rI2, rL1, nI_add, pk_mul, sbT, dvT, nmd, ixT, ↓ibT, ltT, ltF, leT, leF, eqT, eqF, nM_ltT, nM_ltF, nM_leT, nM_leF, nM_eqF, nM_eqF', nbT0, nbT1, oI_s, oI_n, natF, natT, nltT, nltF, nleT, nleF, ↓reduceIte, lgc, not_true_eq_false, not_false_eq_true, or_false, false_or, or_true, true_or, and_true, true_and, and_false, false_and, ne_eq, eq_self, or_self, and_self]) ?_
      rw [ix_n (by omega), ix_n (by omega), hx188]
      refine wpl (wpl ⟨nI_1 _, ?_, fun o' ho' => ?_, sx_pI q4 (decide_eq_true (by omega))⟩)
      · dsimp only
        rw [rI, if_neg (by omega)]
        exact q2
      · dsimp only
        rw [rI]
        by_cases e : o' = o
        · rw [if_pos ⟨rfl, by omega⟩, e]
        · rw [if_neg (by omega)]
          exact q3 o' (by omega)
    · rintro ⟨o0, x⟩ ⟨q1, q2, q3, q4⟩
      dsimp only at q1 q2 q3 q4
      subst q1
      dsimp only
      have hx15 : x.1 174 15 = nI (ocn m) := (q4.1 174 15 (decide_eq_false (by omega))).trans ((g3.1 174 15 rfl).trans ((s1.1 174 15 rfl).trans ((hA.2.2.1 15 rfl).trans hO.2.2.1)))
      rw [hx15]
      exact wpt (by simp (disch := first | omega | decide) only [↓neg1, nlit, rI, rL, rI2, rL1, nI_add, pk_mul, sbT, dvT, nmd, ixT, ↓ibT, ltT, ltF, leT, leF, eqT, eqF, nM_ltT, nM_ltF, nM_leT, nM_leF, nM_eqF, nM_eqF', nbT0, nbT1, oI_s, oI_n, natF, natT, nltT, nltF, nleT, nleF, ↓reduceIte, lgc, not_true_eq_false, not_false_eq_true, or_false, false_or, or_true, true_or, and_true, true_and, and_false, false_and, ne_eq, eq_self, or_self, and_self]) ⟨⟨q2, q3⟩, q4⟩
    · dsimp only
      by_cases e : j = k
      · rw [e]
        exact hx.1
      · obtain ⟨p1, p2⟩ := g2 j (by omega)
        exact ⟨(hx.2.1 258 j (decide_eq_false (by omega))).trans p1, fun o ho => (hx.2.1 259 _ (decide_eq_false (by omega))).trans (p2 o ho)⟩
    · have := of_decide_eq_false z
      exact decide_eq_false (by omega)
  · rintro ⟨k0, w⟩ ⟨g1, g2, g3⟩
    dsimp only at g1 g2 g3
    subst g1
    exact wpt (by dsimp only; decide) ⟨g2, g3⟩
  intro x hx
  have x1 := hx.1
  have x2 := hx.2
  clear hx
  have sx1 : sx qBr u x := sx_trans s1' (sx_wide x2 (fun a i z => by
    have := of_decide_eq_false z
    exact decide_eq_false (by omega)))
  refine wpe h421 ?_
  obtain ⟨f00, hf00⟩ : ∃ f0 : Nat, f0 = 0 := ⟨0, rfl⟩
  have hx113 : x.1 174 113 = nI f00 := by
    rw [hf00]
    exact (x2.1 174 113 rfl).trans f113
  refine wpc (e466 (M := M) (by omega) (by omega) (AG_sx hA sx1 nP_Br) hO hx113) (fun y hy => ?_)
  obtain ⟨y1, y2, y3, y4, y5, y6⟩ := hy
  subst hf00
  have sy : sx qBr u y := sx_trans sx1 (sx_wide y6 (fun a i z => by
    have := of_decide_eq_false z
    exact decide_eq_false (by omega)))
  have hy207 : ∀ {z : cS}, sx qBr u z → z.1 207 M = nI (pM m M) := fun hz => (hz.1 207 M (decide_eq_false (by omega))).trans ((hA.1 207 M rfl).trans hpm.2.2.2.2.1)
  refine wpc (K' := fun z : cS => (∀ s, s < 16 → z.1 256 s = (if s < pM m M then u.1 251 s else 0)) ∧ sx (fun a i => decide (a = 256)) y z) (whl_cnt (fun k (st : Int32 × cS) => st.1 = nI k ∧ (∀ s, s < 16 → st.2.1 256 s = (if s < k then u.1 251 s else 0)) ∧ sx (fun a i => decide (a = 256)) y st.2) (pM m M) ?_ ?_ (by omega) ⟨rfl, fun s hs => ?_, sx_rfl⟩) ?_
  · rintro k ⟨k0, z⟩ hk ⟨g1, g2, g3⟩
    dsimp only at g1 g2 g3
    subst g1
    dsimp only
    have sz : sx qBr u z := sx_trans sy (sx_wide g3 (fun a i z => by
      have := of_decide_eq_false z
      exact decide_eq_false (by omega)))
    refine wpe h421 (wpt (by simp (disch := first | omega | decide) only [↓neg1, nlit, rI, rL, rI2, rL1, nI_add, pk_mul, sbT, dvT, nmd, ixT, ↓ibT, ltT, ltF, leT, leF, eqT, eqF, nM_ltT, nM_ltF, nM_leT, nM_leF, nM_eqF, nM_eqF', nbT0, nbT1, oI_s, oI_n, natF, natT, nltT, nltF, nleT, nleF, ↓reduceIte, lgc, not_true_eq_false, not_false_eq_true, or_false, false_or, or_true, true_or, and_true, true_and, and_false, false_and, ne_eq, eq_self, or_self, and_self]) ?_)
    rw [ix_n (by omega), hy207 sz]
    refine wpf (by simp (disch := first | omega | decide) only [↓neg1, nlit, rI, rL, rI2, rL1, nI_add, pk_mul, sbT, dvT, nmd, ixT, ↓ibT, ltT, ltF, leT, leF, eqT, eqF, nM_ltT, nM_ltF, nM_leT, nM_leF, nM_eqF, nM_eqF', nbT0, nbT1, oI_s, oI_n, natF, natT, nltT, nltF, nleT, nleF, ↓reduceIte, lgc, not_true_eq_false, not_false_eq_true, or_false, false_or, or_true, true_or, and_true, true_and, and_false, false_and, ne_eq, eq_self, or_self, and_self]) (wpt (by simp (disch := first | omega | decide) only [↓neg1, nlit, rI, rL, rI2, rL1, nI_add, pk_mul, sbT, dvT, nmd, ixT, ↓ibT, ltT, ltF, leT, leF, eqT, eqF, nM_ltT, nM_ltF, nM_leT, nM_leF, nM_eqF, nM_eqF', nbT0, nbT1, oI_s, oI_n, natF, natT, nltT, nltF, nleT, nleF, ↓reduceIte, lgc, not_true_eq_false, not_false_eq_true, or_false, false_or, or_true, true_or, and_true, true_and, and_false, false_and, ne_eq, eq_self, or_self, and_self]) (wpt (by simp (disch := first | omega | decide) only [↓neg1, nlit, rI, rL, rI2, rL1, nI_add, pk_mul, sbT, dvT, nmd, ixT, ↓ibT, ltT, ltF, leT, leF, eqT, eqF, nM_ltT, nM_ltF, nM_leT, nM_leF, nM_eqF, nM_eqF', nbT0, nbT1, oI_s, oI_n, natF, natT, nltT, nltF, nleT, nleF, ↓reduceIte, lgc, not_true_eq_false, not_false_eq_true, or_false, false_or, or_true, true_or, and_true, true_and, and_false, false_and, ne_eq, eq_self, or_self, and_self]) ?_))
    rw [ix_n (by omega), sz.1 251 k (decide_eq_false (by omega))]
    refine wpl (wpl ⟨nI_1 _, fun s hs => ?_, sx_pI g3 rfl⟩)
    dsimp only
    rw [rI]
    by_cases e : s = k
    · rw [if_pos ⟨rfl, e⟩, if_pos (by omega), e]
    · rw [if_neg (fun z => e z.2), g2 s hs]
      by_cases e2 : s < k
      · rw [if_pos e2, if_pos (by omega)]
      · rw [if_neg e2, if_neg (by omega)]
  · rintro ⟨k0, z⟩ ⟨g1, g2, g3⟩
    dsimp only at g1 g2 g3
    subst g1
    dsimp only
    have sz : sx qBr u z := sx_trans sy (sx_wide g3 (fun a i z => by
      have := of_decide_eq_false z
      exact decide_eq_false (by omega)))
    refine wpe h421 (wpt (by simp (disch := first | omega | decide) only [↓neg1, nlit, rI, rL, rI2, rL1, nI_add, pk_mul, sbT, dvT, nmd, ixT, ↓ibT, ltT, ltF, leT, leF, eqT, eqF, nM_ltT, nM_ltF, nM_leT, nM_leF, nM_eqF, nM_eqF', nbT0, nbT1, oI_s, oI_n, natF, natT, nltT, nltF, nleT, nleF, ↓reduceIte, lgc, not_true_eq_false, not_false_eq_true, or_false, false_or, or_true, true_or, and_true, true_and, and_false, false_and, ne_eq, eq_self, or_self, and_self]) ?_)
    rw [ix_n (by omega), hy207 sz]
    exact wpt (by simp (disch := first | omega | decide) only [↓neg1, nlit, rI, rL, rI2, rL1, nI_add, pk_mul, sbT, dvT, nmd, ixT, ↓ibT, ltT, ltF, leT, leF, eqT, eqF, nM_ltT, nM_ltF, nM_leT, nM_leF, nM_eqF, nM_eqF', nbT0, nbT1, oI_s, oI_n, natF, natT, nltT, nltF, nleT, nleF, ↓reduceIte, lgc, not_true_eq_false, not_false_eq_true, or_false, false_or, or_true, true_or, and_true, true_and, and_false, false_and, ne_eq, eq_self, or_self, and_self]) ⟨g2, g3⟩
  · rw [if_neg (by omega)]
    have := (y4 s hs).1
    rw [show 16 * 0 + s = s by omega] at this
    exact this
  · rintro z ⟨z1, z2⟩
    have sz : sx qBr u z := sx_trans sy (sx_wide z2 (fun a i z => by
      have := of_decide_eq_false z
      exact decide_eq_false (by omega)))
    have hz : ∀ i, i ≠ 113 → z.1 174 i = u1.1 174 i := fun i hi => (z2.1 174 i rfl).trans ((y6.1 174 i (decide_eq_false (by omega))).trans (x2.1 174 i rfl))
    refine ⟨⟨(hz 111 (by decide)).trans f111, (hz 112 (by decide)).trans f112, (z2.1 174 113 rfl).trans y5, (hz 121 (by decide)).trans f121, (hz 123 (by decide)).trans f123, (hz 124 (by decide)).trans f124, (hz 125 (by decide)).trans f125, (hz 126 (by decide)).trans f126, (hz 127 (by decide)).trans f127, (hz 128 (by decide)).trans f128, (hz 129 (by decide)).trans f129, (hz 0 (by decide)).trans f0, fun k hk => ?_, (z2.1 253 0 rfl).trans y1, (z2.1 254 0 rfl).trans y2, (z2.1 255 0 rfl).trans y3, fun s hs => ⟨z1 s hs, fun o ho => ?_⟩⟩, sz⟩
    · obtain ⟨p1, p2⟩ := x1 k hk
      exact ⟨(z2.1 258 k rfl).trans ((y6.1 258 k (decide_eq_false (by omega))).trans p1), fun o ho => (z2.1 259 _ rfl).trans ((y6.1 259 _ (decide_eq_false (by omega))).trans (p2 o ho))⟩
    · have := (y4 s hs).2 o ho
      rw [show 16 * 0 + s = s by omega] at this
      exact (z2.1 257 _ rfl).trans this
