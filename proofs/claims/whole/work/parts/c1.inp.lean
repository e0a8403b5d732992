/-! RUN: inputs; what an ACT takes and gives -/
def JI (c u : cS) : Prop := ∃ q, q ≤ 64 ∧ c.1 159 5 = nI q ∧ u.1 174 110 = nI q ∧ ∀ i, i < q → c.1 161 i = u.1 252 i
theorem cg_ok {sp dp n n0 n1 : Nat} (h1 : sp + n ≤ n0) (h2 : dp + n ≤ n1) (h3 : n0 < 2147483648) (h4 : n1 < 2147483648) : cg (nI sp) (nI dp) (nI n) n0 n1 := by
  refine ⟨?_, ?_, ?_, ?_, ?_⟩
  · exact Int32.not_lt.mpr (nI_pos' (by omega))
  · exact Int32.not_lt.mpr (nI_pos' (by omega))
  · exact Int32.not_lt.mpr (nI_pos' (by omega))
  · rw [ix_n (by omega), ix_n (by omega)]
    exact h1
  · rw [ix_n (by omega), ix_n (by omega)]
    exact h2
theorem take_c {n q : Nat} {c : cS} (h1 : 1 ≤ q) (h2 : q ≤ 64) (h5 : c.1 159 5 = nI q) : wp (d_298 n c) (fun r => r.1 = c.1 161 0 ∧ r.2.1 159 5 = nI (q - 1) ∧ (∀ i, i < q - 1 → r.2.1 161 i = c.1 161 (i + 1)) ∧ sx (fun a i => decide (a = 161 ∨ (a = 159 ∧ i = 5))) c r.2) := by
  unfold d_298
  have i0 : ix (0 : Int32) = 0 := by decide
  rw [h5, show nI q - 1 = nI (q - 1) from pk_sub (b := 1) h1]
  refine wpf (fun z => by
    have := (nI_eq (by omega) (by decide)).mp (show nI q = nI 0 from z)
    omega) (wpt (by decide) (wpl (wpl ?_)))
  have hq : (pI c 159 5 (nI (q - 1))).1 159 5 = nI (q - 1) := by
    rw [rI, if_pos ⟨rfl, rfl⟩]
  rw [hq]
  refine wpt (cg_ok (sp := 1) (dp := 0) (by omega) (by omega) (by decide) (by decide)) (wpl ⟨?_, ?_, fun i hi => ?_, ?_⟩)
  · show c.1 161 (ix 0) = _
    rw [i0]
  · exact hq
  · show va_cpy ((pI c 159 5 (nI (q - 1))).1 161) ((pI c 159 5 (nI (q - 1))).1 161) (ix (1 : Int32)) (ix (0 : Int32)) (ix (nI (q - 1))) i = _
    rw [i0, show ix (1 : Int32) = 1 by decide, ix_n (by omega)]
    unfold va_cpy
    rw [if_pos (by omega), rI, if_neg (by omega)]
    exact congrArg (c.1 161) (by omega)
  · refine ⟨fun a i z => ?_, fun a i z => rfl⟩
    have z := of_decide_eq_false z
    show (if a = 161 then va_cpy ((pI c 159 5 (nI (q - 1))).1 161) ((pI c 159 5 (nI (q - 1))).1 161) (ix (1 : Int32)) (ix (0 : Int32)) (ix (nI (q - 1))) else (pI c 159 5 (nI (q - 1))).1 a) i = _
    rw [if_neg (by omega), rI, if_neg (by omega)]
theorem take_r {n q : Nat} {u : cS} (hn : 1000 ≤ n) (h1 : 1 ≤ q) (h2 : q ≤ 64) (h5 : u.1 174 110 = nI q) : wp (d_471 n u) (fun r => r.1 = u.1 252 0 ∧ r.2.1 174 110 = nI (q - 1) ∧ (∀ i, i < q - 1 → r.2.1 252 i = u.1 252 (i + 1)) ∧ sx (fun a i => decide (a = 252 ∨ (a = 174 ∧ i = 110))) u r.2) := by
  unfold d_471
  have i0 : ix (0 : Int32) = 0 := by decide
  rw [h5, show nI q - 1 = nI (q - 1) from pk_sub (b := 1) h1]
  refine wpf (fun z => by
    have := (nI_eq (by omega) (by decide)).mp (show nI q = nI 0 from z)
    omega) (wpt (by decide) (wpl (wpl ?_)))
  have hq : (pI u 174 110 (nI (q - 1))).1 174 110 = nI (q - 1) := by
    rw [rI, if_pos ⟨rfl, rfl⟩]
  have hu : ∀ i, (pI u 174 110 (nI (q - 1))).1 252 i = u.1 252 i := fun i => by rw [rI, if_neg (by omega)]
  have su : sx (fun a i => decide (a = 252 ∨ (a = 174 ∧ i = 110))) u (pI u 174 110 (nI (q - 1))) := sx_pI sx_rfl rfl
  generalize pI u 174 110 (nI (q - 1)) = u1 at *
  refine wpc (K' := fun w : cS => w.1 174 110 = nI (q - 1) ∧ (∀ i, i < q - 1 → w.1 252 i = u.1 252 (i + 1)) ∧ sx (fun a i => decide (a = 252 ∨ (a = 174 ∧ i = 110))) u w) (whl_cnt (fun k (st : Int32 × cS) => st.1 = nI k ∧ st.2.1 174 110 = nI (q - 1) ∧ (∀ i, st.2.1 252 i = if i < k then u.1 252 (i + 1) else u.1 252 i) ∧ sx (fun a i => decide (a = 252 ∨ (a = 174 ∧ i = 110))) u st.2) (q - 1) ?_ ?_ (by omega) ⟨rfl, hq, fun i => by rw [if_neg (by omega)]; exact hu i, su⟩) (fun w hw => ⟨by show u.1 252 (ix 0) = _; rw [i0], hw⟩)
  · rintro k ⟨k0, w⟩ hk ⟨g1, g2, g3, g4⟩
    dsimp only at g1 g2 g3 g4
    subst g1
    dsimp only
    rw [g2, nI_1]
    refine wpf (by simp (disch := first | omega | decide) only [↓neg1, nlit, rI, rL, rI2, rL1, nI_add, pk_mul, sbT, dvT, nmd, ixT, ↓ibT, ltT, ltF, leT, leF, eqT, eqF, nM_ltT, nM_ltF, nM_leT, nM_leF, nM_eqF, nM_eqF', nbT0, nbT1, oI_s, oI_n, natF, natT, nltT, nltF, nleT, nleF, ↓reduceIte, lgc, not_true_eq_false, not_false_eq_true, or_false, false_or, or_true, true_or, and_true, true_and, and_false, false_and, ne_eq, eq_self, or_self, and_self]) (wpt (by simp (disch := first | omega | decide) only [↓neg1, nlit, rI, rL, rI2, rL1, nI_add, pk_mul, sbT, dvT, nmd, ixT, ↓ibT, ltT, ltF, leT, leF, eqT, eqF, nM_ltT, nM_ltF, nM_leT, nM_leF, nM_eqF, nM_eqF', nbT0, nbT1, oI_s, oI_n, natF, natT, nltT, nltF, nleT, nleF, ↓reduceIte, lgc, not_true_eq_false, not_false_eq_true, or_false, false_or, or_true, true_or, and_true, true_and, and_false, false_and, ne_eq, eq_self, or_self, and_self]) (wpt (by simp (disch := first | omega | decide) only [↓neg1, nlit, rI, rL, rI2, rL1, nI_add, pk_mul, sbT, dvT, nmd, ixT, ↓ibT, ltT, ltF, leT, leF, eqT, eqF, nM_ltT, nM_ltF, nM_leT, nM_leF, nM_eqF, nM_eqF', nbT0, nbT1, oI_s, oI_n, natF, natT, nltT, nltF, nleT, nleF, ↓reduceIte, lgc, not_true_eq_false, not_false_eq_true, or_false, false_or, or_true, true_or, and_true, true_and, and_false, false_and, ne_eq, eq_self, or_self, and_self]) ?_))
    rw [ix_n (by omega), ix_n (by omega), g3 (k + 1), if_neg (by omega)]
    refine wpl (wpl ⟨rfl, ?_, fun i => ?_, sx_pI g4 rfl⟩)
    · dsimp only
      rw [rI, if_neg (by omega)]
      exact g2
    · dsimp only
      rw [rI]
      by_cases e : i = k
      · rw [if_pos ⟨rfl, e⟩, if_pos (by omega), e]
      · rw [if_neg (fun z => e z.2), g3 i]
        by_cases e2 : i < k
        · rw [if_pos e2, if_pos (by omega)]
        · rw [if_neg e2, if_neg (by omega)]
  · rintro ⟨k0, w⟩ ⟨g1, g2, g3, g4⟩
    dsimp only at g1 g2 g3 g4
    subst g1
    dsimp only
    rw [g2]
    exact wpt (by simp (disch := first | omega | decide) only [↓neg1, nlit, rI, rL, rI2, rL1, nI_add, pk_mul, sbT, dvT, nmd, ixT, ↓ibT, ltT, ltF, leT, leF, eqT, eqF, nM_ltT, nM_ltF, nM_leT, nM_leF, nM_eqF, nM_eqF', nbT0, nbT1, oI_s, oI_n, natF, natT, nltT, nltF, nleT, nleF, ↓reduceIte, lgc, not_true_eq_false, not_false_eq_true, or_false, false_or, or_true, true_or, and_true, true_and, and_false, false_and, ne_eq, eq_self, or_self, and_self]) ⟨g2, fun i hi => by rw [g3 i, if_pos hi], g4⟩
theorem c_take {n : Nat} {c u : cS} (hn : 1000 ≤ n) (h : JI c u) : wp (d_298 n c) (fun r => wp (d_471 n u) (fun s => r.1 = s.1 ∧ JI r.2 s.2 ∧ sx (fun a i => decide (a = 161 ∨ (a = 159 ∧ i = 5))) c r.2 ∧ sx (fun a i => decide (a = 252 ∨ (a = 174 ∧ i = 110))) u s.2)) := by
  obtain ⟨q, q1, q2, q3, q4⟩ := h
  by_cases e : q = 0
  · unfold d_298 d_471
    refine wpt (by rw [q2, e]; rfl) ?_
    exact wpt (by rw [q3, e]; rfl) ⟨rfl, ⟨q, q1, q2, q3, q4⟩, sx_rfl, sx_rfl⟩
  refine wp_mono (take_c (by omega) q1 q2) (fun r hr => wp_mono (take_r hn (by omega) q1 q3) (fun s hs => ⟨?_, ⟨q - 1, by omega, hr.2.1, hs.2.1, fun i hi => ?_⟩, hr.2.2.2, hs.2.2.2⟩))
  · rw [hr.1, hs.1]
    exact q4 0 (by omega)
  · rw [hr.2.2.1 i hi, hs.2.2.1 i hi]
    exact q4 (i + 1) (by omega)
section TG
variable {n M i a : Nat} {c m u : cS}
theorem e417 (hA : AG m u) (hac : m.1 211 (40 * M + i) = nI (opn m (40 * M + i))) (hop : 14 ≤ opn m (40 * M + i) ∧ opn m (40 * M + i) ≤ 30) (hb : 40 * M + i < 3840) (hne : opn m (40 * M + i) ≠ 20) : d_417 n (nI (40 * M + i)) u = some (nI (tkn m (40 * M + i))) := by
  have p211 : u.1 211 (40 * M + i) = nI (opn m (40 * M + i)) := (hA.1 211 _ rfl).trans hac
  generalize 40 * M + i = b at *
  rcases op17 hop with e | e | e | e | e | e | e | e | e | e | e | e | e | e | e | e | e
  all_goals first
    | exact absurd e hne
    | (rw [tk_of e (by decide)]
       unfold d_417
       simp (disch := first | omega | decide) only [↓neg1, nlit, rI, rL, rI2, rL1, nI_add, pk_mul, sbT, dvT, nmd, ixT, ↓ibT, ltT, ltF, leT, leF, eqT, eqF, nM_ltT, nM_ltF, nM_leT, nM_leF, nM_eqF, nM_eqF', nbT0, nbT1, oI_s, oI_n, natF, natT, nltT, nltF, nleT, nleF, ↓reduceIte, lgc, not_true_eq_false, not_false_eq_true, or_false, false_or, or_true, true_or, and_true, true_and, and_false, false_and, ne_eq, eq_self, or_self, and_self, obs, ↓jn, ↓lt, ↓reduceIte, decide_true, decide_false, Bool.false_eq_true, Bool.and_true, Bool.and_false, Bool.true_and, Bool.false_and, Bool.or_false, Bool.false_or, Bool.or_true, Bool.true_or, p211, e]
       rfl)
theorem e418 (hA : AG m u) (hac : m.1 211 (40 * M + i) = nI (opn m (40 * M + i))) (hop : 14 ≤ opn m (40 * M + i) ∧ opn m (40 * M + i) ≤ 30) (hb : 40 * M + i < 3840) : d_418 n (nI (40 * M + i)) u = some (nI (gvn m (40 * M + i))) := by
  have p211 : u.1 211 (40 * M + i) = nI (opn m (40 * M + i)) := (hA.1 211 _ rfl).trans hac
  generalize 40 * M + i = b at *
  rcases op17 hop with e | e | e | e | e | e | e | e | e | e | e | e | e | e | e | e | e
  all_goals
    rw [gv_of e]
    unfold d_418
    simp (disch := first | omega | decide) only [↓neg1, nlit, rI, rL, rI2, rL1, nI_add, pk_mul, sbT, dvT, nmd, ixT, ↓ibT, ltT, ltF, leT, leF, eqT, eqF, nM_ltT, nM_ltF, nM_leT, nM_leF, nM_eqF, nM_eqF', nbT0, nbT1, oI_s, oI_n, natF, natT, nltT, nltF, nleT, nleF, ↓reduceIte, lgc, not_true_eq_false, not_false_eq_true, or_false, false_or, or_true, true_or, and_true, true_and, and_false, false_and, ne_eq, eq_self, or_self, and_self, obs, ↓jn, ↓lt, ↓reduceIte, decide_true, decide_false, Bool.false_eq_true, Bool.and_true, Bool.and_false, Bool.true_and, Bool.false_and, Bool.or_false, Bool.false_or, Bool.or_true, Bool.true_or, p211, e]
    rfl
theorem e165 (hR : opn m (40 * M + i) = 20 → c.1 122 a = nI (pM m (8 * xN m (40 * M + i) + yN m (40 * M + i)))) (h121 : c.1 121 a = nI (200 + opn m (40 * M + i))) (ha : a < 1024) (h20 : opn m (40 * M + i) = 20) : d_165 n (nI a) c = some (nI (tkn m (40 * M + i))) := by
  rw [tk_20 h20]
  have h122 := hR h20
  generalize 40 * M + i = b at *
  unfold d_165
  simp (disch := first | omega | decide) only [↓neg1, nlit, rI, rL, rI2, rL1, nI_add, pk_mul, sbT, dvT, nmd, ixT, ↓ibT, ltT, ltF, leT, leF, eqT, eqF, nM_ltT, nM_ltF, nM_leT, nM_leF, nM_eqF, nM_eqF', nbT0, nbT1, oI_s, oI_n, natF, natT, nltT, nltF, nleT, nleF, ↓reduceIte, lgc, not_true_eq_false, not_false_eq_true, or_false, false_or, or_true, true_or, and_true, true_and, and_false, false_and, ne_eq, eq_self, or_self, and_self, obs, ↓jn, ↓lt, ↓reduceIte, decide_true, decide_false, Bool.false_eq_true, Bool.and_true, Bool.and_false, Bool.true_and, Bool.false_and, Bool.or_false, Bool.false_or, Bool.or_true, Bool.true_or, h121, h20, h122]
end TG
