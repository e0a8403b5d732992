/-! READING: names that must be new among those of one CLASS or METHOD -/
section DUPS
variable {n i j N a f p : Nat} {c d u v w : cS} {K P : Nat → Nat} {V : Nat → Int64} {nm : Int64} {A B aM bM : Nat}
def dupL (n A B aM bM : Nat) (a1 v2 : Int32) (nm : Int64) (s7 : Int32 × cS) : Option ((Int32 × cS) ⊕ cS) :=
      if ib a1 aM then
      if (s7.2.1 A (ix a1)) ≤ s7.1 then
        some (.inr s7.2)
      else
        if ib ((8 * a1) + s7.1) bM then
        jn (fun p10 : cS =>
          lt (s7.1 + 1 : Int32) (fun v12 =>
          some (.inl (v12, p10))))
        (fun j60 =>
        if (lg_cmp (s7.2.2 B (ix ((8 * a1) + s7.1))) nm) = 0 then
          if ib v2 4001 then
          Option.bind (d_97 n 3 (s7.2.1 179 (ix v2)) s7.2) (fun r15 =>
          j60 r15)
          else none
        else
          j60 s7.2)
        else none
      else none
/-- where the name stands already -/
def dpS (v : cS) (B a f : Nat) (nm : Int64) : Option Nat := ff (fun j => decide (v.2 B (8 * a + j) = nm)) f
theorem dpl_r (hn : 100 ≤ n) (ha : a < aM) (haM : aM ≤ 1000) (hbM : 8 * aM ≤ bM) (hb2 : bM ≤ 10000) (hf : f ≤ 8) (hA : A ≠ 174) (hc : v.1 A a = nI f) (hi : i ≤ 4000) (h9 : v.1 179 i = nI p) (h13 : v.1 174 13 = nI 0) : whl (dupL n A B aM bM (nI a) (nI i) nm) n (0, v) = some (if (dpS v B a f nm).isSome then flt v 3 (nI p) else v) := by
  have hia : ib (nI a) aM := ib_n ha (by omega)
  have ea : ix (nI a) = a := ix_n (by omega)
  have e8 : ∀ j, (8 : Int32) * nI a + nI j = nI (8 * a + j) := fun j => by rw [show (8 : Int32) = nI 8 from rfl, pk_mul, nI_add]
  have f1 := flt_at (u := v) (a := 3) (f := nI p)
  refine eq_wp (whl_cnt (fun j (st : Int32 × cS) => st.1 = nI j ∧ st.2 = if (dpS v B a j nm).isSome then flt v 3 (nI p) else v) f ?_ ?_ (by omega) ⟨rfl, rfl⟩)
  · rintro j ⟨q, w⟩ hj ⟨g1, g2⟩
    dsimp only at g1 g2
    subst g1
    have hw : w.1 A a = nI f ∧ w.2 B (8 * a + j) = v.2 B (8 * a + j) := by
      rw [g2]
      split
      · exact ⟨(f1.2.2.2 A a (by omega)).trans hc, rfl⟩
      · exact ⟨hc, rfl⟩
    unfold dupL
    dsimp only
    rw [ea, hw.1, e8, show ix (nI (8 * a + j)) = 8 * a + j from ix_n (by omega), hw.2]
    refine wpt hia (wpf (by simp (disch := first | omega | decide) only [↓neg1, nlit, rI, rL, rI2, rL1, nI_add, pk_mul, sbT, dvT, nmd, ixT, ↓ibT, ltT, ltF, leT, leF, eqT, eqF, nM_ltT, nM_ltF, nM_leT, nM_leF, nM_eqF, nM_eqF', nbT0, nbT1, oI_s, oI_n, natF, natT, nltT, nltF, nleT, nleF, ↓reduceIte, lgc, not_true_eq_false, not_false_eq_true, or_false, false_or, or_true, true_or, and_true, true_and, and_false, false_and, ne_eq, eq_self, or_self, and_self]) (wpt (ib_n (by omega) (by omega)) (wpj ?_)))
    have hs : dpS v B a (j + 1) nm = match dpS v B a j nm with
        | some l => some l
        | none => if decide (v.2 B (8 * a + j) = nm) = true then some j else none := ff_sc
    by_cases e : v.2 B (8 * a + j) = nm
    · refine wpt (by rw [e]; exact lgc.mpr rfl) (wpt (ib_n (by omega) (by decide)) ?_)
      rw [show ix (nI i) = i from ix_n (by omega)]
      cases ed : dpS v B a j nm with
      | some l =>
        rw [ed, if_pos (show (some l).isSome = true from rfl)] at g2
        rw [ed] at hs
        have w13 : w.1 174 13 = nI 1 := by rw [g2]; exact f1.1
        refine wpe (e97w w13) (wpl ⟨nI_1 j, ?_⟩)
        rw [hs]
        exact g2
      | none =>
        rw [ed, if_neg (by decide)] at g2
        rw [ed] at hs
        subst g2
        rw [h9]
        refine wpe (e97 h13) (wpl ⟨nI_1 j, ?_⟩)
        show _ = if (dpS w B a (j + 1) nm).isSome = true then flt w 3 (nI p) else w
        rw [hs]
        dsimp only
        rw [if_pos (decide_eq_true e), if_pos (show (some j).isSome = true from rfl)]
    · refine wpf (fun z => e (lgc.mp z)) (wpl ⟨nI_1 j, ?_⟩)
      show w = _
      rw [hs, g2]
      cases ed : dpS v B a j nm with
      | some l => rfl
      | none =>
        dsimp only
        rw [if_neg (show ¬ decide (v.2 B (8 * a + j) = nm) = true by rw [decide_eq_false e]; decide)]
  · rintro ⟨q, w⟩ ⟨g1, g2⟩
    dsimp only at g1 g2
    subst g1
    have hw : w.1 A a = nI f := by
      rw [g2]
      split
      · exact (f1.2.2.2 A a (by omega)).trans hc
      · exact hc
    unfold dupL
    dsimp only
    rw [ea, hw]
    exact wpt hia (wpt (by simp (disch := first | omega | decide) only [↓neg1, nlit, rI, rL, rI2, rL1, nI_add, pk_mul, sbT, dvT, nmd, ixT, ↓ibT, ltT, ltF, leT, leF, eqT, eqF, nM_ltT, nM_ltF, nM_leT, nM_leF, nM_eqF, nM_eqF', nbT0, nbT1, oI_s, oI_n, natF, natT, nltT, nltF, nleT, nleF, ↓reduceIte, lgc, not_true_eq_false, not_false_eq_true, or_false, false_or, or_true, true_or, and_true, true_and, and_false, false_and, ne_eq, eq_self, or_self, and_self]) (wp_of rfl g2))
end DUPS
section NEWN
variable {n i j N a f p L : Nat} {c d u v w : cS} {K P : Nat → Nat} {V : Nat → Int64} {nm : Int64} {A B aM bM : Nat}
theorem s253 (hn : 100 ≤ n) (ha : a < 12) (hf : f ≤ 8) (h1 : c.1 14 a = nI f) (h2 : ∀ j, j < f → c.2 15 (a * 8 + j) = u.2 204 (8 * a + j)) : d_253 n (nI a) nm c = some (oI (dpS u 204 a f nm)) := by
  unfold d_253
  refine bwf (fun k => nI k) (Sum.inl ()) (fun k => Sum.inr (nI k)) (fun k => decide (u.2 204 (8 * a + k) = nm)) (cnt := f) (by omega) rfl ?_ (fun j hj => ?_) ?_
  · simp (disch := first | omega | decide) only [↓neg1, nlit, rI, rL, rI2, rL1, nI_add, pk_mul, sbT, dvT, nmd, ixT, ↓ibT, ltT, ltF, leT, leF, eqT, eqF, nM_ltT, nM_ltF, nM_leT, nM_leF, nM_eqF, nM_eqF', nbT0, nbT1, oI_s, oI_n, natF, natT, nltT, nltF, nleT, nleF, ↓reduceIte, lgc, not_true_eq_false, not_false_eq_true, or_false, false_or, or_true, true_or, and_true, true_and, and_false, false_and, ne_eq, eq_self, or_self, and_self, obs, ↓jn, ↓lt, ↓reduceIte, decide_true, decide_false, Bool.false_eq_true, Bool.and_true, Bool.and_false, Bool.true_and, Bool.false_and, Bool.or_false, Bool.false_or, Bool.or_true, Bool.true_or, h1]
  · have h2 := h2 j hj
    by_cases hv : u.2 204 (8 * a + j) = nm
    · simp (disch := first | omega | decide) only [↓neg1, nlit, rI, rL, rI2, rL1, nI_add, pk_mul, sbT, dvT, nmd, ixT, ↓ibT, ltT, ltF, leT, leF, eqT, eqF, nM_ltT, nM_ltF, nM_leT, nM_leF, nM_eqF, nM_eqF', nbT0, nbT1, oI_s, oI_n, natF, natT, nltT, nltF, nleT, nleF, ↓reduceIte, lgc, not_true_eq_false, not_false_eq_true, or_false, false_or, or_true, true_or, and_true, true_and, and_false, false_and, ne_eq, eq_self, or_self, and_self, obs, ↓jn, ↓lt, ↓reduceIte, decide_true, decide_false, Bool.false_eq_true, Bool.and_true, Bool.and_false, Bool.true_and, Bool.false_and, Bool.or_false, Bool.false_or, Bool.or_true, Bool.true_or, h1, h2, hv]
    · simp (disch := first | omega | decide) only [↓neg1, nlit, rI, rL, rI2, rL1, nI_add, pk_mul, sbT, dvT, nmd, ixT, ↓ibT, ltT, ltF, leT, leF, eqT, eqF, nM_ltT, nM_ltF, nM_leT, nM_leF, nM_eqF, nM_eqF', nbT0, nbT1, oI_s, oI_n, natF, natT, nltT, nltF, nleT, nleF, ↓reduceIte, lgc, not_true_eq_false, not_false_eq_true, or_false, false_or, or_true, true_or, and_true, true_and, and_false, false_and, ne_eq, eq_self, or_self, and_self, obs, ↓jn, ↓lt, ↓reduceIte, decide_true, decide_false, Bool.false_eq_true, Bool.and_true, Bool.and_false, Bool.true_and, Bool.false_and, Bool.or_false, Bool.false_or, Bool.or_true, Bool.true_or, h1, h2, hv]
  · unfold dpS
    cases ff _ _ <;> rfl
theorem s159 (hn : 100 ≤ n) (ha : a < 12) (hf : f ≤ 8) (h1 : c.1 17 a = nI f) (h2 : ∀ j, j < f → c.2 115 (a * 8 + j) = u.2 206 (8 * a + j)) : d_159 n (nI a) nm c = some (match dpS u 206 a f nm with | some j => nI (a * 8 + j) | none => nM) := by
  unfold d_159
  refine bwf (fun k => nI k) (Sum.inl ()) (fun k => Sum.inr (nI k)) (fun k => decide (u.2 206 (8 * a + k) = nm)) (cnt := f) (by omega) rfl ?_ (fun j hj => ?_) ?_
  · simp (disch := first | omega | decide) only [↓neg1, nlit, rI, rL, rI2, rL1, nI_add, pk_mul, sbT, dvT, nmd, ixT, ↓ibT, ltT, ltF, leT, leF, eqT, eqF, nM_ltT, nM_ltF, nM_leT, nM_leF, nM_eqF, nM_eqF', nbT0, nbT1, oI_s, oI_n, natF, natT, nltT, nltF, nleT, nleF, ↓reduceIte, lgc, not_true_eq_false, not_false_eq_true, or_false, false_or, or_true, true_or, and_true, true_and, and_false, false_and, ne_eq, eq_self, or_self, and_self, obs, ↓jn, ↓lt, ↓reduceIte, decide_true, decide_false, Bool.false_eq_true, Bool.and_true, Bool.and_false, Bool.true_and, Bool.false_and, Bool.or_false, Bool.false_or, Bool.or_true, Bool.true_or, h1]
  · have h2 := h2 j hj
    by_cases hv : u.2 206 (8 * a + j) = nm
    · simp (disch := first | omega | decide) only [↓neg1, nlit, rI, rL, rI2, rL1, nI_add, pk_mul, sbT, dvT, nmd, ixT, ↓ibT, ltT, ltF, leT, leF, eqT, eqF, nM_ltT, nM_ltF, nM_leT, nM_leF, nM_eqF, nM_eqF', nbT0, nbT1, oI_s, oI_n, natF, natT, nltT, nltF, nleT, nleF, ↓reduceIte, lgc, not_true_eq_false, not_false_eq_true, or_false, false_or, or_true, true_or, and_true, true_and, and_false, false_and, ne_eq, eq_self, or_self, and_self, obs, ↓jn, ↓lt, ↓reduceIte, decide_true, decide_false, Bool.false_eq_true, Bool.and_true, Bool.and_false, Bool.true_and, Bool.false_and, Bool.or_false, Bool.false_or, Bool.or_true, Bool.true_or, h1, h2, hv]
    · simp (disch := first | omega | decide) only [↓neg1, nlit, rI, rL, rI2, rL1, nI_add, pk_mul, sbT, dvT, nmd, ixT, ↓ibT, ltT, ltF, leT, leF, eqT, eqF, nM_ltT, nM_ltF, nM_leT, nM_leF, nM_eqF, nM_eqF', nbT0, nbT1, oI_s, oI_n, natF, natT, nltT, nltF, nleT, nleF, ↓reduceIte, lgc, not_true_eq_false, not_false_eq_true, or_false, false_or, or_true, true_or, and_true, true_and, and_false, false_and, ne_eq, eq_self, or_self, and_self, obs, ↓jn, ↓lt, ↓reduceIte, decide_true, decide_false, Bool.false_eq_true, Bool.and_true, Bool.and_false, Bool.true_and, Bool.false_and, Bool.or_false, Bool.false_or, Bool.or_true, Bool.true_or, h1, h2, hv]
  · unfold dpS
    cases ff _ _ with
    | none => rfl
    | some j =>
      show some (nI a * 8 + nI j) = _
      rw [show (8 : Int32) = nI 8 from rfl, pk_mul, nI_add]
theorem s161 (hn : 100 ≤ n) (ha : a < 96) (hf : f ≤ 8) (h1 : c.1 117 a = nI f) (h2 : ∀ j, j < f → c.2 118 (a * 8 + j) = u.2 209 (8 * a + j)) : d_161 n (nI a) nm c = some (oI (dpS u 209 a f nm)) := by
  unfold d_161
  refine bwf (fun k => nI k) (Sum.inl ()) (fun k => Sum.inr (nI k)) (fun k => decide (u.2 209 (8 * a + k) = nm)) (cnt := f) (by omega) rfl ?_ (fun j hj => ?_) ?_
  · simp (disch := first | omega | decide) only [↓neg1, nlit, rI, rL, rI2, rL1, nI_add, pk_mul, sbT, dvT, nmd, ixT, ↓ibT, ltT, ltF, leT, leF, eqT, eqF, nM_ltT, nM_ltF, nM_leT, nM_leF, nM_eqF, nM_eqF', nbT0, nbT1, oI_s, oI_n, natF, natT, nltT, nltF, nleT, nleF, ↓reduceIte, lgc, not_true_eq_false, not_false_eq_true, or_false, false_or, or_true, true_or, and_true, true_and, and_false, false_and, ne_eq, eq_self, or_self, and_self, obs, ↓jn, ↓lt, ↓reduceIte, decide_true, decide_false, Bool.false_eq_true, Bool.and_true, Bool.and_false, Bool.true_and, Bool.false_and, Bool.or_false, Bool.false_or, Bool.or_true, Bool.true_or, h1]
  · have h2 := h2 j hj
    by_cases hv : u.2 209 (8 * a + j) = nm
    · simp (disch := first | omega | decide) only [↓neg1, nlit, rI, rL, rI2, rL1, nI_add, pk_mul, sbT, dvT, nmd, ixT, ↓ibT, ltT, ltF, leT, leF, eqT, eqF, nM_ltT, nM_ltF, nM_leT, nM_leF, nM_eqF, nM_eqF', nbT0, nbT1, oI_s, oI_n, natF, natT, nltT, nltF, nleT, nleF, ↓reduceIte, lgc, not_true_eq_false, not_false_eq_true, or_false, false_or, or_true, true_or, and_true, true_and, and_false, false_and, ne_eq, eq_self, or_self, and_self, obs, ↓jn, ↓lt, ↓reduceIte, decide_true, decide_false, Bool.false_eq_true, Bool.and_true, Bool.and_false, Bool.true_and, Bool.false_and, Bool.or_false, Bool.false_or, Bool.or_true, Bool.true_or, h1, h2, hv]
    · simp (disch := first | omega | decide) only [↓neg1, nlit, rI, rL, rI2, rL1, nI_add, pk_mul, sbT, dvT, nmd, ixT, ↓ibT, ltT, ltF, leT, leF, eqT, eqF, nM_ltT, nM_ltF, nM_leT, nM_leF, nM_eqF, nM_eqF', nbT0, nbT1, oI_s, oI_n, natF, natT, nltT, nltF, nleT, nleF, ↓reduceIte, lgc, not_true_eq_false, not_false_eq_true, or_false, false_or, or_true, true_or, and_true, true_and, and_false, false_and, ne_eq, eq_self, or_self, and_self, obs, ↓jn, ↓lt, ↓reduceIte, decide_true, decide_false, Bool.false_eq_true, Bool.and_true, Bool.and_false, Bool.true_and, Bool.false_and, Bool.or_false, Bool.false_or, Bool.or_true, Bool.true_or, h1, h2, hv]
  · unfold dpS
    cases ff _ _ <;> rfl
theorem s407 (hn : 100 ≤ n) (ha : a < 96) (hf : f ≤ 8) (h1 : u.1 208 a = nI f) : d_407 n (nI a) nm u = some (oI (dpS u 209 a f nm)) := by
  unfold d_407
  refine bwf (fun k => nI k) (Sum.inl ()) (fun k => Sum.inr (nI k)) (fun k => decide (u.2 209 (8 * a + k) = nm)) (cnt := f) (by omega) rfl ?_ (fun j hj => ?_) ?_
  · simp (disch := first | omega | decide) only [↓neg1, nlit, rI, rL, rI2, rL1, nI_add, pk_mul, sbT, dvT, nmd, ixT, ↓ibT, ltT, ltF, leT, leF, eqT, eqF, nM_ltT, nM_ltF, nM_leT, nM_leF, nM_eqF, nM_eqF', nbT0, nbT1, oI_s, oI_n, natF, natT, nltT, nltF, nleT, nleF, ↓reduceIte, lgc, not_true_eq_false, not_false_eq_true, or_false, false_or, or_true, true_or, and_true, true_and, and_false, false_and, ne_eq, eq_self, or_self, and_self, obs, ↓jn, ↓lt, ↓reduceIte, decide_true, decide_false, Bool.false_eq_true, Bool.and_true, Bool.and_false, Bool.true_and, Bool.false_and, Bool.or_false, Bool.false_or, Bool.or_true, Bool.true_or, h1]
  · by_cases hv : u.2 209 (8 * a + j) = nm
    · simp (disch := first | omega | decide) only [↓neg1, nlit, rI, rL, rI2, rL1, nI_add, pk_mul, sbT, dvT, nmd, ixT, ↓ibT, ltT, ltF, leT, leF, eqT, eqF, nM_ltT, nM_ltF, nM_leT, nM_leF, nM_eqF, nM_eqF', nbT0, nbT1, oI_s, oI_n, natF, natT, nltT, nltF, nleT, nleF, ↓reduceIte, lgc, not_true_eq_false, not_false_eq_true, or_false, false_or, or_true, true_or, and_true, true_and, and_false, false_and, ne_eq, eq_self, or_self, and_self, obs, ↓jn, ↓lt, ↓reduceIte, decide_true, decide_false, Bool.false_eq_true, Bool.and_true, Bool.and_false, Bool.true_and, Bool.false_and, Bool.or_false, Bool.false_or, Bool.or_true, Bool.true_or, h1, hv]
    · simp (disch := first | omega | decide) only [↓neg1, nlit, rI, rL, rI2, rL1, nI_add, pk_mul, sbT, dvT, nmd, ixT, ↓ibT, ltT, ltF, leT, leF, eqT, eqF, nM_ltT, nM_ltF, nM_leT, nM_leF, nM_eqF, nM_eqF', nbT0, nbT1, oI_s, oI_n, natF, natT, nltT, nltF, nleT, nleF, ↓reduceIte, lgc, not_true_eq_false, not_false_eq_true, or_false, false_or, or_true, true_or, and_true, true_and, and_false, false_and, ne_eq, eq_self, or_self, and_self, obs, ↓jn, ↓lt, ↓reduceIte, decide_true, decide_false, Bool.false_eq_true, Bool.and_true, Bool.and_false, Bool.true_and, Bool.false_and, Bool.or_false, Bool.false_or, Bool.or_true, Bool.true_or, h1, hv]
  · unfold dpS
    cases ff _ _ <;> rfl
/-- the reference reads a new name of this kind -/
def nwN (n A B aM bM : Nat) (lim a1 : Int32) (rest : Int64 → cS → Option cS) (c : cS) : Option cS :=
  lt ((c.1 174 67) : Int32) (fun v2 =>
  Option.bind (d_381 n c) (fun r4 =>
  if (r4.2.1 174 13) = 0 then
    Option.bind (whl (dupL n A B aM bM a1 v2 r4.1) n (0, r4.2))
    (fun x16 : cS =>
      if ib a1 aM then
      jn (rest r4.1)
      (fun j89 =>
      if (x16.1 A (ix a1)) = lim then
        if ib v2 4001 then
        Option.bind (d_97 n 6 (x16.1 179 (ix v2)) x16) (fun r42 =>
        j89 r42)
        else none
      else
        j89 x16)
      else none)
  else
    some r4.2))
theorem nw_go {rest : Int64 → cS → Option cS} (hn : 100 ≤ n) (hP : PSI K P V N c u i) (hw : ∀ nm p, p.1 174 13 = nI 1 → rest nm p = some p) (ha : a < aM) (haM : aM ≤ 1000) (hbM : 8 * aM ≤ bM) (hb2 : bM ≤ 10000) (hf : f ≤ 8) (hA : A ≠ 174) (hc : u.1 A a = nI f) (hL : L ≤ 8) : (K i = 1 ∧ V i ≠ 0 ∧ dpS u B a f (V i) = none ∧ f ≠ L ∧ d_260 n (bI (dpS u B a f (c.2 5 i)).isSome) (bI (decide (f = L))) c = some (.inl (V i, atC c (i + 1))) ∧ (∀ Q : cS → Prop, wp (rest (V i) (atR u (i + 1))) Q → wp (nwN n A B aM bM (nI L) (nI a) rest u) Q) ∧ PSI K P V N (atC c (i + 1)) (atR u (i + 1)) (i + 1)) ∨ (∃ z q, d_260 n (bI (dpS u B a f (c.2 5 i)).isSome) (bI (decide (f = L))) c = some (.inr z) ∧ nwN n A B aM bM (nI L) (nI a) rest u = some q ∧ FLR c u z q) := by
  have h260 := e260 (n := n) (x := bI (dpS u B a f (c.2 5 i)).isSome) (y := bI (decide (f = L))) hP
  have h381 := e381 (n := n) hP
  have hkK := PSI_K hP
  have hia : ib (nI a) aM := ib_n ha (by omega)
  have ea : ix (nI a) = a := ix_n (by omega)
  by_cases e1 : K i = 1
  rotate_left
  · rw [if_neg e1] at h381
    refine Or.inr ⟨flC c 2 (nI (P i)), flt u 2 (nI (P i)), ?_, ?_, FLR_of sx_rfl sx_rfl⟩
    · rw [h260]
      unfold nnC
      rw [if_neg e1]
    · unfold nwN
      exact eq_wp (wpl (wpe h381 (wpf (ne13 flt_at.1) rfl)))
  rw [if_pos e1] at h381
  obtain ⟨hv, hv0⟩ := val_at hP e1
  rw [hv] at h260 ⊢
  have hP1 := PSI_s hP (by omega)
  have h67 := hP.2.2.2.1
  have cA : (atR u (i + 1)).1 A a = nI f := by
    unfold atR
    rw [rI, if_neg (by omega)]
    exact hc
  have c9 : (atR u (i + 1)).1 179 i = nI (P i) := (hP1.1.2.2.1 i hP.2.1).2.2.1
  have hdp : dpS (atR u (i + 1)) B a f (V i) = dpS u B a f (V i) := rfl
  have hd := dpl_r (n := n) (B := B) (nm := V i) (v := atR u (i + 1)) (i := i) (p := P i) hn ha haM hbM hb2 hf hA cA (by omega) c9 hP1.2.2.2.2
  rw [hdp] at hd
  have hpre : ∀ {Q : cS → Prop} {x : cS}, whl (dupL n A B aM bM (nI a) (nI i) (V i)) n (0, atR u (i + 1)) = some x → wp (if x.1 A a = nI L then (if ib (nI i) 4001 then Option.bind (d_97 n 6 (x.1 179 i) x) (fun r42 => rest (V i) r42) else none) else rest (V i) x) Q → wp (nwN n A B aM bM (nI L) (nI a) rest u) Q := fun {Q x} h1 h2 => by
    unfold nwN
    rw [h67]
    refine wpl (wpe h381 (wpt hP1.2.2.2.2 (wpe h1 (wpt hia (wpj ?_)))))
    rw [ea, show ix (nI i) = i from ix_n (by omega)]
    exact h2
  have hii : ib (nI i) 4001 := ib_n (by omega) (by decide)
  cases et : dpS u B a f (V i) with
  | some l =>
    rw [et] at h260 hd
    rw [if_pos (show (some l).isSome = true from rfl)] at hd
    have f1 := flt_at (u := atR u (i + 1)) (a := 3) (f := nI (P i))
    refine Or.inr ⟨flC c 3 (nI (P i)), flt (atR u (i + 1)) 3 (nI (P i)), ?_, eq_wp (hpre hd ?_), FLR_of sx_rfl atR_sx⟩
    · rw [h260]
      unfold nnC
      rw [if_pos e1, if_neg (show ¬ bI (some l).isSome = 0 from show ¬ bI true = 0 by decide)]
    · by_cases eL : (flt (atR u (i + 1)) 3 (nI (P i))).1 A a = nI L
      · exact wpt eL (wpt hii (wpe (e97w f1.1) (wp_of (hw _ _ f1.1) rfl)))
      · exact wpf eL (wp_of (hw _ _ f1.1) rfl)
  | none =>
    rw [et] at h260 hd
    rw [if_neg (by decide)] at hd
    by_cases eL : f = L
    · have f1 := flt_at (u := atR u (i + 1)) (a := 6) (f := nI (P i))
      refine Or.inr ⟨flC c 6 (nI (P i)), flt (atR u (i + 1)) 6 (nI (P i)), ?_, eq_wp (hpre hd ?_), FLR_of sx_rfl atR_sx⟩
      · rw [h260, decide_eq_true eL]
        unfold nnC
        rw [if_pos e1, if_pos (show bI (none : Option Nat).isSome = 0 by decide), if_neg (show ¬ bI true = 0 by decide)]
      · rw [cA, c9]
        exact wpt (by rw [eL]) (wpt hii (wpe (e97 hP1.2.2.2.2) (wp_of (hw _ _ f1.1) rfl)))
    · refine Or.inl ⟨e1, hv0, rfl, eL, ?_, fun Q h => hpre hd ?_, hP1⟩
      · rw [h260, decide_eq_false eL]
        unfold nnC
        rw [if_pos e1, if_pos (show bI (none : Option Nat).isSome = 0 by decide), if_pos (show bI false = 0 by decide)]
      · rw [cA]
        exact wpf (fun z => eL ((nI_eq (by omega) (by omega)).mp z)) h
end NEWN
