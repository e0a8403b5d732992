/-! READING an ACT: how far it reaches; its LABEL -/
section LBL
variable {n i j N k M a b a0 na op L U U' oc kc mc : Nat} {c d u w v q c' u' : cS} {K P : Nat → Nat} {V : Nat → Int64} {nm : Int64}
theorem wl1 : ∀ x : Fin 31, 1 ≤ (sB (2 + x.1)).length := by decide
theorem wl3 : ∀ x : Fin 15, 3 ≤ (sB (2 + (14 + x.1))).length := by decide
theorem wl2 : ∀ x : Fin 2, 2 ≤ (sB (2 + (29 + x.1))).length := by decide
theorem wl4 : 4 ≤ (sB (2 + 20)).length := by decide
theorem tln1 {x : Nat} (h : x < 231) : 1 ≤ tln x := by
  unfold tln
  by_cases e : 200 ≤ x
  · rw [if_pos e]
    exact wl1 ⟨x - 200, by omega⟩
  · rw [if_neg e]
    exact Nat.le_refl _
theorem tln3 {x : Nat} (h1 : 214 ≤ x) (h2 : x < 231) : (if x = 220 then 4 else if x < 229 then 3 else 2) ≤ tln x := by
  unfold tln
  rw [if_pos (show 200 ≤ x by omega)]
  by_cases e0 : x = 220
  · rw [if_pos e0, e0]
    exact wl4
  rw [if_neg e0]
  by_cases e : x < 229
  · rw [if_pos e]
    have := wl3 ⟨x - 214, by omega⟩
    rw [show 14 + (x - 214) = x - 200 by omega] at this
    exact this
  · rw [if_neg e]
    have := wl2 ⟨x - 229, by omega⟩
    rw [show 29 + (x - 229) = x - 200 by omega] at this
    exact this
theorem TKR_up (h : TKR c u K P V N) : ∀ e, i + e ≤ N → P i + e ≤ P (i + e)
  | 0, _ => Nat.le_refl _
  | e + 1, he => by
    have h1 := TKR_up h e (by omega)
    have h2 := h.2.2.2 (i + e) (by omega)
    have hk : K (i + e) < 231 := by
      have := (h.2.2.1 (i + e) (by omega)).2.2.2.2
      unfold TKO at this
      omega
    have h3 := tln1 hk
    rw [show i + (e + 1) = i + e + 1 by omega]
    omega
theorem TKR_le (h : TKR c u K P V N) (hij : i ≤ j) (hj : j ≤ N) : P i + (j - i) ≤ P j := by
  have := TKR_up (i := i) h (j - i) (by omega)
  rw [show i + (j - i) = j by omega] at this
  exact this
/-- where a LABEL stands already -/
def lbX (v : cS) (M na : Nat) (nm : Int64) : Option Nat := ff (fun l => decide (v.2 212 (40 * M + l) = nm)) na
theorem s163 (hn : 100 ≤ n) (hM : M < 96) (hna : na ≤ 40) (ha : a0 + na ≤ 1024) (h1 : w.1 120 M = nI na) (h2 : w.1 119 M = nI a0) (h3 : ∀ l, l < na → w.2 127 (a0 + l) = v.2 212 (40 * M + l)) : d_163 n (nI M) nm w = some (oI (lbX v M na nm)) := by
  unfold d_163
  refine bwf (fun k => nI k) (Sum.inl ()) (fun k => Sum.inr (nI k)) (fun l => decide (v.2 212 (40 * M + l) = nm)) (cnt := na) (by omega) rfl ?_ (fun j hj => ?_) ?_
  · simp (disch := first | omega | decide) only [↓neg1, nlit, rI, rL, rI2, rL1, nI_add, pk_mul, sbT, dvT, nmd, ixT, ↓ibT, ltT, ltF, leT, leF, eqT, eqF, nM_ltT, nM_ltF, nM_leT, nM_leF, nM_eqF, nM_eqF', nbT0, nbT1, oI_s, oI_n, natF, natT, nltT, nltF, nleT, nleF, ↓reduceIte, lgc, not_true_eq_false, not_false_eq_true, or_false, false_or, or_true, true_or, and_true, true_and, and_false, false_and, ne_eq, eq_self, or_self, and_self, obs, ↓jn, ↓lt, ↓reduceIte, decide_true, decide_false, Bool.false_eq_true, Bool.and_true, Bool.and_false, Bool.true_and, Bool.false_and, Bool.or_false, Bool.false_or, Bool.or_true, Bool.true_or, h1]
  · have h3 := h3 j hj
    by_cases hv : v.2 212 (40 * M + j) = nm
    · simp (disch := first | omega | decide) only [↓neg1, nlit, rI, rL, rI2, rL1, nI_add, pk_mul, sbT, dvT, nmd, ixT, ↓ibT, ltT, ltF, leT, leF, eqT, eqF, nM_ltT, nM_ltF, nM_leT, nM_leF, nM_eqF, nM_eqF', nbT0, nbT1, oI_s, oI_n, natF, natT, nltT, nltF, nleT, nleF, ↓reduceIte, lgc, not_true_eq_false, not_false_eq_true, or_false, false_or, or_true, true_or, and_true, true_and, and_false, false_and, ne_eq, eq_self, or_self, and_self, obs, ↓jn, ↓lt, ↓reduceIte, decide_true, decide_false, Bool.false_eq_true, Bool.and_true, Bool.and_false, Bool.true_and, Bool.false_and, Bool.or_false, Bool.false_or, Bool.or_true, Bool.true_or, h1, h2, h3, hv]
    · simp (disch := first | omega | decide) only [↓neg1, nlit, rI, rL, rI2, rL1, nI_add, pk_mul, sbT, dvT, nmd, ixT, ↓ibT, ltT, ltF, leT, leF, eqT, eqF, nM_ltT, nM_ltF, nM_leT, nM_leF, nM_eqF, nM_eqF', nbT0, nbT1, oI_s, oI_n, natF, natT, nltT, nltF, nleT, nleF, ↓reduceIte, lgc, not_true_eq_false, not_false_eq_true, or_false, false_or, or_true, true_or, and_true, true_and, and_false, false_and, ne_eq, eq_self, or_self, and_self, obs, ↓jn, ↓lt, ↓reduceIte, decide_true, decide_false, Bool.false_eq_true, Bool.and_true, Bool.and_false, Bool.true_and, Bool.false_and, Bool.or_false, Bool.false_or, Bool.or_true, Bool.true_or, h1, h2, h3, hv]
  · unfold lbX
    cases ff _ _ <;> rfl
def lbL (n : Nat) (a1 : Int32) (v47 : Int64) (s50 : Int32 × cS) : Option ((Int32 × cS) ⊕ cS) :=
            if ib a1 96 then
            if (s50.2.1 210 (ix a1)) ≤ s50.1 then
              some (.inr s50.2)
            else
              if ib ((40 * a1) + s50.1) 3840 then
              jn (fun p53 : cS =>
                lt (s50.1 + 1 : Int32) (fun v55 =>
                some (.inl (v55, p53))))
              (fun j164 =>
              if (lg_cmp (s50.2.2 212 (ix ((40 * a1) + s50.1))) v47) = 0 then
                if ib (s50.2.1 174 67) 4001 then
                Option.bind (d_97 n 3 (s50.2.1 179 (ix (s50.2.1 174 67))) s50.2) (fun r58 =>
                j164 r58)
                else none
              else
                j164 s50.2)
              else none
            else none
theorem lb_r {p : Nat} (hn : 100 ≤ n) (hM : M < 96) (hna : na ≤ 40) (hc : v.1 210 M = nI na) (hi : i ≤ 4000) (h67 : v.1 174 67 = nI i) (h9 : v.1 179 i = nI p) (h13 : v.1 174 13 = nI 0) : whl (lbL n (nI M) nm) n (0, v) = some (if (lbX v M na nm).isSome then flt v 3 (nI p) else v) := by
  have hia : ib (nI M) 96 := ib_n hM (by decide)
  have ea : ix (nI M) = M := ix_n (by omega)
  have e8 : ∀ j, (40 : Int32) * nI M + nI j = nI (40 * M + j) := fun j => by rw [show (40 : Int32) = nI 40 from rfl, pk_mul, nI_add]
  have f1 := flt_at (u := v) (a := 3) (f := nI p)
  refine eq_wp (whl_cnt (fun j (st : Int32 × cS) => st.1 = nI j ∧ st.2 = if (lbX v M j nm).isSome then flt v 3 (nI p) else v) na ?_ ?_ (by omega) ⟨rfl, rfl⟩)
  · rintro j ⟨q, w⟩ hj ⟨g1, g2⟩
    dsimp only at g1 g2
    subst g1
    have hw : w.1 210 M = nI na ∧ w.2 212 (40 * M + j) = v.2 212 (40 * M + j) ∧ w.1 174 67 = nI i := by
      rw [g2]
      split
      · exact ⟨(f1.2.2.2 210 M (by omega)).trans hc, rfl, (f1.2.2.2 174 67 (by omega)).trans h67⟩
      · exact ⟨hc, rfl, h67⟩
    unfold lbL
    dsimp only
    rw [ea, hw.1, e8, show ix (nI (40 * M + j)) = 40 * M + j from ix_n (by omega), hw.2.1, hw.2.2]
    refine wpt hia (wpf (by simp (disch := first | omega | decide) only [↓neg1, nlit, rI, rL, rI2, rL1, nI_add, pk_mul, sbT, dvT, nmd, ixT, ↓ibT, ltT, ltF, leT, leF, eqT, eqF, nM_ltT, nM_ltF, nM_leT, nM_leF, nM_eqF, nM_eqF', nbT0, nbT1, oI_s, oI_n, natF, natT, nltT, nltF, nleT, nleF, ↓reduceIte, lgc, not_true_eq_false, not_false_eq_true, or_false, false_or, or_true, true_or, and_true, true_and, and_false, false_and, ne_eq, eq_self, or_self, and_self]) (wpt (ib_n (by omega) (by decide)) (wpj ?_)))
    have hs : lbX v M (j + 1) nm = match lbX v M j nm with
        | some l => some l
        | none => if decide (v.2 212 (40 * M + j) = nm) = true then some j else none := ff_sc
    by_cases e : v.2 212 (40 * M + j) = nm
    · refine wpt (by rw [e]; exact lgc.mpr rfl) (wpt (ib_n (by omega) (by decide)) ?_)
      rw [show ix (nI i) = i from ix_n (by omega)]
      cases ed : lbX v M j nm with
      | some l =>
        rw [ed, if_pos (show (some l).isSome = true from rfl)] at g2
        rw [ed] at hs
        have w13 : w.1 174 13 = nI 1 := by rw [g2]; exact f1.1
        refine wpe (e97w w13) (wpl ⟨nI_1 j, ?_⟩)
        rw [hs]
        exact g2
      | none =>
        rw [ed, if_neg (by decide)] at g2
        rw [ed] at hs
        subst g2
        rw [h9]
        refine wpe (e97 h13) (wpl ⟨nI_1 j, ?_⟩)
        show _ = if (lbX w M (j + 1) nm).isSome = true then flt w 3 (nI p) else w
        rw [hs]
        dsimp only
        rw [if_pos (decide_eq_true e), if_pos (show (some j).isSome = true from rfl)]
    · refine wpf (fun z => e (lgc.mp z)) (wpl ⟨nI_1 j, ?_⟩)
      show w = _
      rw [hs, g2]
      cases ed : lbX v M j nm with
      | some l => rfl
      | none =>
        dsimp only
        rw [if_neg (show ¬ decide (v.2 212 (40 * M + j) = nm) = true by rw [decide_eq_false e]; decide)]
  · rintro ⟨q, w⟩ ⟨g1, g2⟩
    dsimp only at g1 g2
    subst g1
    have hw : w.1 210 M = nI na := by
      rw [g2]
      split
      · exact (f1.2.2.2 210 M (by omega)).trans hc
      · exact hc
    unfold lbL
    dsimp only
    rw [ea, hw]
    exact wpt hia (wpt (by simp (disch := first | omega | decide) only [↓neg1, nlit, rI, rL, rI2, rL1, nI_add, pk_mul, sbT, dvT, nmd, ixT, ↓ibT, ltT, ltF, leT, leF, eqT, eqF, nM_ltT, nM_ltF, nM_leT, nM_leF, nM_eqF, nM_eqF', nbT0, nbT1, oI_s, oI_n, natF, natT, nltT, nltF, nleT, nleF, ↓reduceIte, lgc, not_true_eq_false, not_false_eq_true, or_false, false_or, or_true, true_or, and_true, true_and, and_false, false_and, ne_eq, eq_self, or_self, and_self]) (wp_of rfl g2))
/-- which words are ACTS -/
theorem e280 {x : Nat} (hx : x < 231) : d_280 n (nI x) = some (bI (decide (214 ≤ x))) := by
  unfold d_280
  refine eq_wp (wpj (wpj ?_))
  by_cases e : 214 ≤ x
  · rw [decide_eq_true e]
    exact wpf (by simp (disch := first | omega | decide) only [↓neg1, nlit, rI, rL, rI2, rL1, nI_add, pk_mul, sbT, dvT, nmd, ixT, ↓ibT, ltT, ltF, leT, leF, eqT, eqF, nM_ltT, nM_ltF, nM_leT, nM_leF, nM_eqF, nM_eqF', nbT0, nbT1, oI_s, oI_n, natF, natT, nltT, nltF, nleT, nleF, ↓reduceIte, lgc, not_true_eq_false, not_false_eq_true, or_false, false_or, or_true, true_or, and_true, true_and, and_false, false_and, ne_eq, eq_self, or_self, and_self]) (wpf (by simp (disch := first | omega | decide) only [↓neg1, nlit, rI, rL, rI2, rL1, nI_add, pk_mul, sbT, dvT, nmd, ixT, ↓ibT, ltT, ltF, leT, leF, eqT, eqF, nM_ltT, nM_ltF, nM_leT, nM_leF, nM_eqF, nM_eqF', nbT0, nbT1, oI_s, oI_n, natF, natT, nltT, nltF, nleT, nleF, ↓reduceIte, lgc, not_true_eq_false, not_false_eq_true, or_false, false_or, or_true, true_or, and_true, true_and, and_false, false_and, ne_eq, eq_self, or_self, and_self]) (wpt (show nb (1 : Int32) by decide) rfl))
  · rw [decide_eq_false e]
    exact wpt (by simp (disch := first | omega | decide) only [↓neg1, nlit, rI, rL, rI2, rL1, nI_add, pk_mul, sbT, dvT, nmd, ixT, ↓ibT, ltT, ltF, leT, leF, eqT, eqF, nM_ltT, nM_ltF, nM_leT, nM_leF, nM_eqF, nM_eqF', nbT0, nbT1, oI_s, oI_n, natF, natT, nltT, nltF, nleT, nleF, ↓reduceIte, lgc, not_true_eq_false, not_false_eq_true, or_false, false_or, or_true, true_or, and_true, true_and, and_false, false_and, ne_eq, eq_self, or_self, and_self]) (wpt (show nb (0 : Int32) by decide) rfl)
end LBL
