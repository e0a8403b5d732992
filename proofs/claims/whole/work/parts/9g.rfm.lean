/-! FLOW: the reference's marks of PLACES; wanted MARKS -/
def q36 (a i : Nat) : Bool := decide ((a = 174 ∧ 73 ≤ i ∧ i ≤ 79) ∨ a = 232 ∨ a = 233 ∨ a = 236 ∨ a = 237)
theorem nP_q36 : nP q36 := by
  refine ⟨fun a i h => ?_, fun i h => ?_, fun i h => ?_, fun a i h1 h2 h3 => ?_, fun a i h1 h2 h3 => ?_⟩
  · have := PA_of h
    exact decide_eq_false (by omega)
  · have := PF_of h
    exact decide_eq_false (by omega)
  · exact decide_eq_false (by omega)
  · exact decide_eq_false (by omega)
  · exact decide_eq_false (by omega)
theorem q36_R {a i : Nat} (h : q36 a i = false) : qR a i = false := by
  have := of_decide_eq_false h
  exact decide_eq_false (by omega)
/-- which PLACES are told -/
def TLD (m : cS) (o : Nat) (u : cS) : Prop := ∀ p s, isP m p s → 1 ≤ s → u.1 237 p = if tld m p o = none then nI 0 else nI 1
theorem FD_sx {c m u w : cS} {r : Nat → Nat → Bool} (h : FD m c u) (hw : sx r u w) (hr : ∀ i, r 235 i = false) : FD m c w := fun p s o hp hs ho => ⟨(h p s o hp hs ho).1, (h p s o hp hs ho).2.1, (hw.1 235 _ (hr _)).trans (h p s o hp hs ho).2.2⟩
theorem e450 {n o : Nat} {c m u : cS} (hn : 2000 ≤ n) (h0 : c.1 7 0 = nI 1) (h0' : m.1 174 14 = nI 1) (hA : AG m u) (hE : EC c m) (ho : o < ocn m) (hF : FD m c u) : wp (d_450 n (nI o) u) (fun w => sx q36 u w ∧ MKS m (fun p => TM m c p o) w ∧ TLD m o w) := by
  have hC := hE.2.2.1
  have hP12 : ∀ p s, isP m p s → p < 1200 := fun p s hp => (EC_row hE hp).1
  unfold d_450
  refine wpc (K' := fun w : cS => sx q36 u w ∧ MKS m (fun p => TM m c p o) w ∧ TLD m o w) (whl_cnt (fun k (st : Int32 × cS) => st.1 = nI k ∧ sx q36 u st.2 ∧ (∀ p s, p < k → isP m p s → 1 ≤ s → st.2.1 236 p = nI (TM m c p o) ∧ st.2.1 237 p = if tld m p o = none then nI 0 else nI 1)) 1200 ?_ ?_ (by omega) ⟨rfl, sx_rfl, fun p s hp => by omega⟩) (fun w hw => hw)
  · rintro k ⟨a, w⟩ hk ⟨g1, g2, g3⟩
    dsimp only at g1 g2 g3
    subst g1
    have hAw := AG_sx hA g2 nP_q36
    have hFw := FD_sx hF g2 (fun i => decide_eq_false (by omega))
    have huw : w.1 174 14 = 1 := (hAw.2.2.1 14 rfl).trans h0'
    refine wpf (by dsimp only; simp (disch := first | omega | decide) only [↓neg1, nlit, rI, rL, rI2, rL1, nI_add, pk_mul, sbT, dvT, nmd, ixT, ↓ibT, ltT, ltF, leT, leF, eqT, eqF, nM_ltT, nM_ltF, nM_leT, nM_leF, nM_eqF, nM_eqF', nbT0, nbT1, oI_s, oI_n, natF, natT, nltT, nltF, nleT, nleF, ↓reduceIte, lgc, not_true_eq_false, not_false_eq_true, or_false, false_or, or_true, true_or, and_true, true_and, and_false, false_and, ne_eq, eq_self, or_self, and_self]) ?_
    rcases plA (n := n) (a := nI k) h0 h0' hAw hC with ⟨p1, p2⟩ | ⟨p, s, p1, p2, p3, p4, p5, p6, p7⟩
    · have hno : ∀ s, ¬ isP m k s := by
        intro s hs
        have h109 := e109 (n := n) (p := k) (by omega) huw (PC_AG hAw hC.1)
        rw [srt_AG hAw, show srt (ccn m) m k = some s from hs, p2] at h109
        have h110 : nI 0 = 1 := Option.some.inj h109
        exact absurd h110 (by decide)
      refine wpe (show d_112 n (nI k) w = some (nI 0) by unfold d_112; simp (disch := first | omega | decide) only [↓neg1, nlit, rI, rL, rI2, rL1, nI_add, pk_mul, sbT, dvT, nmd, ixT, ↓ibT, ltT, ltF, leT, leF, eqT, eqF, nM_ltT, nM_ltF, nM_leT, nM_leF, nM_eqF, nM_eqF', nbT0, nbT1, oI_s, oI_n, natF, natT, nltT, nltF, nleT, nleF, ↓reduceIte, lgc, not_true_eq_false, not_false_eq_true, or_false, false_or, or_true, true_or, and_true, true_and, and_false, false_and, ne_eq, eq_self, or_self, and_self, obs, ↓jn, ↓lt, ↓reduceIte, decide_true, decide_false, Bool.false_eq_true, Bool.and_true, Bool.and_false, Bool.true_and, Bool.false_and, Bool.or_false, Bool.false_or, Bool.or_true, Bool.true_or, p2]) (wpj (wpt rfl (wpl ⟨nI_1 _, g2, fun p s hp hP hs => ?_⟩)))
      by_cases e : p = k
      · rw [e] at hP
        exact absurd hP (hno s)
      · exact g3 p s (by omega) hP hs
    · have : p = k := ((nI_eq (by omega) (by omega)).mp p2).symm
      subst this
      by_cases hs : s = 0
      · subst hs
        refine wpe (show d_112 n (nI p) w = some (nI 0) by unfold d_112; simp (disch := first | omega | decide) only [↓neg1, nlit, rI, rL, rI2, rL1, nI_add, pk_mul, sbT, dvT, nmd, ixT, ↓ibT, ltT, ltF, leT, leF, eqT, eqF, nM_ltT, nM_ltF, nM_leT, nM_leF, nM_eqF, nM_eqF', nbT0, nbT1, oI_s, oI_n, natF, natT, nltT, nltF, nleT, nleF, ↓reduceIte, lgc, not_true_eq_false, not_false_eq_true, or_false, false_or, or_true, true_or, and_true, true_and, and_false, false_and, ne_eq, eq_self, or_self, and_self, obs, ↓jn, ↓lt, ↓reduceIte, decide_true, decide_false, Bool.false_eq_true, Bool.and_true, Bool.and_false, Bool.true_and, Bool.false_and, Bool.or_false, Bool.false_or, Bool.or_true, Bool.true_or, p6, p7, Nat.pow_zero]) (wpj (wpt rfl (wpl ⟨nI_1 _, g2, fun p' s hp hP hs => ?_⟩)))
        by_cases e : p' = p
        · rw [e] at hP
          have : some s = some 0 := hP.symm.trans p3
          cases this
          omega
        · exact g3 p' s (by omega) hP hs
      · have h112 : d_112 n (nI p) w = some (nI 1) := by
          unfold d_112
          simp (disch := first | omega | decide) only [↓neg1, nlit, rI, rL, rI2, rL1, nI_add, pk_mul, sbT, dvT, nmd, ixT, ↓ibT, ltT, ltF, leT, leF, eqT, eqF, nM_ltT, nM_ltF, nM_leT, nM_leF, nM_eqF, nM_eqF', nbT0, nbT1, oI_s, oI_n, natF, natT, nltT, nltF, nleT, nleF, ↓reduceIte, lgc, not_true_eq_false, not_false_eq_true, or_false, false_or, or_true, true_or, and_true, true_and, and_false, false_and, ne_eq, eq_self, or_self, and_self, obs, ↓jn, ↓lt, ↓reduceIte, decide_true, decide_false, Bool.false_eq_true, Bool.and_true, Bool.and_false, Bool.true_and, Bool.false_and, Bool.or_false, Bool.false_or, Bool.or_true, Bool.true_or, p6, p7, pow1, hs]
        refine wpe h112 (wpj (wpf (by decide) ?_))
        refine wpc (e449 (by omega) hAw hE p3 (by omega) ho hFw) (fun r hr => ?_)
        obtain ⟨r1, r2, r3, r4⟩ := hr
        refine wpt (by simp (disch := first | omega | decide) only [↓neg1, nlit, rI, rL, rI2, rL1, nI_add, pk_mul, sbT, dvT, nmd, ixT, ↓ibT, ltT, ltF, leT, leF, eqT, eqF, nM_ltT, nM_ltF, nM_leT, nM_leF, nM_eqF, nM_eqF', nbT0, nbT1, oI_s, oI_n, natF, natT, nltT, nltF, nleT, nleF, ↓reduceIte, lgc, not_true_eq_false, not_false_eq_true, or_false, false_or, or_true, true_or, and_true, true_and, and_false, false_and, ne_eq, eq_self, or_self, and_self]) (wpl (wpj ?_))
        rw [ix_n (by omega), r1]
        have hx0 : (pI r.2 236 p (nI (TM m c p o))).1 174 74 = nI (eff m (100 + o) 13 p 0).1 := by
          rw [rI, if_neg (by omega)]
          exact r3
        rw [hx0]
        have sr : sx q36 u r.2 := sx_trans g2 (sx_wide r2 (fun a i => q36_R))
        have hfin : ∀ v : Int32, v = (if tld m p o = none then nI 0 else nI 1) → sx q36 u (pI (pI r.2 236 p (nI (TM m c p o))) 237 p v) ∧ (∀ p' s, p' < p + 1 → isP m p' s → 1 ≤ s → (pI (pI r.2 236 p (nI (TM m c p o))) 237 p v).1 236 p' = nI (TM m c p' o) ∧ (pI (pI r.2 236 p (nI (TM m c p o))) 237 p v).1 237 p' = if tld m p' o = none then nI 0 else nI 1) := by
          intro v hv
          refine ⟨sx_pI (sx_pI sr (decide_eq_true (by omega))) (decide_eq_true (by omega)), fun p' s' hp' hP' hs' => ?_⟩
          by_cases e : p' = p
          · subst e
            refine ⟨by rw [rI, if_neg (by omega), rI, if_pos ⟨rfl, rfl⟩], ?_⟩
            rw [rI, if_pos ⟨rfl, rfl⟩]
            exact hv
          · obtain ⟨y1, y2⟩ := g3 p' s' (by omega) hP' hs'
            refine ⟨?_, ?_⟩
            · rw [rI, if_neg (by omega), rI, if_neg (fun z => e z.2), r2.1 236 _ (decide_eq_false (by omega))]
              exact y1
            · rw [rI, if_neg (fun z => e z.2), rI, if_neg (by omega), r2.1 237 _ (decide_eq_false (by omega))]
              exact y2
        by_cases he : (eff m (100 + o) 13 p 0).1 = 0
        · rw [he]
          refine wpt (by decide) (wpt (by simp (disch := first | omega | decide) only [↓neg1, nlit, rI, rL, rI2, rL1, nI_add, pk_mul, sbT, dvT, nmd, ixT, ↓ibT, ltT, ltF, leT, leF, eqT, eqF, nM_ltT, nM_ltF, nM_leT, nM_leF, nM_eqF, nM_eqF', nbT0, nbT1, oI_s, oI_n, natF, natT, nltT, nltF, nleT, nleF, ↓reduceIte, lgc, not_true_eq_false, not_false_eq_true, or_false, false_or, or_true, true_or, and_true, true_and, and_false, false_and, ne_eq, eq_self, or_self, and_self]) (wpl (wpl ?_)))
          exact ⟨nI_1 _, hfin _ (by rw [if_pos (r4.mp he)]; decide)⟩
        · have he20 := (eff_ok (t := 100 + o) (F := 13) (S := 0) hE p3 rfl (Nat.pos_of_ne_zero he)).2.1
          refine wpf (by simp (disch := first | omega | decide) only [↓neg1, nlit, rI, rL, rI2, rL1, nI_add, pk_mul, sbT, dvT, nmd, ixT, ↓ibT, ltT, ltF, leT, leF, eqT, eqF, nM_ltT, nM_ltF, nM_leT, nM_leF, nM_eqF, nM_eqF', nbT0, nbT1, oI_s, oI_n, natF, natT, nltT, nltF, nleT, nleF, ↓reduceIte, lgc, not_true_eq_false, not_false_eq_true, or_false, false_or, or_true, true_or, and_true, true_and, and_false, false_and, ne_eq, eq_self, or_self, and_self]) (wpt (by simp (disch := first | omega | decide) only [↓neg1, nlit, rI, rL, rI2, rL1, nI_add, pk_mul, sbT, dvT, nmd, ixT, ↓ibT, ltT, ltF, leT, leF, eqT, eqF, nM_ltT, nM_ltF, nM_leT, nM_leF, nM_eqF, nM_eqF', nbT0, nbT1, oI_s, oI_n, natF, natT, nltT, nltF, nleT, nleF, ↓reduceIte, lgc, not_true_eq_false, not_false_eq_true, or_false, false_or, or_true, true_or, and_true, true_and, and_false, false_and, ne_eq, eq_self, or_self, and_self]) (wpl (wpl ?_)))
          exact ⟨nI_1 _, hfin _ (by rw [if_neg (fun z => he (r4.mpr z))]; decide)⟩
  · rintro ⟨a, w⟩ ⟨g1, g2, g3⟩
    dsimp only at g1 g2 g3
    subst g1
    refine wpt (by dsimp only; decide) ⟨g2, fun p s hp hs => (g3 p s (hP12 p s hp) hp hs).1, fun p s hp hs => (g3 p s (hP12 p s hp) hp hs).2⟩
section RW
variable {n o M i k a : Nat} {c m u : cS}
theorem e457 (hA : AG m u) (hC : CCS c m) (hM : isMt m M) (hi : i < 40) (hac : m.1 211 (40 * M + i) = nI (opn m (40 * M + i))) (hop : opn m (40 * M + i) ≤ 30) (hR : OPR c m M a (40 * M + i)) : d_457 n (nI (40 * M + i)) u = some (nI (wnt m (40 * M + i))) := by
  have hM96 := isMt_lt hC hM
  have p211 : u.1 211 (40 * M + i) = nI (opn m (40 * M + i)) := (hA.1 211 _ rfl).trans hac
  refine eq_wp ?_
  unfold d_457
  by_cases e : opn m (40 * M + i) = 20
  · have h := hR.2.2.2.2.1 e
    have h12 := (CCS_p hC).1
    have h1 := h.1
    have h2 := h.2.1
    have q8 := (hC.1.2.2.2.2.1 _ h.1).1
    have p214 : u.1 214 (40 * M + i) = nI (xN m (40 * M + i)) := (hA.1 214 _ rfl).trans h.2.2.1
    have p215 : u.1 215 (40 * M + i) = nI (yN m (40 * M + i)) := (hA.1 215 _ rfl).trans h.2.2.2.1
    have p207 : u.1 207 (8 * xN m (40 * M + i) + yN m (40 * M + i)) = nI (pM m (8 * xN m (40 * M + i) + yN m (40 * M + i))) := (hA.1 207 _ rfl).trans (hC.1.2.2.2.2.2 _ _ h.1 h.2.1).2.2
    rw [show wnt m (40 * M + i) = pM m (8 * xN m (40 * M + i) + yN m (40 * M + i)) from if_pos e]
    (try dsimp only); repeat (first | with_reducible refine wpl ?_ | with_reducible refine wpj ?_ | with_reducible refine wpSl ?_ | with_reducible refine wpSr ?_ | with_reducible refine wpS ?_ | ((with_reducible refine wpt ?_ ?_); · simp (disch := first | omega | decide) only [↓neg1, nlit, rI, rL, rI2, rL1, nI_add, pk_mul, sbT, dvT, nmd, ixT, ↓ibT, ltT, ltF, leT, leF, eqT, eqF, nM_ltT, nM_ltF, nM_leT, nM_leF, nM_eqF, nM_eqF', nbT0, nbT1, oI_s, oI_n, natF, natT, nltT, nltF, nleT, nleF, ↓reduceIte, lgc, not_true_eq_false, not_false_eq_true, or_false, false_or, or_true, true_or, and_true, true_and, and_false, false_and, ne_eq, eq_self, or_self, and_self, p211, e, p214, p215]; done) | ((with_reducible refine wpf ?_ ?_); · simp (disch := first | omega | decide) only [↓neg1, nlit, rI, rL, rI2, rL1, nI_add, pk_mul, sbT, dvT, nmd, ixT, ↓ibT, ltT, ltF, leT, leF, eqT, eqF, nM_ltT, nM_ltF, nM_leT, nM_leF, nM_eqF, nM_eqF', nbT0, nbT1, oI_s, oI_n, natF, natT, nltT, nltF, nleT, nleF, ↓reduceIte, lgc, not_true_eq_false, not_false_eq_true, or_false, false_or, or_true, true_or, and_true, true_and, and_false, false_and, ne_eq, eq_self, or_self, and_self, p211, e, p214, p215]; done))
    rw [ix_n (by omega), p214, p215, show (8 : Int32) * nI (xN m (40 * M + i)) + nI (yN m (40 * M + i)) = nI (8 * xN m (40 * M + i) + yN m (40 * M + i)) by rw [show (8 : Int32) = nI 8 from rfl, pk_mul, nI_add], ix_n (by omega)]
    exact p207
  · by_cases e2 : opn m (40 * M + i) = 19
    · rw [show wnt m (40 * M + i) = 1 from (if_neg e).trans (if_pos (Or.inl e2))]
      (try dsimp only); repeat (first | with_reducible refine wpl ?_ | with_reducible refine wpj ?_ | with_reducible refine wpSl ?_ | with_reducible refine wpSr ?_ | with_reducible refine wpS ?_ | ((with_reducible refine wpt ?_ ?_); · simp (disch := first | omega | decide) only [↓neg1, nlit, rI, rL, rI2, rL1, nI_add, pk_mul, sbT, dvT, nmd, ixT, ↓ibT, ltT, ltF, leT, leF, eqT, eqF, nM_ltT, nM_ltF, nM_leT, nM_leF, nM_eqF, nM_eqF', nbT0, nbT1, oI_s, oI_n, natF, natT, nltT, nltF, nleT, nleF, ↓reduceIte, lgc, not_true_eq_false, not_false_eq_true, or_false, false_or, or_true, true_or, and_true, true_and, and_false, false_and, ne_eq, eq_self, or_self, and_self, p211, e2]; done) | ((with_reducible refine wpf ?_ ?_); · simp (disch := first | omega | decide) only [↓neg1, nlit, rI, rL, rI2, rL1, nI_add, pk_mul, sbT, dvT, nmd, ixT, ↓ibT, ltT, ltF, leT, leF, eqT, eqF, nM_ltT, nM_ltF, nM_leT, nM_leF, nM_eqF, nM_eqF', nbT0, nbT1, oI_s, oI_n, natF, natT, nltT, nltF, nleT, nleF, ↓reduceIte, lgc, not_true_eq_false, not_false_eq_true, or_false, false_or, or_true, true_or, and_true, true_and, and_false, false_and, ne_eq, eq_self, or_self, and_self, p211, e2]; done))
      rfl
    · by_cases e3 : opn m (40 * M + i) = 21
      · rw [show wnt m (40 * M + i) = 1 from (if_neg e).trans (if_pos (Or.inr e3))]
        (try dsimp only); repeat (first | with_reducible refine wpl ?_ | with_reducible refine wpj ?_ | with_reducible refine wpSl ?_ | with_reducible refine wpSr ?_ | with_reducible refine wpS ?_ | ((with_reducible refine wpt ?_ ?_); · simp (disch := first | omega | decide) only [↓neg1, nlit, rI, rL, rI2, rL1, nI_add, pk_mul, sbT, dvT, nmd, ixT, ↓ibT, ltT, ltF, leT, leF, eqT, eqF, nM_ltT, nM_ltF, nM_leT, nM_leF, nM_eqF, nM_eqF', nbT0, nbT1, oI_s, oI_n, natF, natT, nltT, nltF, nleT, nleF, ↓reduceIte, lgc, not_true_eq_false, not_false_eq_true, or_false, false_or, or_true, true_or, and_true, true_and, and_false, false_and, ne_eq, eq_self, or_self, and_self, p211, e3]; done) | ((with_reducible refine wpf ?_ ?_); · simp (disch := first | omega | decide) only [↓neg1, nlit, rI, rL, rI2, rL1, nI_add, pk_mul, sbT, dvT, nmd, ixT, ↓ibT, ltT, ltF, leT, leF, eqT, eqF, nM_ltT, nM_ltF, nM_leT, nM_leF, nM_eqF, nM_eqF', nbT0, nbT1, oI_s, oI_n, natF, natT, nltT, nltF, nleT, nleF, ↓reduceIte, lgc, not_true_eq_false, not_false_eq_true, or_false, false_or, or_true, true_or, and_true, true_and, and_false, false_and, ne_eq, eq_self, or_self, and_self, p211, e3]; done))
        rfl
      · rw [show wnt m (40 * M + i) = 0 from (if_neg e).trans (if_neg (fun z => z.elim e2 e3))]
        (try dsimp only); repeat (first | with_reducible refine wpl ?_ | with_reducible refine wpj ?_ | with_reducible refine wpSl ?_ | with_reducible refine wpSr ?_ | with_reducible refine wpS ?_ | ((with_reducible refine wpt ?_ ?_); · simp (disch := first | omega | decide) only [↓neg1, nlit, rI, rL, rI2, rL1, nI_add, pk_mul, sbT, dvT, nmd, ixT, ↓ibT, ltT, ltF, leT, leF, eqT, eqF, nM_ltT, nM_ltF, nM_leT, nM_leF, nM_eqF, nM_eqF', nbT0, nbT1, oI_s, oI_n, natF, natT, nltT, nltF, nleT, nleF, ↓reduceIte, lgc, not_true_eq_false, not_false_eq_true, or_false, false_or, or_true, true_or, and_true, true_and, and_false, false_and, ne_eq, eq_self, or_self, and_self, p211]; done) | ((with_reducible refine wpf ?_ ?_); · simp (disch := first | omega | decide) only [↓neg1, nlit, rI, rL, rI2, rL1, nI_add, pk_mul, sbT, dvT, nmd, ixT, ↓ibT, ltT, ltF, leT, leF, eqT, eqF, nM_ltT, nM_ltF, nM_leT, nM_leF, nM_eqF, nM_eqF', nbT0, nbT1, oI_s, oI_n, natF, natT, nltT, nltF, nleT, nleF, ↓reduceIte, lgc, not_true_eq_false, not_false_eq_true, or_false, false_or, or_true, true_or, and_true, true_and, and_false, false_and, ne_eq, eq_self, or_self, and_self, p211]; done))
        rfl
theorem e458 (hA : AG m u) (hC : CCS c m) (hM : isMt m M) (hi : i < 40) (hac : m.1 211 (40 * M + i) = nI (opn m (40 * M + i))) (hop : opn m (40 * M + i) ≤ 30) (hR : OPR c m M a (40 * M + i)) (hk : k < wnt m (40 * M + i)) : d_458 n (nI M) (nI (40 * M + i)) (nI k) u = some (nI (wtp m M (40 * M + i) k)) := by
  have hM96 := isMt_lt hC hM
  have p211 : u.1 211 (40 * M + i) = nI (opn m (40 * M + i)) := (hA.1 211 _ rfl).trans hac
  have h12 := (CCS_p hC).1
  refine eq_wp ?_
  unfold d_458
  by_cases e3 : opn m (40 * M + i) = 21
  · rw [show wtp m M (40 * M + i) k = 100 * (M / 8) + 20 + 10 * (M % 8) from if_pos e3]
    (try dsimp only); repeat (first | with_reducible refine wpl ?_ | with_reducible refine wpj ?_ | with_reducible refine wpSl ?_ | with_reducible refine wpSr ?_ | with_reducible refine wpS ?_ | ((with_reducible refine wpt ?_ ?_); · simp (disch := first | omega | decide) only [↓neg1, nlit, rI, rL, rI2, rL1, nI_add, pk_mul, sbT, dvT, nmd, ixT, ↓ibT, ltT, ltF, leT, leF, eqT, eqF, nM_ltT, nM_ltF, nM_leT, nM_leF, nM_eqF, nM_eqF', nbT0, nbT1, oI_s, oI_n, natF, natT, nltT, nltF, nleT, nleF, ↓reduceIte, lgc, not_true_eq_false, not_false_eq_true, or_false, false_or, or_true, true_or, and_true, true_and, and_false, false_and, ne_eq, eq_self, or_self, and_self, p211, e3]; done) | ((with_reducible refine wpf ?_ ?_); · simp (disch := first | omega | decide) only [↓neg1, nlit, rI, rL, rI2, rL1, nI_add, pk_mul, sbT, dvT, nmd, ixT, ↓ibT, ltT, ltF, leT, leF, eqT, eqF, nM_ltT, nM_ltF, nM_leT, nM_leF, nM_eqF, nM_eqF', nbT0, nbT1, oI_s, oI_n, natF, natT, nltT, nltF, nleT, nleF, ↓reduceIte, lgc, not_true_eq_false, not_false_eq_true, or_false, false_or, or_true, true_or, and_true, true_and, and_false, false_and, ne_eq, eq_self, or_self, and_self, p211, e3]; done))
    have h422 : d_422 n (nI M) = some (nI (100 * (M / 8) + 20 + 10 * (M % 8))) := by
      have h := e422 (n := n) (k := M / 8) (j := M % 8) (by omega) (by omega)
      rwa [show 8 * (M / 8) + M % 8 = M by omega] at h
    refine wpe h422 ?_
    rfl
  · by_cases e : opn m (40 * M + i) = 20
    · have h := hR.2.2.2.2.1 e
      have h1 := h.1
      have h2 := h.2.1
      have q8 := (hC.1.2.2.2.2.1 _ h.1).1
      have p214 : u.1 214 (40 * M + i) = nI (xN m (40 * M + i)) := (hA.1 214 _ rfl).trans h.2.2.1
      have p215 : u.1 215 (40 * M + i) = nI (yN m (40 * M + i)) := (hA.1 215 _ rfl).trans h.2.2.2.1
      rw [show wtp m M (40 * M + i) k = 100 * xN m (40 * M + i) + 20 + 10 * yN m (40 * M + i) + 1 + k from (if_neg e3).trans (if_pos e)]
      (try dsimp only); repeat (first | with_reducible refine wpl ?_ | with_reducible refine wpj ?_ | with_reducible refine wpSl ?_ | with_reducible refine wpSr ?_ | with_reducible refine wpS ?_ | ((with_reducible refine wpt ?_ ?_); · simp (disch := first | omega | decide) only [↓neg1, nlit, rI, rL, rI2, rL1, nI_add, pk_mul, sbT, dvT, nmd, ixT, ↓ibT, ltT, ltF, leT, leF, eqT, eqF, nM_ltT, nM_ltF, nM_leT, nM_leF, nM_eqF, nM_eqF', nbT0, nbT1, oI_s, oI_n, natF, natT, nltT, nltF, nleT, nleF, ↓reduceIte, lgc, not_true_eq_false, not_false_eq_true, or_false, false_or, or_true, true_or, and_true, true_and, and_false, false_and, ne_eq, eq_self, or_self, and_self, p211, e]; done) | ((with_reducible refine wpf ?_ ?_); · simp (disch := first | omega | decide) only [↓neg1, nlit, rI, rL, rI2, rL1, nI_add, pk_mul, sbT, dvT, nmd, ixT, ↓ibT, ltT, ltF, leT, leF, eqT, eqF, nM_ltT, nM_ltF, nM_leT, nM_leF, nM_eqF, nM_eqF', nbT0, nbT1, oI_s, oI_n, natF, natT, nltT, nltF, nleT, nleF, ↓reduceIte, lgc, not_true_eq_false, not_false_eq_true, or_false, false_or, or_true, true_or, and_true, true_and, and_false, false_and, ne_eq, eq_self, or_self, and_self, p211, e]; done))
      rw [ix_n (by omega), p214, p215, show (8 : Int32) * nI (xN m (40 * M + i)) + nI (yN m (40 * M + i)) = nI (8 * xN m (40 * M + i) + yN m (40 * M + i)) by rw [show (8 : Int32) = nI 8 from rfl, pk_mul, nI_add]]
      refine wpe (e422 (by omega) (by omega)) ?_
      rw [nI_1, nI_add]
      rfl
    · have e2 : opn m (40 * M + i) = 19 := by
        unfold wnt at hk
        rw [if_neg e] at hk
        by_cases e2 : opn m (40 * M + i) = 19
        · exact e2
        · rw [if_neg (by omega)] at hk
          omega
      have h := hR.2.2.2.1 (Or.inr e2)
      have p214 : u.1 214 (40 * M + i) = nI (xN m (40 * M + i)) := (hA.1 214 _ rfl).trans h.2.2.1
      have p215 : u.1 215 (40 * M + i) = nI (yN m (40 * M + i)) := (hA.1 215 _ rfl).trans h.2.2.2.1
      rw [show wtp m M (40 * M + i) k = 100 * xN m (40 * M + i) + 1 + yN m (40 * M + i) from (if_neg e3).trans (if_neg e)]
      (try dsimp only); repeat (first | with_reducible refine wpl ?_ | with_reducible refine wpj ?_ | with_reducible refine wpSl ?_ | with_reducible refine wpSr ?_ | with_reducible refine wpS ?_ | ((with_reducible refine wpt ?_ ?_); · simp (disch := first | omega | decide) only [↓neg1, nlit, rI, rL, rI2, rL1, nI_add, pk_mul, sbT, dvT, nmd, ixT, ↓ibT, ltT, ltF, leT, leF, eqT, eqF, nM_ltT, nM_ltF, nM_leT, nM_leF, nM_eqF, nM_eqF', nbT0, nbT1, oI_s, oI_n, natF, natT, nltT, nltF, nleT, nleF, ↓reduceIte, lgc, not_true_eq_false, not_false_eq_true, or_false, false_or, or_true, true_or, and_true, true_and, and_false, false_and, ne_eq, eq_self, or_self, and_self, p211, e2]; done) | ((with_reducible refine wpf ?_ ?_); · simp (disch := first | omega | decide) only [↓neg1, nlit, rI, rL, rI2, rL1, nI_add, pk_mul, sbT, dvT, nmd, ixT, ↓ibT, ltT, ltF, leT, leF, eqT, eqF, nM_ltT, nM_ltF, nM_leT, nM_leF, nM_eqF, nM_eqF', nbT0, nbT1, oI_s, oI_n, natF, natT, nltT, nltF, nleT, nleF, ↓reduceIte, lgc, not_true_eq_false, not_false_eq_true, or_false, false_or, or_true, true_or, and_true, true_and, and_false, false_and, ne_eq, eq_self, or_self, and_self, p211, e2]; done))
      rw [ix_n (by omega), p214, p215]
      refine wpe e451 ?_
      rfl
theorem e459 (hA : AG m u) (hC : CCS c m) (hM : isMt m M) (hi : i < 40) (hac : m.1 211 (40 * M + i) = nI (opn m (40 * M + i))) (hop : opn m (40 * M + i) ≤ 30) (hR : OPR c m M a (40 * M + i)) (hk : k < wnt m (40 * M + i)) : d_459 n (nI (40 * M + i)) (nI k) u = some (nI (wnt m (40 * M + i) - 1 - k)) := by
  have hM96 := isMt_lt hC hM
  have p211 : u.1 211 (40 * M + i) = nI (opn m (40 * M + i)) := (hA.1 211 _ rfl).trans hac
  refine eq_wp ?_
  unfold d_459
  by_cases e : opn m (40 * M + i) = 20
  · (try dsimp only); repeat (first | with_reducible refine wpl ?_ | with_reducible refine wpj ?_ | with_reducible refine wpSl ?_ | with_reducible refine wpSr ?_ | with_reducible refine wpS ?_ | ((with_reducible refine wpt ?_ ?_); · simp (disch := first | omega | decide) only [↓neg1, nlit, rI, rL, rI2, rL1, nI_add, pk_mul, sbT, dvT, nmd, ixT, ↓ibT, ltT, ltF, leT, leF, eqT, eqF, nM_ltT, nM_ltF, nM_leT, nM_leF, nM_eqF, nM_eqF', nbT0, nbT1, oI_s, oI_n, natF, natT, nltT, nltF, nleT, nleF, ↓reduceIte, lgc, not_true_eq_false, not_false_eq_true, or_false, false_or, or_true, true_or, and_true, true_and, and_false, false_and, ne_eq, eq_self, or_self, and_self, p211, e]; done) | ((with_reducible refine wpf ?_ ?_); · simp (disch := first | omega | decide) only [↓neg1, nlit, rI, rL, rI2, rL1, nI_add, pk_mul, sbT, dvT, nmd, ixT, ↓ibT, ltT, ltF, leT, leF, eqT, eqF, nM_ltT, nM_ltF, nM_leT, nM_leF, nM_eqF, nM_eqF', nbT0, nbT1, oI_s, oI_n, natF, natT, nltT, nltF, nleT, nleF, ↓reduceIte, lgc, not_true_eq_false, not_false_eq_true, or_false, false_or, or_true, true_or, and_true, true_and, and_false, false_and, ne_eq, eq_self, or_self, and_self, p211, e]; done))
    refine wpe (e457 hA hC hM hi hac hop hR) ?_
    rw [show nI (wnt m (40 * M + i)) - 1 = nI (wnt m (40 * M + i) - 1) from pk_sub (b := 1) (by omega), pk_sub (by omega)]
    rfl
  · have hw1 : wnt m (40 * M + i) ≤ 1 := by
      unfold wnt
      rw [if_neg e]
      split <;> omega
    rw [show wnt m (40 * M + i) - 1 - k = 0 by omega]
    (try dsimp only); repeat (first | with_reducible refine wpl ?_ | with_reducible refine wpj ?_ | with_reducible refine wpSl ?_ | with_reducible refine wpSr ?_ | with_reducible refine wpS ?_ | ((with_reducible refine wpt ?_ ?_); · simp (disch := first | omega | decide) only [↓neg1, nlit, rI, rL, rI2, rL1, nI_add, pk_mul, sbT, dvT, nmd, ixT, ↓ibT, ltT, ltF, leT, leF, eqT, eqF, nM_ltT, nM_ltF, nM_leT, nM_leF, nM_eqF, nM_eqF', nbT0, nbT1, oI_s, oI_n, natF, natT, nltT, nltF, nleT, nleF, ↓reduceIte, lgc, not_true_eq_false, not_false_eq_true, or_false, false_or, or_true, true_or, and_true, true_and, and_false, false_and, ne_eq, eq_self, or_self, and_self, p211]; done) | ((with_reducible refine wpf ?_ ?_); · simp (disch := first | omega | decide) only [↓neg1, nlit, rI, rL, rI2, rL1, nI_add, pk_mul, sbT, dvT, nmd, ixT, ↓ibT, ltT, ltF, leT, leF, eqT, eqF, nM_ltT, nM_ltF, nM_leT, nM_leF, nM_eqF, nM_eqF', nbT0, nbT1, oI_s, oI_n, natF, natT, nltT, nltF, nleT, nleF, ↓reduceIte, lgc, not_true_eq_false, not_false_eq_true, or_false, false_or, or_true, true_or, and_true, true_and, and_false, false_and, ne_eq, eq_self, or_self, and_self, p211]; done))
    rfl
end RW
