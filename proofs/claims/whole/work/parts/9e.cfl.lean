/-! FLOW: the class follows all METHODS -/
def XC (m : cS) (o : Nat) (w : cS) (M : Nat) : Nat → Option (Nat → Nat) := CX (lcn m M) (ix (m.1 188 o)) (fun x => w.2 151 (fa w M + x))
theorem SOL_cg {c m : cS} {o M : Nat} {K K' ent : Nat → Nat} {X X' : Nat → Option (Nat → Nat)} (hX : FX c m o M K') (h : ∀ i, i < acn m M → X' i = X i) (hS : SOL m o M K ent X) : SOL m o M K ent X' := by
  obtain ⟨h1, h2, h3⟩ := hS
  have hn1 := (FX_L hX).2.2.2.1
  refine ⟨fun i g hi hg => h1 i g hi ((h i hi).symm.trans hg), ⟨?_, fun i g hi hg => ?_⟩, fun Y hY hC i f hi hf => h3 Y hY hC i f hi ((h i hi).symm.trans hf)⟩
  · obtain ⟨g, g1, g2⟩ := h2.1
    exact ⟨g, (h 0 (by omega)).trans g1, g2⟩
  · have hg' := (h i hi).symm.trans hg
    obtain ⟨a1, a2⟩ := h2.2 i g hi hg'
    refine ⟨fun z => ?_, fun t ht ht2 => ?_⟩
    · obtain ⟨y, y1, y2⟩ := a1 z
      exact ⟨y, (h _ (RCH_nx hX.2.2.1 hX.2.2.2.1 hi (h1 i g hi hg').1 z).1).trans y1, y2⟩
    · obtain ⟨y, y1, y2⟩ := a2 t ht ht2
      exact ⟨y, (h t ht2).trans y1, y2⟩
theorem erI_cg {m : cS} {o M : Nat} {K : Nat → Nat} {X X' : Nat → Option (Nat → Nat)} : ∀ N, (∀ i, i < N → X' i = X i) → erI m o K X' M N = erI m o K X M N
  | 0, _ => rfl
  | N + 1, h => by
    show erI m o K X' M N ++ erX m o K X' M N = erI m o K X M N ++ erX m o K X M N
    rw [erI_cg N (fun i hi => h i (by omega))]
    unfold erX
    rw [h N (by omega)]
theorem erM_cg {m : cS} {o : Nat} {K : Nat → Nat} {X X' : Nat → Nat → Option (Nat → Nat)} : ∀ N, (∀ M i, M < N → isMt m M → i < acn m M → X' M i = X M i) → erM m o K X' N = erM m o K X N
  | 0, _ => rfl
  | N + 1, h => by
    show erM m o K X' N ++ _ = erM m o K X N ++ _
    rw [erM_cg N (fun M i hM => h M i (by omega))]
    by_cases e : mtb m N = true
    · rw [if_pos e, if_pos e, erI_cg _ (fun i hi => h N i (by omega) (mtb_t.mp e) hi)]
    · rw [if_neg e, if_neg e]
theorem erM_end {m : cS} {o : Nat} {K : Nat → Nat} {X : Nat → Nat → Option (Nat → Nat)} : ∀ d, erM m o K X (8 * ccn m + d) = erM m o K X (8 * ccn m)
  | 0 => rfl
  | d + 1 => by
    show erM m o K X (8 * ccn m + d) ++ _ = _
    rw [erM_end d, if_neg (fun z => by
      have h1 : (8 * ccn m + d) / 8 < ccn m := (mtb_t.mp z).1
      omega), List.append_nil]
theorem e157 {n M : Nat} {c m : cS} (hC : CCS c m) (hM : M < 8 * ccn m) : d_157 n (nI M) c = some (if mtb m M then nI 1 else nI 0) := by
  have h12 := (CCS_p hC).1
  have hq := (hC.1.2.2.2.2.1 (M / 8) (by omega))
  have hq1 := hq.1
  have c17 := hq.2.1
  refine eq_wp ?_
  unfold d_157
  rw [show nI M / 8 = nI (M / 8) from dvT (by omega) (by decide) (by decide)]
  rw [show nI (M / 8) * 8 = nI (M / 8 * 8) from pk_mul (M / 8) 8, show nI M - nI (M / 8 * 8) = nI (M % 8) by rw [pk_sub (by omega)]; exact congrArg nI (by omega), ix_n (by omega), c17]
  by_cases e : M % 8 < qM m (M / 8)
  · rw [if_pos (mtb_t.mpr ⟨by omega, e⟩)]
    (try dsimp only); repeat (first | with_reducible refine wpl ?_ | with_reducible refine wpj ?_ | with_reducible refine wpSl ?_ | with_reducible refine wpSr ?_ | with_reducible refine wpS ?_ | ((with_reducible refine wpt ?_ ?_); · simp (disch := first | omega | decide) only [↓neg1, nlit, rI, rL, rI2, rL1, nI_add, pk_mul, sbT, dvT, nmd, ixT, ↓ibT, ltT, ltF, leT, leF, eqT, eqF, nM_ltT, nM_ltF, nM_leT, nM_leF, nM_eqF, nM_eqF', nbT0, nbT1, oI_s, oI_n, natF, natT, nltT, nltF, nleT, nleF, ↓reduceIte, lgc, not_true_eq_false, not_false_eq_true, or_false, false_or, or_true, true_or, and_true, true_and, and_false, false_and, ne_eq, eq_self, or_self, and_self]; done) | ((with_reducible refine wpf ?_ ?_); · simp (disch := first | omega | decide) only [↓neg1, nlit, rI, rL, rI2, rL1, nI_add, pk_mul, sbT, dvT, nmd, ixT, ↓ibT, ltT, ltF, leT, leF, eqT, eqF, nM_ltT, nM_ltF, nM_leT, nM_leF, nM_eqF, nM_eqF', nbT0, nbT1, oI_s, oI_n, natF, natT, nltT, nltF, nleT, nleF, ↓reduceIte, lgc, not_true_eq_false, not_false_eq_true, or_false, false_or, or_true, true_or, and_true, true_and, and_false, false_and, ne_eq, eq_self, or_self, and_self]; done))
    rfl
  · rw [if_neg (fun z => e (mtb_t.mp z).2)]
    (try dsimp only); repeat (first | with_reducible refine wpl ?_ | with_reducible refine wpj ?_ | with_reducible refine wpSl ?_ | with_reducible refine wpSr ?_ | with_reducible refine wpS ?_ | ((with_reducible refine wpt ?_ ?_); · simp (disch := first | omega | decide) only [↓neg1, nlit, rI, rL, rI2, rL1, nI_add, pk_mul, sbT, dvT, nmd, ixT, ↓ibT, ltT, ltF, leT, leF, eqT, eqF, nM_ltT, nM_ltF, nM_leT, nM_leF, nM_eqF, nM_eqF', nbT0, nbT1, oI_s, oI_n, natF, natT, nltT, nltF, nleT, nleF, ↓reduceIte, lgc, not_true_eq_false, not_false_eq_true, or_false, false_or, or_true, true_or, and_true, true_and, and_false, false_and, ne_eq, eq_self, or_self, and_self]; done) | ((with_reducible refine wpf ?_ ?_); · simp (disch := first | omega | decide) only [↓neg1, nlit, rI, rL, rI2, rL1, nI_add, pk_mul, sbT, dvT, nmd, ixT, ↓ibT, ltT, ltF, leT, leF, eqT, eqF, nM_ltT, nM_ltF, nM_leT, nM_leF, nM_eqF, nM_eqF', nbT0, nbT1, oI_s, oI_n, natF, natT, nltT, nltF, nleT, nleF, ↓reduceIte, lgc, not_true_eq_false, not_false_eq_true, or_false, false_or, or_true, true_or, and_true, true_and, and_false, false_and, ne_eq, eq_self, or_self, and_self]; done))
    rfl
theorem wnt_le {c m : cS} {M i a : Nat} (hC : CCS c m) (hR : OPR c m M a (40 * M + i)) : wnt m (40 * M + i) ≤ 4 := by
  unfold wnt
  by_cases e : opn m (40 * M + i) = 20
  · rw [if_pos e]
    have h := hR.2.2.2.2.1 e
    exact (hC.1.2.2.2.2.2 _ _ h.1 h.2.1).1
  · rw [if_neg e]
    split <;> omega
theorem e205 {n M o : Nat} {w m u : cS} {L : List (Nat × Nat × Nat × Nat × Nat)} (hn : 1000 ≤ n) (h : FC w m u o) (hM : isMt m M) (hB : WB m) (hG : GD m o M (lcn m M) (fun x => w.2 151 (fa w M + x))) (hL : ERC w L) (hLl : L.length ≤ wM m M) :
    wp (d_205 n (nI M) w) (fun r => sx qEr w r ∧ ERC r (L ++ erI m o (fun p => TM m w p o) (XC m o w M) M (acn m M))) := by
  have hX := FC_X h hM
  have hn40 := (FX_L hX).2.2.1
  have hM96 := isMt_lt hX.2.1 hM
  have hbt := (FX_L hX).2.2.2.2
  have hmt := (hX.2.2.1.2.1 M hM).1
  have h120 := hmt.2.2.1
  have h119 := hmt.2.2.2.2.2.2.2.1
  have hF := hmt.2.2.2.2.2.2.2.2
  have hFC : ∀ x, sx qEr w x → FC x m u o ∧ (∀ p, TM m x p o = TM m w p o) ∧ fa x M = fa w M := by
    intro x hx
    obtain ⟨g1, g2⟩ := FC_sx h hx nC_Er (fun i => decide_eq_false (by omega)) (fun i => decide_eq_false (by omega)) (fun i => decide_eq_false (by omega)) (decide_eq_false (by omega))
    exact ⟨g1, g2, FC_fa hx nC_Er⟩
  unfold d_205
  refine wpc (K' := fun r : cS => sx qEr w r ∧ ERC r (L ++ erI m o (fun p => TM m w p o) (XC m o w M) M (acn m M))) (whl_cnt (fun i (st : Int32 × cS) => st.1 = nI i ∧ sx qEr w st.2 ∧ ERC st.2 (L ++ erI m o (fun p => TM m w p o) (XC m o w M) M i)) (acn m M) ?_ ?_ (by omega) ⟨rfl, sx_rfl, ?_⟩) (fun r hr => hr)
  · rintro i ⟨a, x⟩ hi ⟨g1, g2, g3⟩
    dsimp only at g1 g2 g3
    subst g1
    have p120 : x.1 120 M = nI (acn m M) := (g2.1 120 M rfl).trans h120
    have p119 : x.1 119 M = nI (fa w M) := (g2.1 119 M rfl).trans h119
    (try dsimp only); repeat (first | with_reducible refine wpl ?_ | with_reducible refine wpj ?_ | with_reducible refine wpSl ?_ | with_reducible refine wpSr ?_ | with_reducible refine wpS ?_ | ((with_reducible refine wpt ?_ ?_); · simp (disch := first | omega | decide) only [↓neg1, nlit, rI, rL, rI2, rL1, nI_add, pk_mul, sbT, dvT, nmd, ixT, ↓ibT, ltT, ltF, leT, leF, eqT, eqF, nM_ltT, nM_ltF, nM_leT, nM_leF, nM_eqF, nM_eqF', nbT0, nbT1, oI_s, oI_n, natF, natT, nltT, nltF, nleT, nleF, ↓reduceIte, lgc, not_true_eq_false, not_false_eq_true, or_false, false_or, or_true, true_or, and_true, true_and, and_false, false_and, ne_eq, eq_self, or_self, and_self, p120]; done) | ((with_reducible refine wpf ?_ ?_); · simp (disch := first | omega | decide) only [↓neg1, nlit, rI, rL, rI2, rL1, nI_add, pk_mul, sbT, dvT, nmd, ixT, ↓ibT, ltT, ltF, leT, leF, eqT, eqF, nM_ltT, nM_ltF, nM_leT, nM_leF, nM_eqF, nM_eqF', nbT0, nbT1, oI_s, oI_n, natF, natT, nltT, nltF, nleT, nleF, ↓reduceIte, lgc, not_true_eq_false, not_false_eq_true, or_false, false_or, or_true, true_or, and_true, true_and, and_false, false_and, ne_eq, eq_self, or_self, and_self, p120]; done))
    rw [ix_n (by omega), p119, nI_add]
    have hw4 := wnt_le hX.2.1 (MTS_ac hX.2.2.1 hM hi).2.2.2.2.2.2.1
    have hW := WB_at (k := 0) hB hM hM96 hi (Nat.zero_le _)
    by_cases e1 : w.2 151 (fa w M + i) = -1
    · have hno : erX m o (fun p => TM m w p o) (XC m o w M) M i = [] := by
        unfold erX
        rw [show XC m o w M i = none from if_pos e1]
      refine wpc (K' := fun y : cS => y = x) (whl_cnt (fun _ (st : Int32 × cS) => st = (nI 0, x)) 0 (fun k s hk => by omega) ?_ (by omega) rfl) (fun y hy => ?_)
      · rintro st rfl
        refine wpe (e168 (hFC x g2).1.1.2.2 hM hi (by rw [(hFC x g2).2.2])) ?_
        have e1x : x.2 151 (fa w M + i) = -1 := (g2.2 151 _ rfl).trans e1
        by_cases e2 : wnt m (40 * M + i) = 0
        · rw [e2]
          (try dsimp only); repeat (first | with_reducible refine wpl ?_ | with_reducible refine wpj ?_ | with_reducible refine wpSl ?_ | with_reducible refine wpSr ?_ | with_reducible refine wpS ?_ | ((with_reducible refine wpt ?_ ?_); · simp (disch := first | omega | decide) only [↓neg1, nlit, rI, rL, rI2, rL1, nI_add, pk_mul, sbT, dvT, nmd, ixT, ↓ibT, ltT, ltF, leT, leF, eqT, eqF, nM_ltT, nM_ltF, nM_leT, nM_leF, nM_eqF, nM_eqF', nbT0, nbT1, oI_s, oI_n, natF, natT, nltT, nltF, nleT, nleF, ↓reduceIte, lgc, not_true_eq_false, not_false_eq_true, or_false, false_or, or_true, true_or, and_true, true_and, and_false, false_and, ne_eq, eq_self, or_self, and_self]; done) | ((with_reducible refine wpf ?_ ?_); · simp (disch := first | omega | decide) only [↓neg1, nlit, rI, rL, rI2, rL1, nI_add, pk_mul, sbT, dvT, nmd, ixT, ↓ibT, ltT, ltF, leT, leF, eqT, eqF, nM_ltT, nM_ltF, nM_leT, nM_leF, nM_eqF, nM_eqF', nbT0, nbT1, oI_s, oI_n, natF, natT, nltT, nltF, nleT, nleF, ↓reduceIte, lgc, not_true_eq_false, not_false_eq_true, or_false, false_or, or_true, true_or, and_true, true_and, and_false, false_and, ne_eq, eq_self, or_self, and_self]; done))
          rfl
        · refine wpf (by dsimp only; simp (disch := first | omega | decide) only [↓neg1, nlit, rI, rL, rI2, rL1, nI_add, pk_mul, sbT, dvT, nmd, ixT, ↓ibT, ltT, ltF, leT, leF, eqT, eqF, nM_ltT, nM_ltF, nM_leT, nM_leF, nM_eqF, nM_eqF', nbT0, nbT1, oI_s, oI_n, natF, natT, nltT, nltF, nleT, nleF, ↓reduceIte, lgc, not_true_eq_false, not_false_eq_true, or_false, false_or, or_true, true_or, and_true, true_and, and_false, false_and, ne_eq, eq_self, or_self, and_self]) (wpt (by simp (disch := first | omega | decide) only [↓neg1, nlit, rI, rL, rI2, rL1, nI_add, pk_mul, sbT, dvT, nmd, ixT, ↓ibT, ltT, ltF, leT, leF, eqT, eqF, nM_ltT, nM_ltF, nM_leT, nM_leF, nM_eqF, nM_eqF', nbT0, nbT1, oI_s, oI_n, natF, natT, nltT, nltF, nleT, nleF, ↓reduceIte, lgc, not_true_eq_false, not_false_eq_true, or_false, false_or, or_true, true_or, and_true, true_and, and_false, false_and, ne_eq, eq_self, or_self, and_self]) (wpt ?_ rfl))
          rw [ix_n (by omega)]
          show (lg_cmp _ _ = nI 0)
          rw [lgc]
          exact e1x
      · subst hy
        refine ⟨nI_1 _, g2, ?_⟩
        show ERC _ (L ++ (erI _ _ _ _ _ i ++ erX _ _ _ _ _ i))
        rw [hno, List.append_nil]
        exact g3
    · obtain ⟨r1, r2, r3⟩ := GD_ok hG hbt hi e1
      have hsome : erX m o (fun p => TM m w p o) (XC m o w M) M i = erK m o (fun p => TM m w p o) M (40 * M + i) i (av (lcn m M) (ix (m.1 188 o)) (w.2 151 (fa w M + i))) (wnt m (40 * M + i)) := by
        unfold erX
        rw [show XC m o w M i = some (av (lcn m M) (ix (m.1 188 o)) (w.2 151 (fa w M + i))) from if_neg e1]
      generalize hI : erI m o (fun p => TM m w p o) (XC m o w M) M i = I at g3
      have hIl : I.length ≤ wI m M i := by
        rw [← hI]
        exact erI_len _
      generalize hse : w.2 151 (fa w M + i) = s at *
      refine wpc (K' := fun y : cS => sx qEr w y ∧ ERC y (L ++ I ++ erK m o (fun p => TM m w p o) M (40 * M + i) i (av (lcn m M) (ix (m.1 188 o)) s) (wnt m (40 * M + i)))) (whl_cnt (fun k (st : Int32 × cS) => st.1 = nI k ∧ sx qEr w st.2 ∧ ERC st.2 (L ++ I ++ erK m o (fun p => TM m w p o) M (40 * M + i) i (av (lcn m M) (ix (m.1 188 o)) s) k)) (wnt m (40 * M + i)) ?_ ?_ (by omega) ⟨rfl, g2, ?_⟩) (fun y hy => ?_)
      · rintro k ⟨a, y⟩ hk ⟨q1, q2, q3⟩
        dsimp only at q1 q2 q3
        subst q1
        obtain ⟨f1, f2, f3⟩ := hFC y q2
        have hys : y.2 151 (fa w M + i) = s := (q2.2 151 _ rfl).trans hse
        refine wpe (e168 f1.1.2.2 hM hi (by rw [f3])) (wpf (by dsimp only; simp (disch := first | omega | decide) only [↓neg1, nlit, rI, rL, rI2, rL1, nI_add, pk_mul, sbT, dvT, nmd, ixT, ↓ibT, ltT, ltF, leT, leF, eqT, eqF, nM_ltT, nM_ltF, nM_leT, nM_leF, nM_eqF, nM_eqF', nbT0, nbT1, oI_s, oI_n, natF, natT, nltT, nltF, nleT, nleF, ↓reduceIte, lgc, not_true_eq_false, not_false_eq_true, or_false, false_or, or_true, true_or, and_true, true_and, and_false, false_and, ne_eq, eq_self, or_self, and_self]) (wpt (by simp (disch := first | omega | decide) only [↓neg1, nlit, rI, rL, rI2, rL1, nI_add, pk_mul, sbT, dvT, nmd, ixT, ↓ibT, ltT, ltF, leT, leF, eqT, eqF, nM_ltT, nM_ltF, nM_leT, nM_leF, nM_eqF, nM_eqF', nbT0, nbT1, oI_s, oI_n, natF, natT, nltT, nltF, nleT, nleF, ↓reduceIte, lgc, not_true_eq_false, not_false_eq_true, or_false, false_or, or_true, true_or, and_true, true_and, and_false, false_and, ne_eq, eq_self, or_self, and_self]) (wpf ?_ (wpt (by simp (disch := first | omega | decide) only [↓neg1, nlit, rI, rL, rI2, rL1, nI_add, pk_mul, sbT, dvT, nmd, ixT, ↓ibT, ltT, ltF, leT, leF, eqT, eqF, nM_ltT, nM_ltF, nM_leT, nM_leF, nM_eqF, nM_eqF', nbT0, nbT1, oI_s, oI_n, natF, natT, nltT, nltF, nleT, nleF, ↓reduceIte, lgc, not_true_eq_false, not_false_eq_true, or_false, false_or, or_true, true_or, and_true, true_and, and_false, false_and, ne_eq, eq_self, or_self, and_self]) ?_))))
        · rw [ix_n (by omega)]
          show ¬ (lg_cmp (y.2 151 (fa w M + i)) _ = nI 0)
          rw [lgc, hys]
          exact e1
        rw [ix_n (by omega)]
        dsimp only
        rw [hys]
        refine wpe (e206 f1 hM hi r1 r2 (by rw [f3]) hk) (wpj ?_)
        rw [f2]
        have hb := wts_b r1 hk
        have hav : av (lcn m M) (ix (m.1 188 o)) s (wts m (40 * M + i) k) = nbl s (wts m (40 * M + i) k) := if_neg (by omega)
        by_cases e : mBb m o (nbl s (wts m (40 * M + i) k)) (TM m w (wtp m M (40 * M + i) k) o) = true
        · rw [if_pos e]
          refine wpt rfl (wpl ⟨nI_1 _, q2, ?_⟩)
          show ERC y (L ++ I ++ (erK m o (fun p => TM m w p o) M (40 * M + i) i (av (lcn m M) (ix (m.1 188 o)) s) k ++ (if mBb m o (av (lcn m M) (ix (m.1 188 o)) s (wts m (40 * M + i) k)) (TM m w (wtp m M (40 * M + i) k) o) then [] else [(M, i, k, av (lcn m M) (ix (m.1 188 o)) s (wts m (40 * M + i) k), TM m w (wtp m M (40 * M + i) k) o)])))
          rw [hav, if_pos e, List.append_nil]
          exact q3
        · rw [if_neg e]
          refine wpf (by decide) ?_
          have hW2 := WB_at (k := k + 1) hB hM hM96 hi hk
          generalize hE : erK m o (fun p => TM m w p o) M (40 * M + i) i (av (lcn m M) (ix (m.1 188 o)) s) k = E at q3
          have hEl : E.length ≤ k := by
            rw [← hE]
            exact erK_len _
          have hlen : (L ++ I ++ E).length < 2048 := by
            rw [List.length_append, List.length_append]
            omega
          have q31 := q3.1
          generalize hln : (L ++ I ++ E).length = ln at hlen q31
          refine wpf (by rw [q31]; simp (disch := first | omega | decide) only [↓neg1, nlit, rI, rL, rI2, rL1, nI_add, pk_mul, sbT, dvT, nmd, ixT, ↓ibT, ltT, ltF, leT, leF, eqT, eqF, nM_ltT, nM_ltF, nM_leT, nM_leF, nM_eqF, nM_eqF', nbT0, nbT1, oI_s, oI_n, natF, natT, nltT, nltF, nleT, nleF, ↓reduceIte, lgc, not_true_eq_false, not_false_eq_true, or_false, false_or, or_true, true_or, and_true, true_and, and_false, false_and, ne_eq, eq_self, or_self, and_self]) ?_
          rw [q31, nI_1]
          refine wpl (wpt (by simp (disch := first | omega | decide) only [↓neg1, nlit, rI, rL, rI2, rL1, nI_add, pk_mul, sbT, dvT, nmd, ixT, ↓ibT, ltT, ltF, leT, leF, eqT, eqF, nM_ltT, nM_ltF, nM_leT, nM_leF, nM_eqF, nM_eqF', nbT0, nbT1, oI_s, oI_n, natF, natT, nltT, nltF, nleT, nleF, ↓reduceIte, lgc, not_true_eq_false, not_false_eq_true, or_false, false_or, or_true, true_or, and_true, true_and, and_false, false_and, ne_eq, eq_self, or_self, and_self]) (wpl (wpl ?_)))
          rw [ix_n (by omega), show nI M * 160 + nI i * 4 + nI k = nI (M * 160 + i * 4 + k) by rw [show (160 : Int32) = nI 160 from rfl, show (4 : Int32) = nI 4 from rfl, pk_mul, pk_mul, nI_add, nI_add]]
          refine ⟨nI_1 _, sx_pI (sx_pI q2 (decide_eq_true (by omega))) (decide_eq_true (by omega)), ?_⟩
          show ERC _ (L ++ I ++ (erK m o (fun p => TM m w p o) M (40 * M + i) i (av (lcn m M) (ix (m.1 188 o)) s) k ++ (if mBb m o (av (lcn m M) (ix (m.1 188 o)) s (wts m (40 * M + i) k)) (TM m w (wtp m M (40 * M + i) k) o) then [] else [(M, i, k, av (lcn m M) (ix (m.1 188 o)) s (wts m (40 * M + i) k), TM m w (wtp m M (40 * M + i) k) o)])))
          rw [hav, if_neg e, hE, ← List.append_assoc]
          have := ERC_add (x := (M, i, k, nbl s (wts m (40 * M + i) k), TM m w (wtp m M (40 * M + i) k) o)) q3
          rw [hln] at this
          exact this
      · rintro ⟨a, y⟩ ⟨q1, q2, q3⟩
        dsimp only at q1 q2 q3
        subst q1
        obtain ⟨f1, f2, f3⟩ := hFC y q2
        refine wpe (e168 f1.1.2.2 hM hi (by rw [f3])) (wpt (by dsimp only; simp (disch := first | omega | decide) only [↓neg1, nlit, rI, rL, rI2, rL1, nI_add, pk_mul, sbT, dvT, nmd, ixT, ↓ibT, ltT, ltF, leT, leF, eqT, eqF, nM_ltT, nM_ltF, nM_leT, nM_leF, nM_eqF, nM_eqF', nbT0, nbT1, oI_s, oI_n, natF, natT, nltT, nltF, nleT, nleF, ↓reduceIte, lgc, not_true_eq_false, not_false_eq_true, or_false, false_or, or_true, true_or, and_true, true_and, and_false, false_and, ne_eq, eq_self, or_self, and_self]) ⟨q2, q3⟩)
      · show ERC x (L ++ I ++ [])
        rw [List.append_nil]
        exact g3
      · refine ⟨nI_1 _, hy.1, ?_⟩
        show ERC y (L ++ (erI _ _ _ _ _ i ++ erX _ _ _ _ _ i))
        rw [hsome, hI, ← List.append_assoc]
        exact hy.2
  · rintro ⟨a, x⟩ ⟨g1, g2, g3⟩
    dsimp only at g1 g2 g3
    subst g1
    have p120 : x.1 120 M = nI (acn m M) := (g2.1 120 M rfl).trans h120
    (try dsimp only); repeat (first | with_reducible refine wpl ?_ | with_reducible refine wpj ?_ | with_reducible refine wpSl ?_ | with_reducible refine wpSr ?_ | with_reducible refine wpS ?_ | ((with_reducible refine wpt ?_ ?_); · simp (disch := first | omega | decide) only [↓neg1, nlit, rI, rL, rI2, rL1, nI_add, pk_mul, sbT, dvT, nmd, ixT, ↓ibT, ltT, ltF, leT, leF, eqT, eqF, nM_ltT, nM_ltF, nM_leT, nM_leF, nM_eqF, nM_eqF', nbT0, nbT1, oI_s, oI_n, natF, natT, nltT, nltF, nleT, nleF, ↓reduceIte, lgc, not_true_eq_false, not_false_eq_true, or_false, false_or, or_true, true_or, and_true, true_and, and_false, false_and, ne_eq, eq_self, or_self, and_self, p120]; done) | ((with_reducible refine wpf ?_ ?_); · simp (disch := first | omega | decide) only [↓neg1, nlit, rI, rL, rI2, rL1, nI_add, pk_mul, sbT, dvT, nmd, ixT, ↓ibT, ltT, ltF, leT, leF, eqT, eqF, nM_ltT, nM_ltF, nM_leT, nM_leF, nM_eqF, nM_eqF', nbT0, nbT1, oI_s, oI_n, natF, natT, nltT, nltF, nleT, nleF, ↓reduceIte, lgc, not_true_eq_false, not_false_eq_true, or_false, false_or, or_true, true_or, and_true, true_and, and_false, false_and, ne_eq, eq_self, or_self, and_self, p120]; done))
    exact ⟨g2, g3⟩
  · show ERC w (L ++ [])
    rw [List.append_nil]
    exact hL
