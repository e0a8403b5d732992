/-! FLOW: the reference follows all METHODS -/
def ERR (u : cS) (L : List (Nat × Nat × Nat × Nat × Nat)) : Prop := u.1 174 91 = nI L.length ∧ ∀ j x, L[j]? = some x → u.1 241 j = nI x.1 ∧ u.1 242 j = nI x.2.1 ∧ u.1 243 j = nI x.2.2.1 ∧ u.1 244 j = nI x.2.2.2.1 ∧ u.1 245 j = nI x.2.2.2.2
theorem ERR_add {u : cS} {L : List (Nat × Nat × Nat × Nat × Nat)} {x : Nat × Nat × Nat × Nat × Nat} {l : Nat} (hl : L.length = l) (h : ERR u L) : ERR (pI (pI (pI (pI (pI (pI u 241 l (nI x.1)) 242 l (nI x.2.1)) 243 l (nI x.2.2.1)) 244 l (nI x.2.2.2.1)) 245 l (nI x.2.2.2.2)) 174 91 (nI (l + 1))) (L ++ [x]) := by
  subst hl
  refine ⟨?_, fun j y hy => ?_⟩
  · rw [rI, if_pos ⟨rfl, rfl⟩, List.length_append]
    rfl
  · by_cases e : j = L.length
    · subst e
      rw [List.getElem?_append_right (Nat.le_refl _), Nat.sub_self] at hy
      cases hy
      refine ⟨?_, ?_, ?_, ?_, ?_⟩ <;> simp (disch := first | omega | decide) only [↓neg1, nlit, rI, rL, rI2, rL1, nI_add, pk_mul, sbT, dvT, nmd, ixT, ↓ibT, ltT, ltF, leT, leF, eqT, eqF, nM_ltT, nM_ltF, nM_leT, nM_leF, nM_eqF, nM_eqF', nbT0, nbT1, oI_s, oI_n, natF, natT, nltT, nltF, nleT, nleF, ↓reduceIte, lgc, not_true_eq_false, not_false_eq_true, or_false, false_or, or_true, true_or, and_true, true_and, and_false, false_and, ne_eq, eq_self, or_self, and_self]
    · have hj : j < (L ++ [x]).length := (List.getElem?_eq_some_iff.mp hy).1
      rw [List.length_append] at hj
      have hj2 : j < L.length + 1 := hj
      rw [List.getElem?_append_left (by omega)] at hy
      obtain ⟨h1, h2, h3, h4, h5⟩ := h.2 j y hy
      refine ⟨?_, ?_, ?_, ?_, ?_⟩
      · simp (disch := first | omega | decide) only [↓neg1, nlit, rI, rL, rI2, rL1, nI_add, pk_mul, sbT, dvT, nmd, ixT, ↓ibT, ltT, ltF, leT, leF, eqT, eqF, nM_ltT, nM_ltF, nM_leT, nM_leF, nM_eqF, nM_eqF', nbT0, nbT1, oI_s, oI_n, natF, natT, nltT, nltF, nleT, nleF, ↓reduceIte, lgc, not_true_eq_false, not_false_eq_true, or_false, false_or, or_true, true_or, and_true, true_and, and_false, false_and, ne_eq, eq_self, or_self, and_self, e]
        exact h1
      · simp (disch := first | omega | decide) only [↓neg1, nlit, rI, rL, rI2, rL1, nI_add, pk_mul, sbT, dvT, nmd, ixT, ↓ibT, ltT, ltF, leT, leF, eqT, eqF, nM_ltT, nM_ltF, nM_leT, nM_leF, nM_eqF, nM_eqF', nbT0, nbT1, oI_s, oI_n, natF, natT, nltT, nltF, nleT, nleF, ↓reduceIte, lgc, not_true_eq_false, not_false_eq_true, or_false, false_or, or_true, true_or, and_true, true_and, and_false, false_and, ne_eq, eq_self, or_self, and_self, e]
        exact h2
      · simp (disch := first | omega | decide) only [↓neg1, nlit, rI, rL, rI2, rL1, nI_add, pk_mul, sbT, dvT, nmd, ixT, ↓ibT, ltT, ltF, leT, leF, eqT, eqF, nM_ltT, nM_ltF, nM_leT, nM_leF, nM_eqF, nM_eqF', nbT0, nbT1, oI_s, oI_n, natF, natT, nltT, nltF, nleT, nleF, ↓reduceIte, lgc, not_true_eq_false, not_false_eq_true, or_false, false_or, or_true, true_or, and_true, true_and, and_false, false_and, ne_eq, eq_self, or_self, and_self, e]
        exact h3
      · simp (disch := first | omega | decide) only [↓neg1, nlit, rI, rL, rI2, rL1, nI_add, pk_mul, sbT, dvT, nmd, ixT, ↓ibT, ltT, ltF, leT, leF, eqT, eqF, nM_ltT, nM_ltF, nM_leT, nM_leF, nM_eqF, nM_eqF', nbT0, nbT1, oI_s, oI_n, natF, natT, nltT, nltF, nleT, nleF, ↓reduceIte, lgc, not_true_eq_false, not_false_eq_true, or_false, false_or, or_true, true_or, and_true, true_and, and_false, false_and, ne_eq, eq_self, or_self, and_self, e]
        exact h4
      · simp (disch := first | omega | decide) only [↓neg1, nlit, rI, rL, rI2, rL1, nI_add, pk_mul, sbT, dvT, nmd, ixT, ↓ibT, ltT, ltF, leT, leF, eqT, eqF, nM_ltT, nM_ltF, nM_leT, nM_leF, nM_eqF, nM_eqF', nbT0, nbT1, oI_s, oI_n, natF, natT, nltT, nltF, nleT, nleF, ↓reduceIte, lgc, not_true_eq_false, not_false_eq_true, or_false, false_or, or_true, true_or, and_true, true_and, and_false, false_and, ne_eq, eq_self, or_self, and_self, e]
        exact h5
def qEe (a i : Nat) : Bool := decide ((a = 174 ∧ i = 91) ∨ (241 ≤ a ∧ a ≤ 245))
def qFa (a i : Nat) : Bool := decide ((a = 174 ∧ ((73 ≤ i ∧ i ≤ 79) ∨ i = 90 ∨ i = 91)) ∨ a = 232 ∨ a = 233 ∨ (236 ≤ a ∧ a ≤ 245))
theorem nP_Fa : nP qFa := by
  refine ⟨fun a i h => ?_, fun i h => ?_, fun i h => ?_, fun a i h1 h2 h3 => ?_, fun a i h1 h2 h3 => ?_⟩
  · have := PA_of h
    exact decide_eq_false (by omega)
  · have := PF_of h
    exact decide_eq_false (by omega)
  · exact decide_eq_false (by omega)
  · exact decide_eq_false (by omega)
  · exact decide_eq_false (by omega)
/-- what the reference has found in following -/
def FOR (m : cS) (o : Nat) (K : Nat → Nat) (w : cS) : Prop := MKS m K w ∧ TLD m o w ∧ (∀ M, isMt m M → SOL m o M K (entV m o M K) (RX w M) ∧ RV m M w) ∧ ERR w (erM m o K (RX w) 96)
theorem e105 {n M : Nat} {c m u : cS} (hA : AG m u) (hC : CCS c m) (hM : M < 96) : d_105 n (nI M) u = some (if mtb m M then nI 1 else nI 0) := by
  have h12 := (CCS_p hC).1
  have p37 : u.1 174 37 = nI (ccn m) := (hA.2.2.1 37 rfl).trans hC.1.2.2.1
  refine eq_wp ?_
  unfold d_105
  rw [show nI M / 8 = nI (M / 8) from dvT (by omega) (by decide) (by decide)]
  rw [show nI (M / 8) * 8 = nI (M / 8 * 8) from pk_mul (M / 8) 8, show nI M - nI (M / 8 * 8) = nI (M % 8) by rw [pk_sub (by omega)]; exact congrArg nI (by omega), p37]
  by_cases e1 : M / 8 < ccn m
  · have hq := hC.1.2.2.2.2.1 (M / 8) e1
    have hq1 := hq.1
    have p203 : u.1 203 (M / 8) = nI (qM m (M / 8)) := (hA.1 203 _ rfl).trans hq.2.2
    by_cases e : M % 8 < qM m (M / 8)
    · rw [if_pos (mtb_t.mpr ⟨e1, e⟩)]
      (try dsimp only); repeat (first | with_reducible refine wpl ?_ | with_reducible refine wpj ?_ | with_reducible refine wpSl ?_ | with_reducible refine wpSr ?_ | with_reducible refine wpS ?_ | ((with_reducible refine wpt ?_ ?_); · simp (disch := first | omega | decide) only [↓neg1, nlit, rI, rL, rI2, rL1, nI_add, pk_mul, sbT, dvT, nmd, ixT, ↓ibT, ltT, ltF, leT, leF, eqT, eqF, nM_ltT, nM_ltF, nM_leT, nM_leF, nM_eqF, nM_eqF', nbT0, nbT1, oI_s, oI_n, natF, natT, nltT, nltF, nleT, nleF, ↓reduceIte, lgc, not_true_eq_false, not_false_eq_true, or_false, false_or, or_true, true_or, and_true, true_and, and_false, false_and, ne_eq, eq_self, or_self, and_self, p203]; done) | ((with_reducible refine wpf ?_ ?_); · simp (disch := first | omega | decide) only [↓neg1, nlit, rI, rL, rI2, rL1, nI_add, pk_mul, sbT, dvT, nmd, ixT, ↓ibT, ltT, ltF, leT, leF, eqT, eqF, nM_ltT, nM_ltF, nM_leT, nM_leF, nM_eqF, nM_eqF', nbT0, nbT1, oI_s, oI_n, natF, natT, nltT, nltF, nleT, nleF, ↓reduceIte, lgc, not_true_eq_false, not_false_eq_true, or_false, false_or, or_true, true_or, and_true, true_and, and_false, false_and, ne_eq, eq_self, or_self, and_self, p203]; done))
      rfl
    · rw [if_neg (fun z => e (mtb_t.mp z).2)]
      (try dsimp only); repeat (first | with_reducible refine wpl ?_ | with_reducible refine wpj ?_ | with_reducible refine wpSl ?_ | with_reducible refine wpSr ?_ | with_reducible refine wpS ?_ | ((with_reducible refine wpt ?_ ?_); · simp (disch := first | omega | decide) only [↓neg1, nlit, rI, rL, rI2, rL1, nI_add, pk_mul, sbT, dvT, nmd, ixT, ↓ibT, ltT, ltF, leT, leF, eqT, eqF, nM_ltT, nM_ltF, nM_leT, nM_leF, nM_eqF, nM_eqF', nbT0, nbT1, oI_s, oI_n, natF, natT, nltT, nltF, nleT, nleF, ↓reduceIte, lgc, not_true_eq_false, not_false_eq_true, or_false, false_or, or_true, true_or, and_true, true_and, and_false, false_and, ne_eq, eq_self, or_self, and_self, p203]; done) | ((with_reducible refine wpf ?_ ?_); · simp (disch := first | omega | decide) only [↓neg1, nlit, rI, rL, rI2, rL1, nI_add, pk_mul, sbT, dvT, nmd, ixT, ↓ibT, ltT, ltF, leT, leF, eqT, eqF, nM_ltT, nM_ltF, nM_leT, nM_leF, nM_eqF, nM_eqF', nbT0, nbT1, oI_s, oI_n, natF, natT, nltT, nltF, nleT, nleF, ↓reduceIte, lgc, not_true_eq_false, not_false_eq_true, or_false, false_or, or_true, true_or, and_true, true_and, and_false, false_and, ne_eq, eq_self, or_self, and_self, p203]; done))
      rfl
  · rw [if_neg (fun z => e1 (mtb_t.mp z).1)]
    (try dsimp only); repeat (first | with_reducible refine wpl ?_ | with_reducible refine wpj ?_ | with_reducible refine wpSl ?_ | with_reducible refine wpSr ?_ | with_reducible refine wpS ?_ | ((with_reducible refine wpt ?_ ?_); · simp (disch := first | omega | decide) only [↓neg1, nlit, rI, rL, rI2, rL1, nI_add, pk_mul, sbT, dvT, nmd, ixT, ↓ibT, ltT, ltF, leT, leF, eqT, eqF, nM_ltT, nM_ltF, nM_leT, nM_leF, nM_eqF, nM_eqF', nbT0, nbT1, oI_s, oI_n, natF, natT, nltT, nltF, nleT, nleF, ↓reduceIte, lgc, not_true_eq_false, not_false_eq_true, or_false, false_or, or_true, true_or, and_true, true_and, and_false, false_and, ne_eq, eq_self, or_self, and_self]; done) | ((with_reducible refine wpf ?_ ?_); · simp (disch := first | omega | decide) only [↓neg1, nlit, rI, rL, rI2, rL1, nI_add, pk_mul, sbT, dvT, nmd, ixT, ↓ibT, ltT, ltF, leT, leF, eqT, eqF, nM_ltT, nM_ltF, nM_leT, nM_leF, nM_eqF, nM_eqF', nbT0, nbT1, oI_s, oI_n, natF, natT, nltT, nltF, nleT, nleF, ↓reduceIte, lgc, not_true_eq_false, not_false_eq_true, or_false, false_or, or_true, true_or, and_true, true_and, and_false, false_and, ne_eq, eq_self, or_self, and_self]; done))
    rfl
theorem RX_s {u w : cS} {M i : Nat} {r : Nat → Nat → Bool} (hw : sx r u w) (h1 : r 239 (40 * M + i) = false) (h2 : ∀ s, s < 16 → r 238 (16 * (40 * M + i) + s) = false) : RX w M i = RX u M i := by
  have h3 : rxv w (40 * M + i) = rxv u (40 * M + i) := by
    funext s
    unfold rxv
    by_cases e : s < 16
    · rw [if_pos e, if_pos e, hw.1 238 _ (h2 s e)]
    · rw [if_neg e, if_neg e]
  unfold RX
  rw [hw.1 239 _ h1, h3]
theorem RV_s {m u w : cS} {M : Nat} {r : Nat → Nat → Bool} (hw : sx r u w) (h1 : ∀ i, i < acn m M → r 239 (40 * M + i) = false) (h2 : ∀ i s, i < acn m M → s < 16 → r 238 (16 * (40 * M + i) + s) = false) (h : RV m M u) : RV m M w := by
  intro i hi
  have h3 : rxv w (40 * M + i) = rxv u (40 * M + i) := by
    funext s
    unfold rxv
    by_cases e : s < 16
    · rw [if_pos e, if_pos e, hw.1 238 _ (h2 i s hi e)]
    · rw [if_neg e, if_neg e]
  obtain ⟨a1, a2⟩ := h i hi
  rw [hw.1 239 _ (h1 i hi), h3]
  refine ⟨a1, fun e s hs => ?_⟩
  rw [hw.1 238 _ (h2 i s hi hs)]
  exact a2 e s hs
theorem e460 {n o : Nat} {c m u : cS} (hn : 100000 ≤ n) (h0 : c.1 7 0 = nI 1) (h0' : m.1 174 14 = nI 1) (hA : AG m u) (hG : PG c m) (ho : o < ocn m) (hF : FD m c u) (hK : okK m o (fun p => TM m c p o)) (hB : WB m) : wp (d_460 n (nI o) u) (fun w => sx qFa u w ∧ FOR m o (fun p => TM m c p o) w) := by
  have hE := hG.1
  have hC := hE.2.2.1
  have hT := hG.2.2
  have hO := hE.1
  have h12 := (CCS_p hC).1
  have hX : ∀ M, isMt m M → FX c m o M (fun p => TM m c p o) := fun M hM => ⟨hO, hC, hT, hM, ho, hK⟩
  have ho4 := hO.1
  generalize hKe : (fun p => TM m c p o) = K at *
  unfold d_460
  have h450 := e450 (n := n) (by omega) h0 h0' hA hE ho hF
  rw [hKe] at h450
  refine wpc h450 (fun w0 hw0 => wpl ?_)
  obtain ⟨a1, a2, a3⟩ := hw0
  have s0 : sx qFa u (pI w0 174 91 0) := sx_pI (sx_wide a1 (fun a i z => by
    have := of_decide_eq_false z
    exact decide_eq_false (by omega))) (decide_eq_true (by omega))
  have m0 : MKS m K (pI w0 174 91 0) := fun p s hp hs => by
    rw [rI, if_neg (by omega)]
    exact a2 p s hp hs
  have t0 : TLD m o (pI w0 174 91 0) := fun p s hp hs => by
    rw [rI, if_neg (by omega)]
    exact a3 p s hp hs
  have hAs : ∀ w, sx qFa u w → AG m w := fun w hw => AG_sx hA hw nP_Fa
  refine wpc (K' := fun w : cS => sx qFa u w ∧ FOR m o K w) (whl_cnt (fun M (st : Int32 × cS) => st.1 = nI M ∧ sx qFa u st.2 ∧ MKS m K st.2 ∧ TLD m o st.2 ∧ (∀ N, N < M → isMt m N → SOL m o N K (entV m o N K) (RX st.2 N) ∧ RV m N st.2) ∧ ERR st.2 (erM m o K (RX st.2) M)) 96 ?_ ?_ (by omega) ⟨rfl, s0, m0, t0, fun N hN => by omega, ?_⟩) (fun w hw => hw)
  · rintro M ⟨a, x⟩ hM ⟨g1, g2, g3, g4, g5, g6⟩
    dsimp only at g1 g2 g3 g4 g5 g6
    subst g1
    refine wpf (by dsimp only; simp (disch := first | omega | decide) only [↓neg1, nlit, rI, rL, rI2, rL1, nI_add, pk_mul, sbT, dvT, nmd, ixT, ↓ibT, ltT, ltF, leT, leF, eqT, eqF, nM_ltT, nM_ltF, nM_leT, nM_leF, nM_eqF, nM_eqF', nbT0, nbT1, oI_s, oI_n, natF, natT, nltT, nltF, nleT, nleF, ↓reduceIte, lgc, not_true_eq_false, not_false_eq_true, or_false, false_or, or_true, true_or, and_true, true_and, and_false, false_and, ne_eq, eq_self, or_self, and_self]) (wpe (e105 (hAs x g2) hC hM) (wpj ?_))
    by_cases e : mtb m M = true
    · have hMt := mtb_t.mp e
      have hXM := hX M hMt
      have hn40 := (FX_L hXM).2.2.1
      have hmt := (hT.2.1 M hMt).1
      have h210 := hmt.2.1
      rw [if_pos e]
      refine wpf (by decide) ?_
      refine wpc (e456 hn (hAs x g2) hXM g3) (fun w1 hw1 => ?_)
      obtain ⟨b1, b2, b3⟩ := hw1
      have s1 : sx qFa u w1 := sx_trans g2 (sx_wide b1 (fun a i z => by
        have := of_decide_eq_false z
        exact decide_eq_false (by omega)))
      have m1 : MKS m K w1 := fun p s hp hs => (b1.1 236 p (decide_eq_false (by omega))).trans (g3 p s hp hs)
      have t1 : TLD m o w1 := fun p s hp hs => (b1.1 237 p (decide_eq_false (by omega))).trans (g4 p s hp hs)
      have hacn : ∀ N i, isMt m N → i < acn m N → i < 40 := fun N i hN hi => by
        have := (FX_L (hX N hN)).2.2.1
        omega
      have hXo : ∀ N i, N < M → isMt m N → i < acn m N → RX w1 N i = RX x N i := by
        intro N i hN hNt hi
        have := hacn N i hNt hi
        exact RX_s b1 (decide_eq_false (by omega)) (fun s hs => decide_eq_false (by omega))
      have er1 : ERR w1 (erM m o K (RX w1) M) := by
        rw [erM_cg M hXo]
        refine ⟨(b1.1 174 91 (decide_eq_false (by omega))).trans g6.1, fun j y hy => ?_⟩
        rw [b1.1 241 j (decide_eq_false (by omega)), b1.1 242 j (decide_eq_false (by omega)), b1.1 243 j (decide_eq_false (by omega)), b1.1 244 j (decide_eq_false (by omega)), b1.1 245 j (decide_eq_false (by omega))]
        exact g6.2 j y hy
      have so1 : ∀ N, N < M + 1 → isMt m N → SOL m o N K (entV m o N K) (RX w1 N) ∧ RV m N w1 := by
        intro N hN hNt
        by_cases eN : N = M
        · subst eN
          exact ⟨b2, b3⟩
        · obtain ⟨y1, y2⟩ := g5 N (by omega) hNt
          refine ⟨SOL_cg (hX N hNt) (fun i hi => hXo N i (by omega) hNt hi) y1, RV_s b1 (fun i hi => ?_) (fun i s hi hs => ?_) y2⟩
          · have := hacn N i hNt hi
            exact decide_eq_false (by omega)
          · have := hacn N i hNt hi
            exact decide_eq_false (by omega)
      -- the ERRORS of this METHOD
      refine wpc (K' := fun y : cS => sx qEe w1 y ∧ ERR y (erM m o K (RX w1) M ++ erI m o K (RX w1 M) M (acn m M))) (whl_cnt (fun i (st : Int32 × cS) => st.1 = nI i ∧ sx qEe w1 st.2 ∧ ERR st.2 (erM m o K (RX w1) M ++ erI m o K (RX w1 M) M i)) (acn m M) ?_ ?_ (by omega) ⟨rfl, sx_rfl, by rw [show erI m o K (RX w1 M) M 0 = [] from rfl, List.append_nil]; exact er1⟩) (fun w2 hw2 => ?_)
      · rintro i ⟨a, y⟩ hi ⟨q1, q2, q3⟩
        dsimp only at q1 q2 q3
        subst q1
        have p210 : y.1 210 M = nI (acn m M) := (q2.1 210 M rfl).trans (((hAs w1 s1).1 210 M rfl).trans h210)
        have hac := MTS_ac hT hMt hi
        have hR := hac.2.2.2.2.2.2.1
        have hop := hac.1.2
        have hw4 := wnt_le hC hR
        have hi40 := hacn M i hMt hi
        have hMm := isMt_lt hC hMt
        have hW := WB_at (k := 0) hB hMt hMm hi (Nat.zero_le _)
        have hAe : ∀ y, sx qEe w1 y → AG m y := fun y hy => hAs y (sx_trans s1 (sx_wide hy (fun a i z => by
          have := of_decide_eq_false z
          exact decide_eq_false (by omega))))
        obtain ⟨v1, v2⟩ := b3 i hi
        have hLl : (erM m o K (RX w1) M ++ erI m o K (RX w1 M) M i).length ≤ wM m M + wI m M i := by
          rw [List.length_append]
          have := erM_len (m := m) (o := o) (K := K) (XX := RX w1) M
          have := erI_len (m := m) (o := o) (M := M) (K := K) (X := RX w1 M) i
          omega
        have hsp : erM m o K (RX w1) M ++ erI m o K (RX w1 M) M (i + 1) = erM m o K (RX w1) M ++ erI m o K (RX w1 M) M i ++ erX m o K (RX w1 M) M i := by
          rw [List.append_assoc]
          rfl
        rw [hsp]
        generalize hL : erM m o K (RX w1) M ++ erI m o K (RX w1 M) M i = L at q3 hLl
        (try dsimp only); repeat (first | with_reducible refine wpl ?_ | with_reducible refine wpj ?_ | with_reducible refine wpSl ?_ | with_reducible refine wpSr ?_ | with_reducible refine wpS ?_ | ((with_reducible refine wpt ?_ ?_); · simp (disch := first | omega | decide) only [↓neg1, nlit, rI, rL, rI2, rL1, nI_add, pk_mul, sbT, dvT, nmd, ixT, ↓ibT, ltT, ltF, leT, leF, eqT, eqF, nM_ltT, nM_ltF, nM_leT, nM_leF, nM_eqF, nM_eqF', nbT0, nbT1, oI_s, oI_n, natF, natT, nltT, nltF, nleT, nleF, ↓reduceIte, lgc, not_true_eq_false, not_false_eq_true, or_false, false_or, or_true, true_or, and_true, true_and, and_false, false_and, ne_eq, eq_self, or_self, and_self, p210]; done) | ((with_reducible refine wpf ?_ ?_); · simp (disch := first | omega | decide) only [↓neg1, nlit, rI, rL, rI2, rL1, nI_add, pk_mul, sbT, dvT, nmd, ixT, ↓ibT, ltT, ltF, leT, leF, eqT, eqF, nM_ltT, nM_ltF, nM_leT, nM_leF, nM_eqF, nM_eqF', nbT0, nbT1, oI_s, oI_n, natF, natT, nltT, nltF, nleT, nleF, ↓reduceIte, lgc, not_true_eq_false, not_false_eq_true, or_false, false_or, or_true, true_or, and_true, true_and, and_false, false_and, ne_eq, eq_self, or_self, and_self, p210]; done))
        rw [show (40 : Int32) * nI M + nI i = nI (40 * M + i) by rw [show (40 : Int32) = nI 40 from rfl, pk_mul, nI_add]]
        rcases v1 with h39 | h39
        · have h39 : w1.1 239 (40 * M + i) = nI 0 := h39
          have hno : erX m o K (RX w1 M) M i = [] := by
            unfold erX
            rw [show RX w1 M i = none from if_pos h39]
          have h39y : y.1 239 (40 * M + i) = nI 0 := (q2.1 239 _ (decide_eq_false (by omega))).trans h39
          refine wpc (K' := fun z : cS => z = y) (whl_cnt (fun _ (st : Int32 × cS) => st = (nI 0, y)) 0 (fun k s hk => by omega) ?_ (by omega) rfl) (fun z hz => ?_)
          · rintro st rfl
            refine wpe (e457 (hAe y q2) hC hMt hi40 hac.2.1 hop hR) ?_
            by_cases e2 : wnt m (40 * M + i) = 0
            · rw [e2]
              exact wpt (by dsimp only; decide) rfl
            · refine wpf (by dsimp only; simp (disch := first | omega | decide) only [↓neg1, nlit, rI, rL, rI2, rL1, nI_add, pk_mul, sbT, dvT, nmd, ixT, ↓ibT, ltT, ltF, leT, leF, eqT, eqF, nM_ltT, nM_ltF, nM_leT, nM_leF, nM_eqF, nM_eqF', nbT0, nbT1, oI_s, oI_n, natF, natT, nltT, nltF, nleT, nleF, ↓reduceIte, lgc, not_true_eq_false, not_false_eq_true, or_false, false_or, or_true, true_or, and_true, true_and, and_false, false_and, ne_eq, eq_self, or_self, and_self]) (wpt (by simp (disch := first | omega | decide) only [↓neg1, nlit, rI, rL, rI2, rL1, nI_add, pk_mul, sbT, dvT, nmd, ixT, ↓ibT, ltT, ltF, leT, leF, eqT, eqF, nM_ltT, nM_ltF, nM_leT, nM_leF, nM_eqF, nM_eqF', nbT0, nbT1, oI_s, oI_n, natF, natT, nltT, nltF, nleT, nleF, ↓reduceIte, lgc, not_true_eq_false, not_false_eq_true, or_false, false_or, or_true, true_or, and_true, true_and, and_false, false_and, ne_eq, eq_self, or_self, and_self]) (wpt ?_ rfl))
              rw [ix_n (by omega)]
              exact h39y
          · subst hz
            refine ⟨nI_1 _, q2, ?_⟩
            rw [hno, List.append_nil]
            exact q3
        · have h39 : w1.1 239 (40 * M + i) = nI 1 := h39
          have hso : RX w1 M i = some (rxv w1 (40 * M + i)) := by
            unfold RX
            rw [h39, if_neg (by decide)]
          obtain ⟨rr, rok⟩ := b2.1 i _ hi hso
          have hv := v2 h39
          have hsome : erX m o K (RX w1 M) M i = erK m o K M (40 * M + i) i (rxv w1 (40 * M + i)) (wnt m (40 * M + i)) := by
            unfold erX
            rw [hso]
          rw [hsome]
          generalize hfe : rxv w1 (40 * M + i) = f at *
          have hLA := (FX_L hXM).1
          have hl12 := hLA.1
          refine wpc (K' := fun y : cS => sx qEe w1 y ∧ ERR y (L ++ erK m o K M (40 * M + i) i f (wnt m (40 * M + i)))) (whl_cnt (fun k (st : Int32 × cS) => st.1 = nI k ∧ sx qEe w1 st.2 ∧ ERR st.2 (L ++ erK m o K M (40 * M + i) i f k)) (wnt m (40 * M + i)) ?_ ?_ (by omega) ⟨rfl, q2, by rw [show erK m o K M (40 * M + i) i f 0 = [] from rfl, List.append_nil]; exact q3⟩) (fun z hz => ⟨nI_1 _, hz.1, hz.2⟩)
          · rintro k ⟨a, z⟩ hk ⟨z1, z2, z3⟩
            dsimp only at z1 z2 z3
            subst z1
            have hAz := hAe z z2
            have hb := wts_b rr hk
            have hr3 := rr.2.2.1
            obtain ⟨sP, hP, hsP⟩ := wtp_P hC hMt hR hk
            have hp12 := (EC_row hE hP).1
            have h39z : z.1 239 (40 * M + i) = nI 1 := (z2.1 239 _ (decide_eq_false (by omega))).trans h39
            have p230 : z.1 230 (40 * M + i) = nI (dpn m (40 * M + i)) := (hAz.1 230 _ rfl).trans rr.1
            have p238 : z.1 238 (16 * (40 * M + i) + wts m (40 * M + i) k) = nI (f (wts m (40 * M + i) k)) := (z2.1 238 _ (decide_eq_false (by omega))).trans (hv _ (by omega)).1
            have p236 : z.1 236 (wtp m M (40 * M + i) k) = nI (K (wtp m M (40 * M + i) k)) := (z2.1 236 _ (decide_eq_false (by omega))).trans (m1 _ _ hP hsP)
            have u1 := rok (wts m (40 * M + i) k) hb.2.1
            have u2 := hK _ _ hP hsP
            refine wpe (e457 hAz hC hMt hi40 hac.2.1 hop hR) (wpf (by dsimp only; simp (disch := first | omega | decide) only [↓neg1, nlit, rI, rL, rI2, rL1, nI_add, pk_mul, sbT, dvT, nmd, ixT, ↓ibT, ltT, ltF, leT, leF, eqT, eqF, nM_ltT, nM_ltF, nM_leT, nM_leF, nM_eqF, nM_eqF', nbT0, nbT1, oI_s, oI_n, natF, natT, nltT, nltF, nleT, nleF, ↓reduceIte, lgc, not_true_eq_false, not_false_eq_true, or_false, false_or, or_true, true_or, and_true, true_and, and_false, false_and, ne_eq, eq_self, or_self, and_self]) (wpt (by simp (disch := first | omega | decide) only [↓neg1, nlit, rI, rL, rI2, rL1, nI_add, pk_mul, sbT, dvT, nmd, ixT, ↓ibT, ltT, ltF, leT, leF, eqT, eqF, nM_ltT, nM_ltF, nM_leT, nM_leF, nM_eqF, nM_eqF', nbT0, nbT1, oI_s, oI_n, natF, natT, nltT, nltF, nleT, nleF, ↓reduceIte, lgc, not_true_eq_false, not_false_eq_true, or_false, false_or, or_true, true_or, and_true, true_and, and_false, false_and, ne_eq, eq_self, or_self, and_self]) (wpf ?_ (wpt (by simp (disch := first | omega | decide) only [↓neg1, nlit, rI, rL, rI2, rL1, nI_add, pk_mul, sbT, dvT, nmd, ixT, ↓ibT, ltT, ltF, leT, leF, eqT, eqF, nM_ltT, nM_ltF, nM_leT, nM_leF, nM_eqF, nM_eqF', nbT0, nbT1, oI_s, oI_n, natF, natT, nltT, nltF, nleT, nleF, ↓reduceIte, lgc, not_true_eq_false, not_false_eq_true, or_false, false_or, or_true, true_or, and_true, true_and, and_false, false_and, ne_eq, eq_self, or_self, and_self]) (wpe (e459 hAz hC hMt hi40 hac.2.1 hop hR hk) ?_)))))
            · rw [ix_n (by omega)]
              dsimp only
              rw [h39z]
              decide
            rw [ix_n (by omega)]
            dsimp only
            rw [p230, show (16 : Int32) * nI (40 * M + i) + 8 + nI (dpn m (40 * M + i)) - 1 - nI (wnt m (40 * M + i) - 1 - k) = nI (16 * (40 * M + i) + wts m (40 * M + i) k) by
              rw [show (16 : Int32) = nI 16 from rfl, show (8 : Int32) = nI 8 from rfl, show (1 : Int32) = nI 1 from rfl, pk_mul, nI_add, nI_add, pk_sub (by omega), pk_sub (by omega)]
              unfold wts
              exact congrArg nI (by omega)]
            have hw16 : wts m (40 * M + i) k < 16 := by omega
            refine wpt (by simp (disch := first | omega | decide) only [↓neg1, nlit, rI, rL, rI2, rL1, nI_add, pk_mul, sbT, dvT, nmd, ixT, ↓ibT, ltT, ltF, leT, leF, eqT, eqF, nM_ltT, nM_ltF, nM_leT, nM_leF, nM_eqF, nM_eqF', nbT0, nbT1, oI_s, oI_n, natF, natT, nltT, nltF, nleT, nleF, ↓reduceIte, lgc, not_true_eq_false, not_false_eq_true, or_false, false_or, or_true, true_or, and_true, true_and, and_false, false_and, ne_eq, eq_self, or_self, and_self]) (wpl (wpe (e458 hAz hC hMt hi40 hac.2.1 hop hR hk) (wpt (by simp (disch := first | omega | decide) only [↓neg1, nlit, rI, rL, rI2, rL1, nI_add, pk_mul, sbT, dvT, nmd, ixT, ↓ibT, ltT, ltF, leT, leF, eqT, eqF, nM_ltT, nM_ltF, nM_leT, nM_leF, nM_eqF, nM_eqF', nbT0, nbT1, oI_s, oI_n, natF, natT, nltT, nltF, nleT, nleF, ↓reduceIte, lgc, not_true_eq_false, not_false_eq_true, or_false, false_or, or_true, true_or, and_true, true_and, and_false, false_and, ne_eq, eq_self, or_self, and_self]) (wpl ?_))))
            rw [ix_n (by omega), ix_n (by omega), p238, p236]
            have hnb : nb (z.1 184 ((12 * o + f (wts m (40 * M + i) k)) * 12 + K (wtp m M (40 * M + i) k))) := by
              rw [hAz.1 184 _ rfl]
              exact hLA.2.2.1 _ _ u1 u2
            refine wpe (e387 (by omega) (by omega) (by omega) hnb) (wpj ?_)
            rw [hAz.1 184 _ rfl] at hnb ⊢
            have hsk : L ++ erK m o K M (40 * M + i) i f (k + 1) = L ++ erK m o K M (40 * M + i) i f k ++ (if mBb m o (f (wts m (40 * M + i) k)) (K (wtp m M (40 * M + i) k)) then [] else [(M, i, k, f (wts m (40 * M + i) k), K (wtp m M (40 * M + i) k))]) := by
              rw [List.append_assoc]
              rfl
            by_cases eb : mBb m o (f (wts m (40 * M + i) k)) (K (wtp m M (40 * M + i) k)) = true
            · have h1 : m.1 184 ((12 * o + f (wts m (40 * M + i) k)) * 12 + K (wtp m M (40 * M + i) k)) = 1 := mBb_t.mp eb
              rw [h1]
              refine wpf (by decide) (wpl ⟨nI_1 _, z2, ?_⟩)
              dsimp only
              rw [hsk, if_pos eb, List.append_nil]
              exact z3
            · have h1 : m.1 184 ((12 * o + f (wts m (40 * M + i) k)) * 12 + K (wtp m M (40 * M + i) k)) = 0 := by
                rcases hnb with h | h
                · exact h
                · exact absurd (mBb_t.mpr h) eb
              rw [h1]
              refine wpt rfl ?_
              have hW2 := WB_at (k := k + 1) hB hMt hMm hi hk
              have hEl := erK_len (m := m) (o := o) (M := M) (b := 40 * M + i) (i := i) (K := K) (f := f) k
              generalize hE2 : erK m o K M (40 * M + i) i f k = E at z3 hEl hsk
              have hlen : (L ++ E).length < 2048 := by
                rw [List.length_append]
                omega
              have z31 := z3.1
              generalize hln : (L ++ E).length = ln at hlen z31
              have e1 : ∀ (x : cS) j v, (pI x 241 j v).1 174 = x.1 174 := fun x j v => pI_ne (by omega)
              have e2 : ∀ (x : cS) j v, (pI x 242 j v).1 174 = x.1 174 := fun x j v => pI_ne (by omega)
              have e3 : ∀ (x : cS) j v, (pI x 243 j v).1 174 = x.1 174 := fun x j v => pI_ne (by omega)
              have e4 : ∀ (x : cS) j v, (pI x 244 j v).1 174 = x.1 174 := fun x j v => pI_ne (by omega)
              have e5 : ∀ (x : cS) j v, (pI x 245 j v).1 174 = x.1 174 := fun x j v => pI_ne (by omega)
              (try dsimp only); repeat (first | with_reducible refine wpl ?_ | with_reducible refine wpj ?_ | with_reducible refine wpSl ?_ | with_reducible refine wpSr ?_ | with_reducible refine wpS ?_ | ((with_reducible refine wpt ?_ ?_); · simp (disch := first | omega | decide) only [↓neg1, nlit, rI, rL, rI2, rL1, nI_add, pk_mul, sbT, dvT, nmd, ixT, ↓ibT, ltT, ltF, leT, leF, eqT, eqF, nM_ltT, nM_ltF, nM_leT, nM_leF, nM_eqF, nM_eqF', nbT0, nbT1, oI_s, oI_n, natF, natT, nltT, nltF, nleT, nleF, ↓reduceIte, lgc, not_true_eq_false, not_false_eq_true, or_false, false_or, or_true, true_or, and_true, true_and, and_false, false_and, ne_eq, eq_self, or_self, and_self, z31]; done) | ((with_reducible refine wpf ?_ ?_); · simp (disch := first | omega | decide) only [↓neg1, nlit, rI, rL, rI2, rL1, nI_add, pk_mul, sbT, dvT, nmd, ixT, ↓ibT, ltT, ltF, leT, leF, eqT, eqF, nM_ltT, nM_ltF, nM_leT, nM_leF, nM_eqF, nM_eqF', nbT0, nbT1, oI_s, oI_n, natF, natT, nltT, nltF, nleT, nleF, ↓reduceIte, lgc, not_true_eq_false, not_false_eq_true, or_false, false_or, or_true, true_or, and_true, true_and, and_false, false_and, ne_eq, eq_self, or_self, and_self, z31]; done))
              simp only [e1, e2, e3, e4, e5, z31, nI_1]
              rw [ix_n (by omega)]
              refine ⟨rfl, ?_, ?_⟩
              · exact sx_pI (sx_pI (sx_pI (sx_pI (sx_pI (sx_pI z2 rfl) rfl) rfl) rfl) rfl) rfl
              · dsimp only
                rw [hsk, if_neg eb]
                have hfin := ERR_add (x := (M, i, k, f (wts m (40 * M + i) k), K (wtp m M (40 * M + i) k))) hln z3
                dsimp only at hfin
                exact hfin
          · rintro ⟨a, z⟩ ⟨z1, z2, z3⟩
            dsimp only at z1 z2 z3
            subst z1
            exact wpe (e457 (hAe z z2) hC hMt hi40 hac.2.1 hop hR) (wpt (by dsimp only; simp (disch := first | omega | decide) only [↓neg1, nlit, rI, rL, rI2, rL1, nI_add, pk_mul, sbT, dvT, nmd, ixT, ↓ibT, ltT, ltF, leT, leF, eqT, eqF, nM_ltT, nM_ltF, nM_leT, nM_leF, nM_eqF, nM_eqF', nbT0, nbT1, oI_s, oI_n, natF, natT, nltT, nltF, nleT, nleF, ↓reduceIte, lgc, not_true_eq_false, not_false_eq_true, or_false, false_or, or_true, true_or, and_true, true_and, and_false, false_and, ne_eq, eq_self, or_self, and_self]) ⟨z2, z3⟩)
      · rintro ⟨a, y⟩ ⟨q1, q2, q3⟩
        dsimp only at q1 q2 q3
        subst q1
        have p210 : y.1 210 M = nI (acn m M) := (q2.1 210 M rfl).trans (((hAs w1 s1).1 210 M rfl).trans h210)
        (try dsimp only); repeat (first | with_reducible refine wpl ?_ | with_reducible refine wpj ?_ | with_reducible refine wpSl ?_ | with_reducible refine wpSr ?_ | with_reducible refine wpS ?_ | ((with_reducible refine wpt ?_ ?_); · simp (disch := first | omega | decide) only [↓neg1, nlit, rI, rL, rI2, rL1, nI_add, pk_mul, sbT, dvT, nmd, ixT, ↓ibT, ltT, ltF, leT, leF, eqT, eqF, nM_ltT, nM_ltF, nM_leT, nM_leF, nM_eqF, nM_eqF', nbT0, nbT1, oI_s, oI_n, natF, natT, nltT, nltF, nleT, nleF, ↓reduceIte, lgc, not_true_eq_false, not_false_eq_true, or_false, false_or, or_true, true_or, and_true, true_and, and_false, false_and, ne_eq, eq_self, or_self, and_self, p210]; done) | ((with_reducible refine wpf ?_ ?_); · simp (disch := first | omega | decide) only [↓neg1, nlit, rI, rL, rI2, rL1, nI_add, pk_mul, sbT, dvT, nmd, ixT, ↓ibT, ltT, ltF, leT, leF, eqT, eqF, nM_ltT, nM_ltF, nM_leT, nM_leF, nM_eqF, nM_eqF', nbT0, nbT1, oI_s, oI_n, natF, natT, nltT, nltF, nleT, nleF, ↓reduceIte, lgc, not_true_eq_false, not_false_eq_true, or_false, false_or, or_true, true_or, and_true, true_and, and_false, false_and, ne_eq, eq_self, or_self, and_self, p210]; done))
        exact ⟨q2, q3⟩
      · obtain ⟨d1, d2⟩ := hw2
        have s2 : sx qFa u w2 := sx_trans s1 (sx_wide d1 (fun a i z => by
          have := of_decide_eq_false z
          exact decide_eq_false (by omega)))
        have hXs : ∀ N, RX w2 N = RX w1 N := fun N => funext fun i => RX_s d1 (decide_eq_false (by omega)) (fun s hs => decide_eq_false (by omega))
        refine wpl ⟨nI_1 _, s2, fun p s hp hs => (d1.1 236 p (decide_eq_false (by omega))).trans (m1 p s hp hs), fun p s hp hs => (d1.1 237 p (decide_eq_false (by omega))).trans (t1 p s hp hs), fun N hN hNt => ?_, ?_⟩
        · dsimp only
          rw [hXs N]
          exact ⟨(so1 N hN hNt).1, RV_s d1 (fun i hi => decide_eq_false (by omega)) (fun i s hi hs => decide_eq_false (by omega)) (so1 N hN hNt).2⟩
        · dsimp only
          rw [show RX w2 = RX w1 from funext hXs]
          show ERR w2 (erM _ _ _ _ M ++ (if mtb m M then _ else _))
          rw [if_pos e]
          exact d2
    · rw [if_neg e]
      refine wpt rfl (wpl ⟨nI_1 _, g2, g3, g4, fun N hN hNt => ?_, ?_⟩)
      · by_cases eN : N = M
        · subst eN
          exact absurd (mtb_t.mpr hNt) e
        · exact g5 N (by omega) hNt
      · show ERR x (erM _ _ _ _ M ++ (if mtb m M then _ else _))
        rw [if_neg e, List.append_nil]
        exact g6
  · rintro ⟨a, x⟩ ⟨g1, g2, g3, g4, g5, g6⟩
    dsimp only at g1 g2 g3 g4 g5 g6
    subst g1
    refine wpt (by dsimp only; decide) ⟨g2, g3, g4, fun M hM => g5 M (isMt_lt hC hM) hM, g6⟩
  · refine ⟨?_, fun j y hy => ?_⟩
    · rw [rI, if_pos ⟨rfl, rfl⟩]
      rfl
    · cases hy
