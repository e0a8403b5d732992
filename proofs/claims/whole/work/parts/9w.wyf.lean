/-! WAY: the reference's side -/
theorem nI_bits (x : Int32) : x = nI x.toBitVec.toNat := by
  apply Int32.toBitVec_inj.mp
  show x.toBitVec = BitVec.ofNat 32 x.toBitVec.toNat
  apply BitVec.eq_of_toNat_eq
  rw [BitVec.toNat_ofNat, Nat.mod_eq_of_lt x.toBitVec.isLt]
def QR (m : cS) (M bt : Nat) (w : cS) (X : WQ) : Prop := w.1 174 101 = nI X.1 ∧ w.1 174 105 = oI X.2.2.1 ∧ w.1 174 104 = (if X.2.2.2 = true then nI 1 else nI 0) ∧ ∀ j, j < X.1 → w.1 246 j = nI (X.2.1 j).1 ∧ w.1 247 j = oI (X.2.1 j).2.2 ∧ ∀ t, t < 8 + dpn m (40 * M + (X.2.1 j).1) → w.1 248 (16 * j + t) = nI (av (lcn m M) bt (X.2.1 j).2.1 t)
def qYr (a i : Nat) : Bool := decide ((a = 174 ∧ (i = 101 ∨ i = 104 ∨ i = 105)) ∨ a = 240 ∨ (246 ≤ a ∧ a ≤ 248))
theorem nP_Yr : nP qYr := by
  refine ⟨fun a i h => ?_, fun i h => ?_, fun i h => ?_, fun a i h1 h2 h3 => ?_, fun a i h1 h2 h3 => ?_⟩
  · have := PA_of h
    exact decide_eq_false (by omega)
  · have := PF_of h
    exact decide_eq_false (by omega)
  · exact decide_eq_false (by omega)
  · exact decide_eq_false (by omega)
  · exact decide_eq_false (by omega)
/-- what the reference's search stands on -/
def RB (m : cS) (o M i k e : Nat) (K : Nat → Nat) (w : cS) : Prop := AG m w ∧ MKS m K w ∧ w.1 174 97 = nI o ∧ w.1 242 e = nI i ∧ w.1 243 e = nI k ∧ w.1 245 e = nI (K (wtp m M (40 * M + i) k))
theorem RB_sx {m w w' : cS} {o M i k e : Nat} {K : Nat → Nat} (h : RB m o M i k e K w) (hs : sx qYr w w') : RB m o M i k e K w' := by
  obtain ⟨h1, h2, h3, h4, h5, h6⟩ := h
  exact ⟨AG_sx h1 hs nP_Yr, fun p s hp hs' => (hs.1 236 p (decide_eq_false (by omega))).trans (h2 p s hp hs'), (hs.1 174 97 rfl).trans h3, (hs.1 242 e (decide_eq_false (by omega))).trans h4, (hs.1 243 e (decide_eq_false (by omega))).trans h5, (hs.1 245 e (decide_eq_false (by omega))).trans h6⟩
section RW
variable {n o M i k e a j bt : Nat} {s : Int64} {fr : Option Nat} {c m w : cS} {X : WQ} {K g : Nat → Nat}
theorem e461 (hn : 1000 ≤ n) (hX : FX c m o M K) (hi : i < acn m M) (hk : k < wnt m (40 * M + i)) (he : e < 15360) (hbt : bt < eln m o) (hB : RB m o M i k e K w) (hQ : QR m M bt w X) (hW : WE m o M X) (hx : X.2.2.1 = none ∧ X.2.2.2 = false) (hs : SW m o M a s) (hN : NOW w g) (hg : ∀ t, t < 8 + dpn m (40 * M + a) → g t = av (lcn m M) bt s t) : wp (d_461 n (nI M) (nI a) (oI fr) (nI e) w) (fun d => QR m M bt d (meet (shw m o M i k K) a s fr X) ∧ sx qYr w d) := by
  obtain ⟨hA, hMK, h97, h242, h243, h245⟩ := id hB
  obtain ⟨q1, q2, q3, q4⟩ := id hQ
  obtain ⟨s1, s2, s3⟩ := hs
  have hX4 := hW.1
  have hM := hX.2.2.2.1
  have hM96 := isMt_lt hX.2.1 hM
  have hn40 := (FX_L hX).2.2.1
  have hl := (FX_L hX).2.1
  have hLA := (FX_L hX).1
  have h12 := hLA.1
  have ho4 := hX.1.1
  have ho := hX.2.2.2.2.1
  have hd8 := s2.2.2.1
  have h230 : w.1 230 (40 * M + a) = nI (dpn m (40 * M + a)) := (hA.1 230 _ rfl).trans s2.1
  have hok := av_ok s3 hd8 hbt
  have hgok : ∀ t, t < 8 + dpn m (40 * M + a) → g t < 12 := fun t ht => by
    rw [hg t ht]
    have := hok t ht
    omega
  unfold d_461
  refine wpl ?_
  rw [show (40 : Int32) * nI M + nI a = nI (40 * M + a) by rw [show (40 : Int32) = nI 40 from rfl, pk_mul, nI_add]]
  refine wpt (by simp (disch := first | omega | decide) only [↓neg1, nlit, rI, rL, rI2, rL1, nI_add, pk_mul, sbT, dvT, nmd, ixT, ↓ibT, ltT, ltF, leT, leF, eqT, eqF, nM_ltT, nM_ltF, nM_leT, nM_leF, nM_eqF, nM_eqF', nbT0, nbT1, oI_s, oI_n, natF, natT, nltT, nltF, nleT, nleF, ↓reduceIte, lgc, not_true_eq_false, not_false_eq_true, or_false, false_or, or_true, true_or, and_true, true_and, and_false, false_and, ne_eq, eq_self, or_self, and_self]) ?_
  rw [ix_n (by omega), h230, show (8 : Int32) + nI (dpn m (40 * M + a)) = nI (8 + dpn m (40 * M + a)) from nI_add 8 _]
  refine wpl ?_
  generalize hD : 8 + dpn m (40 * M + a) = D at *
  refine wpc (K' := fun r : Unit ⊕ Unit => (r = .inl () ∧ ∀ j, j < X.1 → (X.2.1 j).1 = a → (X.2.1 j).2.1 ≠ s) ∨ (r = .inr () ∧ ∃ j, j < X.1 ∧ (X.2.1 j).1 = a ∧ (X.2.1 j).2.1 = s)) (whl_cnt (fun t (st : Int32) => st = nI t ∧ ∀ j, j < t → (X.2.1 j).1 = a → (X.2.1 j).2.1 ≠ s) X.1 ?_ ?_ (by omega) ⟨rfl, fun j hj => by omega⟩) ?_
  · rintro t st ht ⟨rfl, g2⟩
    obtain ⟨y1, y2, y3⟩ := q4 t ht
    have hsw := (hW.2.2.2 t ht).1
    have hct : (X.2.1 t).1 < 40 := by
      have := hsw.1
      omega
    rw [q1]
    refine wpf (by simp (disch := first | omega | decide) only [↓neg1, nlit, rI, rL, rI2, rL1, nI_add, pk_mul, sbT, dvT, nmd, ixT, ↓ibT, ltT, ltF, leT, leF, eqT, eqF, nM_ltT, nM_ltF, nM_leT, nM_leF, nM_eqF, nM_eqF', nbT0, nbT1, oI_s, oI_n, natF, natT, nltT, nltF, nleT, nleF, ↓reduceIte, lgc, not_true_eq_false, not_false_eq_true, or_false, false_or, or_true, true_or, and_true, true_and, and_false, false_and, ne_eq, eq_self, or_self, and_self]) (wpt (by simp (disch := first | omega | decide) only [↓neg1, nlit, rI, rL, rI2, rL1, nI_add, pk_mul, sbT, dvT, nmd, ixT, ↓ibT, ltT, ltF, leT, leF, eqT, eqF, nM_ltT, nM_ltF, nM_leT, nM_leF, nM_eqF, nM_eqF', nbT0, nbT1, oI_s, oI_n, natF, natT, nltT, nltF, nleT, nleF, ↓reduceIte, lgc, not_true_eq_false, not_false_eq_true, or_false, false_or, or_true, true_or, and_true, true_and, and_false, false_and, ne_eq, eq_self, or_self, and_self]) ?_)
    rw [ix_n (by omega), y1]
    refine wpjP (fun p : Int32 => (p = nI 1 ∧ (X.2.1 t).1 = a) ∨ (p = nI 0 ∧ (X.2.1 t).1 ≠ a)) ?_ ?_
    · intro p hp
      refine wpc (K' := fun r : Int32 => (r = nI 1 ∧ (X.2.1 t).1 = a ∧ (X.2.1 t).2.1 = s) ∨ (r = nI 0 ∧ ((X.2.1 t).1 = a → (X.2.1 t).2.1 ≠ s))) (whl_cnt (fun v (st : Int32 × Int32) => st.2 = nI v ∧ ((st.1 = nI 1 ∧ (X.2.1 t).1 = a ∧ ∀ x, x < v → av (lcn m M) bt (X.2.1 t).2.1 x = av (lcn m M) bt s x) ∨ (st.1 = nI 0 ∧ ((X.2.1 t).1 = a → (X.2.1 t).2.1 ≠ s)))) D ?_ ?_ (by omega) ⟨rfl, ?_⟩) ?_
      · rintro v ⟨f0, v0⟩ hv ⟨z1, z2⟩
        dsimp only at z1 z2
        subst z1
        dsimp only
        refine wpf (by simp (disch := first | omega | decide) only [↓neg1, nlit, rI, rL, rI2, rL1, nI_add, pk_mul, sbT, dvT, nmd, ixT, ↓ibT, ltT, ltF, leT, leF, eqT, eqF, nM_ltT, nM_ltF, nM_leT, nM_leF, nM_eqF, nM_eqF', nbT0, nbT1, oI_s, oI_n, natF, natT, nltT, nltF, nleT, nleF, ↓reduceIte, lgc, not_true_eq_false, not_false_eq_true, or_false, false_or, or_true, true_or, and_true, true_and, and_false, false_and, ne_eq, eq_self, or_self, and_self]) ?_
        rcases z2 with ⟨rfl, z3, z4⟩ | ⟨rfl, z3⟩
        · refine wpf (by decide) ?_
          rw [show (16 : Int32) * nI t + nI v = nI (16 * t + v) by rw [show (16 : Int32) = nI 16 from rfl, pk_mul, nI_add]]
          refine wpt (by simp (disch := first | omega | decide) only [↓neg1, nlit, rI, rL, rI2, rL1, nI_add, pk_mul, sbT, dvT, nmd, ixT, ↓ibT, ltT, ltF, leT, leF, eqT, eqF, nM_ltT, nM_ltF, nM_leT, nM_leF, nM_eqF, nM_eqF', nbT0, nbT1, oI_s, oI_n, natF, natT, nltT, nltF, nleT, nleF, ↓reduceIte, lgc, not_true_eq_false, not_false_eq_true, or_false, false_or, or_true, true_or, and_true, true_and, and_false, false_and, ne_eq, eq_self, or_self, and_self]) (wpt (by simp (disch := first | omega | decide) only [↓neg1, nlit, rI, rL, rI2, rL1, nI_add, pk_mul, sbT, dvT, nmd, ixT, ↓ibT, ltT, ltF, leT, leF, eqT, eqF, nM_ltT, nM_ltF, nM_leT, nM_leF, nM_eqF, nM_eqF', nbT0, nbT1, oI_s, oI_n, natF, natT, nltT, nltF, nleT, nleF, ↓reduceIte, lgc, not_true_eq_false, not_false_eq_true, or_false, false_or, or_true, true_or, and_true, true_and, and_false, false_and, ne_eq, eq_self, or_self, and_self]) (wpj ?_))
          have y3 := y3 v (by rw [z3]; omega)
          rw [ix_n (by omega), ix_n (by omega), y3, hN v (by omega), hg v hv]
          have hsw3 := hsw.2.2
          rw [z3] at hsw3
          have ok2 := av_ok (bt := bt) hsw3 hd8 hbt v (by omega)
          have ok1 := hok v (by omega)
          by_cases ee : av (lcn m M) bt (X.2.1 t).2.1 v = av (lcn m M) bt s v
          · refine wpt (by rw [ee]) (wpl ⟨nI_1 _, Or.inl ⟨rfl, z3, fun x hx' => ?_⟩⟩)
            by_cases ex : x = v
            · rw [ex]
              exact ee
            · exact z4 x (by omega)
          · refine wpf (fun z => ee ((nI_eq (by omega) (by omega)).mp z)) (wpl ⟨nI_1 _, Or.inr ⟨rfl, fun _ zz => ee (by rw [zz])⟩⟩)
        · refine wpt rfl ?_
          exact Or.inr ⟨rfl, z3⟩
      · rintro ⟨f0, v0⟩ ⟨z1, z2⟩
        dsimp only at z1 z2
        subst z1
        dsimp only
        refine wpt (by simp (disch := first | omega | decide) only [↓neg1, nlit, rI, rL, rI2, rL1, nI_add, pk_mul, sbT, dvT, nmd, ixT, ↓ibT, ltT, ltF, leT, leF, eqT, eqF, nM_ltT, nM_ltF, nM_leT, nM_leF, nM_eqF, nM_eqF', nbT0, nbT1, oI_s, oI_n, natF, natT, nltT, nltF, nleT, nleF, ↓reduceIte, lgc, not_true_eq_false, not_false_eq_true, or_false, false_or, or_true, true_or, and_true, true_and, and_false, false_and, ne_eq, eq_self, or_self, and_self]) ?_
        rcases z2 with ⟨rfl, z3, z4⟩ | ⟨rfl, z3⟩
        · refine Or.inl ⟨rfl, z3, ?_⟩
          have hsw3 := hsw.2.2
          rw [z3] at hsw3
          exact WF_same hl hd8 hsw3 s3 (bt := bt) (fun x hx' => z4 x (by omega))
        · exact Or.inr ⟨rfl, z3⟩
      · rcases hp with ⟨rfl, hp⟩ | ⟨rfl, hp⟩
        · exact Or.inl ⟨rfl, hp, fun x hx' => by omega⟩
        · exact Or.inr ⟨rfl, fun z => absurd z hp⟩
      · rintro r (⟨rfl, r1, r2⟩ | ⟨rfl, r1⟩)
        · refine wpf (by decide) ?_
          exact Or.inr ⟨rfl, t, ht, r1, r2⟩
        · refine wpt rfl (wpl ⟨nI_1 _, fun j hj => ?_⟩)
          by_cases ej : j = t
          · rw [ej]
            exact r1
          · exact g2 j (by omega)
    · intro k' hk'
      by_cases ea : (X.2.1 t).1 = a
      · exact wpt (by rw [ea]) (hk' _ (Or.inl ⟨rfl, ea⟩))
      · exact wpf (fun z => ea ((nI_eq (by omega) (by omega)).mp z)) (hk' _ (Or.inr ⟨rfl, ea⟩))
  · rintro st ⟨rfl, g2⟩
    rw [q1]
    refine wpt (by simp (disch := first | omega | decide) only [↓neg1, nlit, rI, rL, rI2, rL1, nI_add, pk_mul, sbT, dvT, nmd, ixT, ↓ibT, ltT, ltF, leT, leF, eqT, eqF, nM_ltT, nM_ltF, nM_leT, nM_leF, nM_eqF, nM_eqF', nbT0, nbT1, oI_s, oI_n, natF, natT, nltT, nltF, nleT, nleF, ↓reduceIte, lgc, not_true_eq_false, not_false_eq_true, or_false, false_or, or_true, true_or, and_true, true_and, and_false, false_and, ne_eq, eq_self, or_self, and_self]) ?_
    exact Or.inl ⟨rfl, g2⟩
  · rintro r (⟨rfl, hno⟩ | ⟨rfl, j, hj, j1, j2⟩)
    · refine wpSl ?_
      rw [q1]
      by_cases e4 : X.1 = 400
      · refine wpt (by rw [e4]; rfl) (wpl ?_)
        rw [meet_full hx hno e4]
        refine ⟨⟨?_, ?_, ?_, fun j hj => ?_⟩, sx_pI sx_rfl rfl⟩
        · rw [rI, if_neg (by omega)]
          exact q1
        · rw [rI, if_neg (by omega), q2, hx.1]
        · rw [rI, if_pos ⟨rfl, rfl⟩]
          rfl
        · obtain ⟨y1, y2, y3⟩ := q4 j hj
          refine ⟨?_, ?_, fun t ht => ?_⟩
          · rw [rI, if_neg (by omega)]
            exact y1
          · rw [rI, if_neg (by omega)]
            exact y2
          · rw [rI, if_neg (by omega)]
            exact y3 t ht
      · refine wpf (fun z => e4 ((nI_eq (by omega) (by omega)).mp z)) (wpt (by simp (disch := first | omega | decide) only [↓neg1, nlit, rI, rL, rI2, rL1, nI_add, pk_mul, sbT, dvT, nmd, ixT, ↓ibT, ltT, ltF, leT, leF, eqT, eqF, nM_ltT, nM_ltF, nM_leT, nM_leF, nM_eqF, nM_eqF', nbT0, nbT1, oI_s, oI_n, natF, natT, nltT, nltF, nleT, nleF, ↓reduceIte, lgc, not_true_eq_false, not_false_eq_true, or_false, false_or, or_true, true_or, and_true, true_and, and_false, false_and, ne_eq, eq_self, or_self, and_self]) ?_)
        rw [ix_n (by omega)]
        refine wpl ?_
        generalize e1 : pI w 246 X.1 (nI a) = w1
        have k1 : w1.1 174 101 = nI X.1 := by
          rw [← e1, rI, if_neg (by omega)]
          exact q1
        rw [k1]
        refine wpt (by simp (disch := first | omega | decide) only [↓neg1, nlit, rI, rL, rI2, rL1, nI_add, pk_mul, sbT, dvT, nmd, ixT, ↓ibT, ltT, ltF, leT, leF, eqT, eqF, nM_ltT, nM_ltF, nM_leT, nM_leF, nM_eqF, nM_eqF', nbT0, nbT1, oI_s, oI_n, natF, natT, nltT, nltF, nleT, nleF, ↓reduceIte, lgc, not_true_eq_false, not_false_eq_true, or_false, false_or, or_true, true_or, and_true, true_and, and_false, false_and, ne_eq, eq_self, or_self, and_self]) ?_
        rw [ix_n (by omega)]
        refine wpl ?_
        generalize e2 : pI w1 247 X.1 (oI fr) = w2
        have k2 : w2.1 174 101 = nI X.1 := by
          rw [← e2, rI, if_neg (by omega)]
          exact k1
        have sw2 : sx qYr w w2 := by
          rw [← e2, ← e1]
          exact sx_pI (sx_pI sx_rfl (decide_eq_true (by omega))) (decide_eq_true (by omega))
        have f246 : ∀ j, w2.1 246 j = if j = X.1 then nI a else w.1 246 j := by
          intro j
          rw [← e2, rI, if_neg (by omega), ← e1, rI]
          by_cases z : j = X.1
          · rw [if_pos ⟨rfl, z⟩, if_pos z]
          · rw [if_neg (fun y => z y.2), if_neg z]
        have f247 : ∀ j, w2.1 247 j = if j = X.1 then oI fr else w.1 247 j := by
          intro j
          rw [← e2, rI]
          by_cases z : j = X.1
          · rw [if_pos ⟨rfl, z⟩, if_pos z]
          · rw [if_neg (fun y => z y.2), if_neg z, ← e1, rI, if_neg (by omega)]
        have f248 : ∀ j, w2.1 248 j = w.1 248 j := by
          intro j
          rw [← e2, rI, if_neg (by omega), ← e1, rI, if_neg (by omega)]
        have f105 : w2.1 174 105 = w.1 174 105 := by
          rw [← e2, rI, if_neg (by omega), ← e1, rI, if_neg (by omega)]
        have f104 : w2.1 174 104 = w.1 174 104 := by
          rw [← e2, rI, if_neg (by omega), ← e1, rI, if_neg (by omega)]
        have f240 : ∀ j, w2.1 240 j = w.1 240 j := by
          intro j
          rw [← e2, rI, if_neg (by omega), ← e1, rI, if_neg (by omega)]
        refine wpc (K' := fun d : cS => sx (fun a i => decide (a = 248 ∧ 16 * X.1 ≤ i ∧ i < 16 * X.1 + 16)) w2 d ∧ ∀ t, t < 16 → d.1 248 (16 * X.1 + t) = nI (g t)) (whl_cnt (fun t (st : Int32 × cS) => st.1 = nI t ∧ sx (fun a i => decide (a = 248 ∧ 16 * X.1 ≤ i ∧ i < 16 * X.1 + 16)) w2 st.2 ∧ ∀ v, v < t → st.2.1 248 (16 * X.1 + v) = nI (g v)) 16 ?_ ?_ (by omega) ⟨rfl, sx_rfl, fun v hv => by omega⟩) ?_
        · rintro t ⟨t0, d⟩ ht ⟨g1, g2, g3⟩
          dsimp only at g1 g2 g3
          subst g1
          dsimp only
          refine wpf (by simp (disch := first | omega | decide) only [↓neg1, nlit, rI, rL, rI2, rL1, nI_add, pk_mul, sbT, dvT, nmd, ixT, ↓ibT, ltT, ltF, leT, leF, eqT, eqF, nM_ltT, nM_ltF, nM_leT, nM_leF, nM_eqF, nM_eqF', nbT0, nbT1, oI_s, oI_n, natF, natT, nltT, nltF, nleT, nleF, ↓reduceIte, lgc, not_true_eq_false, not_false_eq_true, or_false, false_or, or_true, true_or, and_true, true_and, and_false, false_and, ne_eq, eq_self, or_self, and_self]) (wpt (by simp (disch := first | omega | decide) only [↓neg1, nlit, rI, rL, rI2, rL1, nI_add, pk_mul, sbT, dvT, nmd, ixT, ↓ibT, ltT, ltF, leT, leF, eqT, eqF, nM_ltT, nM_ltF, nM_leT, nM_leF, nM_eqF, nM_eqF', nbT0, nbT1, oI_s, oI_n, natF, natT, nltT, nltF, nleT, nleF, ↓reduceIte, lgc, not_true_eq_false, not_false_eq_true, or_false, false_or, or_true, true_or, and_true, true_and, and_false, false_and, ne_eq, eq_self, or_self, and_self]) ?_)
          rw [(g2.1 174 101 rfl).trans k2, show (16 : Int32) * nI X.1 + nI t = nI (16 * X.1 + t) by rw [show (16 : Int32) = nI 16 from rfl, pk_mul, nI_add]]
          refine wpt (by simp (disch := first | omega | decide) only [↓neg1, nlit, rI, rL, rI2, rL1, nI_add, pk_mul, sbT, dvT, nmd, ixT, ↓ibT, ltT, ltF, leT, leF, eqT, eqF, nM_ltT, nM_ltF, nM_leT, nM_leF, nM_eqF, nM_eqF', nbT0, nbT1, oI_s, oI_n, natF, natT, nltT, nltF, nleT, nleF, ↓reduceIte, lgc, not_true_eq_false, not_false_eq_true, or_false, false_or, or_true, true_or, and_true, true_and, and_false, false_and, ne_eq, eq_self, or_self, and_self]) ?_
          rw [ix_n (by omega), ix_n (by omega), (g2.1 240 t (decide_eq_false (by omega))).trans ((f240 t).trans (hN t ht))]
          refine wpl (wpl ⟨nI_1 _, sx_pI g2 (decide_eq_true (by omega)), fun v hv => ?_⟩)
          dsimp only
          rw [rI]
          by_cases z : v = t
          · rw [if_pos ⟨rfl, by omega⟩, z]
          · rw [if_neg (by omega)]
            exact g3 v (by omega)
        · rintro ⟨t0, d⟩ ⟨g1, g2, g3⟩
          dsimp only at g1 g2 g3
          subst g1
          dsimp only
          exact wpt (by simp (disch := first | omega | decide) only [↓neg1, nlit, rI, rL, rI2, rL1, nI_add, pk_mul, sbT, dvT, nmd, ixT, ↓ibT, ltT, ltF, leT, leF, eqT, eqF, nM_ltT, nM_ltF, nM_leT, nM_leF, nM_eqF, nM_eqF', nbT0, nbT1, oI_s, oI_n, natF, natT, nltT, nltF, nleT, nleF, ↓reduceIte, lgc, not_true_eq_false, not_false_eq_true, or_false, false_or, or_true, true_or, and_true, true_and, and_false, false_and, ne_eq, eq_self, or_self, and_self]) ⟨g2, g3⟩
        · rintro d ⟨d1, d2⟩
          rw [(d1.1 174 101 rfl).trans k2]
          refine wpl ?_
          generalize e3 : pI d 174 101 (nI X.1 + 1) = x
          have xx : sx (fun a i => decide ((a = 174 ∧ i = 101) ∨ (a = 248 ∧ 16 * X.1 ≤ i ∧ i < 16 * X.1 + 16))) w2 x := by
            rw [← e3]
            exact sx_pI (sx_wide d1 (fun a i z => by
              have := of_decide_eq_false z
              exact decide_eq_false (by omega))) rfl
          have x101 : x.1 174 101 = nI (X.1 + 1) := by
            rw [← e3, rI, if_pos ⟨rfl, rfl⟩]
            exact nI_1 _
          have x248 : ∀ t, t < 16 → x.1 248 (16 * X.1 + t) = nI (g t) := fun t ht => by
            rw [← e3, rI, if_neg (by omega)]
            exact d2 t ht
          have x240 : ∀ t, t < 16 → x.1 240 t = nI (g t) := fun t ht => (xx.1 240 t (decide_eq_false (by omega))).trans ((f240 t).trans (hN t ht))
          have swx : sx qYr w x := sx_trans sw2 (sx_wide xx (fun a i z => by
            have := of_decide_eq_false z
            exact decide_eq_false (by omega)))
          have hBx := RB_sx hB swx
          have fin : ∀ (y : cS) (fo : Option Nat), (∀ a i, (a = 174 ∧ i = 105) ∨ y.1 a i = x.1 a i) → y.1 174 105 = oI fo → QR m M bt y (X.1 + 1, (fun j => if j = X.1 then (a, s, fr) else X.2.1 j), fo, false) := by
            intro y fo y1 y2
            have y1 : ∀ a i, ¬ (a = 174 ∧ i = 105) → y.1 a i = x.1 a i := fun a i z => (y1 a i).resolve_left z
            refine ⟨(y1 174 101 (by omega)).trans x101, y2, ?_, fun j hj => ?_⟩
            · rw [y1 174 104 (by omega), xx.1 174 104 rfl, f104, q3, hx.2]
            · have hj : j < X.1 + 1 := hj
              dsimp only
              rw [y1 246 j (by omega), y1 247 j (by omega), xx.1 246 j (decide_eq_false (by omega)), xx.1 247 j (decide_eq_false (by omega)), f246, f247]
              by_cases z : j = X.1
              · rw [if_pos z, if_pos z, if_pos z]
                refine ⟨rfl, rfl, fun t ht => ?_⟩
                have ht : t < 8 + dpn m (40 * M + a) := ht
                rw [y1 248 _ (by omega), z, x248 t (by omega), hg t (by omega)]
              · rw [if_neg z, if_neg z, if_neg z]
                obtain ⟨p1, p2, p3⟩ := q4 j (by omega)
                refine ⟨p1, p2, fun t ht => ?_⟩
                have hsw := (hW.2.2.2 j (by omega)).1
                have := hsw.2.1.2.2.1
                rw [y1 248 _ (by omega), xx.1 248 _ (decide_eq_false (by omega)), f248]
                exact p3 t ht
          have h105 : x.1 174 105 = oI none := by
            rw [xx.1 174 105 rfl, f105, q2, hx.1]
          rw [meet_add hx hno e4]
          refine wpt (by simp (disch := first | omega | decide) only [↓neg1, nlit, rI, rL, rI2, rL1, nI_add, pk_mul, sbT, dvT, nmd, ixT, ↓ibT, ltT, ltF, leT, leF, eqT, eqF, nM_ltT, nM_ltF, nM_leT, nM_leF, nM_eqF, nM_eqF', nbT0, nbT1, oI_s, oI_n, natF, natT, nltT, nltF, nleT, nleF, ↓reduceIte, lgc, not_true_eq_false, not_false_eq_true, or_false, false_or, or_true, true_or, and_true, true_and, and_false, false_and, ne_eq, eq_self, or_self, and_self]) (wpj ?_)
          rw [ix_n (by omega), hBx.2.2.2.1]
          by_cases ea : a = i
          · subst ea
            refine wpt rfl (wpt (by simp (disch := first | omega | decide) only [↓neg1, nlit, rI, rL, rI2, rL1, nI_add, pk_mul, sbT, dvT, nmd, ixT, ↓ibT, ltT, ltF, leT, leF, eqT, eqF, nM_ltT, nM_ltF, nM_leT, nM_leF, nM_eqF, nM_eqF', nbT0, nbT1, oI_s, oI_n, natF, natT, nltT, nltF, nleT, nleF, ↓reduceIte, lgc, not_true_eq_false, not_false_eq_true, or_false, false_or, or_true, true_or, and_true, true_and, and_false, false_and, ne_eq, eq_self, or_self, and_self]) ?_)
            rw [hBx.2.2.2.2.1]
            have hac := MTS_ac hX.2.2.1 hM hi
            refine wpe (e459 hBx.1 hX.2.1 hM (by omega) hac.2.1 hac.1.2 hac.2.2.2.2.2.2.1 hk) ?_
            have hw := wts_b s2 hk
            have hslot : nI D - 1 - nI (wnt m (40 * M + a) - 1 - k) = nI (wts m (40 * M + a) k) := by
              rw [show nI D - 1 = nI (D - 1) from pk_sub (b := 1) (by omega), pk_sub (by omega)]
              unfold wts
              congr 1
              omega
            rw [hslot]
            refine wpt (by simp (disch := first | omega | decide) only [↓neg1, nlit, rI, rL, rI2, rL1, nI_add, pk_mul, sbT, dvT, nmd, ixT, ↓ibT, ltT, ltF, leT, leF, eqT, eqF, nM_ltT, nM_ltF, nM_leT, nM_leF, nM_eqF, nM_eqF', nbT0, nbT1, oI_s, oI_n, natF, natT, nltT, nltF, nleT, nleF, ↓reduceIte, lgc, not_true_eq_false, not_false_eq_true, or_false, false_or, or_true, true_or, and_true, true_and, and_false, false_and, ne_eq, eq_self, or_self, and_self]) (wpt (by simp (disch := first | omega | decide) only [↓neg1, nlit, rI, rL, rI2, rL1, nI_add, pk_mul, sbT, dvT, nmd, ixT, ↓ibT, ltT, ltF, leT, leF, eqT, eqF, nM_ltT, nM_ltF, nM_leT, nM_leF, nM_eqF, nM_eqF', nbT0, nbT1, oI_s, oI_n, natF, natT, nltT, nltF, nleT, nleF, ↓reduceIte, lgc, not_true_eq_false, not_false_eq_true, or_false, false_or, or_true, true_or, and_true, true_and, and_false, false_and, ne_eq, eq_self, or_self, and_self]) ?_)
            rw [ix_n (by omega), hBx.2.2.1, x240 _ (by omega), hBx.2.2.2.2.2]
            obtain ⟨s', hP, hs'⟩ := wtp_P hX.2.1 hM hac.2.2.2.2.2.2.1 hk
            have hKl := hX.2.2.2.2.2 _ _ hP hs'
            have hgs : g (wts m (40 * M + a) k) = nbl s (wts m (40 * M + a) k) := by
              rw [hg _ (by omega)]
              exact if_neg (by omega)
            have hgl := hgok (wts m (40 * M + a) k) (by omega)
            have hgl2 := hok (wts m (40 * M + a) k) (by omega)
            rw [← hg _ (by omega)] at hgl2
            have h184 : x.1 184 ((12 * o + g (wts m (40 * M + a) k)) * 12 + K (wtp m M (40 * M + a) k)) = m.1 184 ((12 * o + g (wts m (40 * M + a) k)) * 12 + K (wtp m M (40 * M + a) k)) := hBx.1.1 184 _ rfl
            have hnb := hLA.2.2.1 _ _ hgl2 hKl
            refine wpe (e387 (by omega) (by omega) (by omega) (by rw [h184]; exact hnb)) ?_
            rw [h184]
            rcases hnb with hz | hz
            · have hsh : shw m o M a k K a s = true := decide_eq_true ⟨rfl, decide_eq_false (by rw [← hgs, hz]; decide)⟩
              rw [hsh]
              refine wpt hz (wpl ?_)
              refine ⟨fin _ (some X.1) (fun a i => ?_) ?_, sx_pI swx rfl⟩
              · by_cases z : a = 174 ∧ i = 105
                · exact Or.inl z
                · exact Or.inr (by rw [rI, if_neg z])
              · rw [rI, if_pos ⟨rfl, rfl⟩, x101]
                show nI (X.1 + 1) - 1 = nI X.1
                exact pk_sub (a := X.1 + 1) (b := 1) (by omega)
            · have hsh : shw m o M a k K a s = false := decide_eq_false (fun y => by
                have := of_decide_eq_false y.2
                rw [← hgs] at this
                exact this hz)
              rw [hsh]
              refine wpf (by rw [hz]; decide) ⟨fin x none (fun a i => Or.inr rfl) h105, swx⟩
          · refine wpf (fun z => ea ((nI_eq (by omega) (by omega)).mp z)) ?_
            refine ⟨?_, swx⟩
            rw [show shw m o M i k K a s = false from decide_eq_false (fun z => ea z.1)]
            exact fin x none (fun a i => Or.inr rfl) h105
    · refine wpSr ?_
      rw [meet_dup hx hj j1 j2]
      exact ⟨hQ, sx_rfl⟩
theorem tr_cg {f : Nat → Nat} (hX : FX c m o M K) (ha : a < acn m M) (hr : RCH m M a) (hf : okF (eln m o) (8 + dpn m (40 * M + a)) f) (hfg : ∀ t, t < 8 + dpn m (40 * M + a) → g t = f t) : ∀ t, t < 8 + dpb m (40 * M + a) → trN m o K (40 * M + a) g t = trN m o K (40 * M + a) f t ∧ trL m o K (40 * M + a) g t = trL m o K (40 * M + a) f t := by
  have hL := (FX_L hX).1
  have hg : okF (eln m o) (8 + dpn m (40 * M + a)) g := fun t ht => by
    rw [hfg t ht]
    exact hf t ht
  have l1 : lfF m o (8 + dpn m (40 * M + a)) f g := fun t ht => by
    rw [hfg t ht]
    exact LA_refl hL (hf t ht)
  have l2 : lfF m o (8 + dpn m (40 * M + a)) g f := fun t ht => by
    rw [hfg t ht]
    exact LA_refl hL (hf t ht)
  obtain ⟨a1, a2, a3, a4⟩ := FX_tr hX ha hr hf hg l1
  obtain ⟨b1, b2, b3, b4⟩ := FX_tr hX ha hr hg hf l2
  exact fun t ht => ⟨LA_anti hL (b1 t ht) (a1 t ht) (b2 t ht) (a2 t ht), LA_anti hL (b3 t ht) (a3 t ht) (b4 t ht) (a4 t ht)⟩
/-- the reference goes on from a situation: to its LABEL, or to the next ACT -/
theorem e462 {lb : Bool} (hn : 1000 ≤ n) (hX : FX c m o M K) (hi : i < acn m M) (hk : k < wnt m (40 * M + i)) (he : e < 15360) (hbt : bt < eln m o) (hB : RB m o M i k e K w) (hQ : QR m M bt w X) (hW : WE m o M X) (hx : X.2.2.1 = none ∧ X.2.2.2 = false) (hj : j < X.1) (hea : (X.2.1 j).1 = a) (hes : (X.2.1 j).2.1 = s) (hlb : if lb = true then isL m (40 * M + a) = true else isN m (40 * M + a) = true) :
    wp (d_462 n (nI M) (nI j) (nI e) (if lb = true then 1 else 0) w) (fun d => QR m M bt d (if lb = true then meet (shw m o M i k K) (lbT m (40 * M + a)) (lbS m o (40 * M + a) (bhS m o K (40 * M + a) s)) (some j) X else meet (shw m o M i k K) (a + 1) (bhS m o K (40 * M + a) s) (some j) X) ∧ sx qYr w d) := by
  have hs := (hW.2.2.2 j hj).1
  rw [hea, hes] at hs
  obtain ⟨y1, y2, y3⟩ := hQ.2.2.2 j hj
  rw [hea] at y1 y3
  rw [hes] at y3
  have hX4 := hW.1
  have hM := hX.2.2.2.1
  have hM96 := isMt_lt hX.2.1 hM
  have hn40 := (FX_L hX).2.2.1
  have hl := (FX_L hX).2.1
  have hLA := (FX_L hX).1
  have h12 := hLA.1
  have ho4 := hX.1.1
  have ho := hX.2.2.2.2.1
  obtain ⟨s1, s2, s3⟩ := id hs
  have hd8 := s2.2.2.1
  have hac := MTS_ac hX.2.2.1 hM s1
  have hR := hac.2.2.2.2.2.2.1
  have hok := av_ok (bt := bt) s3 hd8 hbt
  have h21 : opn m (40 * M + a) ≠ 21 := by
    cases lb with
    | true =>
      have := of_decide_eq_true (show isL m (40 * M + a) = true from hlb)
      omega
    | false => exact (of_decide_eq_true (show isN m (40 * M + a) = true from hlb)).1
  have hbh := bhS_ok (bt := bt) hX.1 hX.2.1 ho hac.1 hR hl h21 s2 hX.2.2.2.2.2 s3
  have hlbS := lbS_ok (bt := bt) hX s1 s2 h21 hbh.1 s3 rfl hbh.2
  unfold d_462
  refine wpt (by simp (disch := first | omega | decide) only [↓neg1, nlit, rI, rL, rI2, rL1, nI_add, pk_mul, sbT, dvT, nmd, ixT, ↓ibT, ltT, ltF, leT, leF, eqT, eqF, nM_ltT, nM_ltF, nM_leT, nM_leF, nM_eqF, nM_eqF', nbT0, nbT1, oI_s, oI_n, natF, natT, nltT, nltF, nleT, nleF, ↓reduceIte, lgc, not_true_eq_false, not_false_eq_true, or_false, false_or, or_true, true_or, and_true, true_and, and_false, false_and, ne_eq, eq_self, or_self, and_self]) ?_
  rw [ix_n (by omega), y1, show (40 : Int32) * nI M + nI a = nI (40 * M + a) by rw [show (40 : Int32) = nI 40 from rfl, pk_mul, nI_add]]
  refine wpl ?_
  refine wpc (K' := fun d : cS => sx q240 w d ∧ ∃ g, NOW d g ∧ ∀ t, t < 8 + dpn m (40 * M + a) → g t = av (lcn m M) bt s t) (whl_cnt (fun t (st : Int32 × cS) => st.1 = nI t ∧ sx q240 w st.2 ∧ ∀ v, v < t → st.2.1 240 v = w.1 248 (16 * j + v)) 16 ?_ ?_ (by omega) ⟨rfl, sx_rfl, fun v hv => by omega⟩) ?_
  · rintro t ⟨t0, d⟩ ht ⟨g1, g2, g3⟩
    dsimp only at g1 g2 g3
    subst g1
    dsimp only
    refine wpf (by simp (disch := first | omega | decide) only [↓neg1, nlit, rI, rL, rI2, rL1, nI_add, pk_mul, sbT, dvT, nmd, ixT, ↓ibT, ltT, ltF, leT, leF, eqT, eqF, nM_ltT, nM_ltF, nM_leT, nM_leF, nM_eqF, nM_eqF', nbT0, nbT1, oI_s, oI_n, natF, natT, nltT, nltF, nleT, nleF, ↓reduceIte, lgc, not_true_eq_false, not_false_eq_true, or_false, false_or, or_true, true_or, and_true, true_and, and_false, false_and, ne_eq, eq_self, or_self, and_self]) ?_
    rw [show (16 : Int32) * nI j + nI t = nI (16 * j + t) by rw [show (16 : Int32) = nI 16 from rfl, pk_mul, nI_add]]
    refine wpt (by simp (disch := first | omega | decide) only [↓neg1, nlit, rI, rL, rI2, rL1, nI_add, pk_mul, sbT, dvT, nmd, ixT, ↓ibT, ltT, ltF, leT, leF, eqT, eqF, nM_ltT, nM_ltF, nM_leT, nM_leF, nM_eqF, nM_eqF', nbT0, nbT1, oI_s, oI_n, natF, natT, nltT, nltF, nleT, nleF, ↓reduceIte, lgc, not_true_eq_false, not_false_eq_true, or_false, false_or, or_true, true_or, and_true, true_and, and_false, false_and, ne_eq, eq_self, or_self, and_self]) (wpt (by simp (disch := first | omega | decide) only [↓neg1, nlit, rI, rL, rI2, rL1, nI_add, pk_mul, sbT, dvT, nmd, ixT, ↓ibT, ltT, ltF, leT, leF, eqT, eqF, nM_ltT, nM_ltF, nM_leT, nM_leF, nM_eqF, nM_eqF', nbT0, nbT1, oI_s, oI_n, natF, natT, nltT, nltF, nleT, nleF, ↓reduceIte, lgc, not_true_eq_false, not_false_eq_true, or_false, false_or, or_true, true_or, and_true, true_and, and_false, false_and, ne_eq, eq_self, or_self, and_self]) ?_)
    rw [ix_n (by omega), ix_n (by omega), g2.1 248 _ rfl]
    refine wpl (wpl ⟨nI_1 _, sx_pI g2 rfl, fun v hv => ?_⟩)
    dsimp only
    rw [rI]
    by_cases z : v = t
    · rw [if_pos ⟨rfl, z⟩, z]
    · rw [if_neg (by omega)]
      exact g3 v (by omega)
  · rintro ⟨t0, d⟩ ⟨g1, g2, g3⟩
    dsimp only at g1 g2 g3
    subst g1
    dsimp only
    refine wpt (by simp (disch := first | omega | decide) only [↓neg1, nlit, rI, rL, rI2, rL1, nI_add, pk_mul, sbT, dvT, nmd, ixT, ↓ibT, ltT, ltF, leT, leF, eqT, eqF, nM_ltT, nM_ltF, nM_leT, nM_leF, nM_eqF, nM_eqF', nbT0, nbT1, oI_s, oI_n, natF, natT, nltT, nltF, nleT, nleF, ↓reduceIte, lgc, not_true_eq_false, not_false_eq_true, or_false, false_or, or_true, true_or, and_true, true_and, and_false, false_and, ne_eq, eq_self, or_self, and_self]) ⟨g2, fun t => if t < 8 + dpn m (40 * M + a) then av (lcn m M) bt s t else (w.1 248 (16 * j + t)).toBitVec.toNat, fun t ht => ?_, fun t ht => if_pos ht⟩
    rw [g3 t ht]
    dsimp only
    by_cases z : t < 8 + dpn m (40 * M + a)
    · rw [if_pos z]
      exact y3 t z
    · rw [if_neg z]
      exact nI_bits _
  · rintro d ⟨d1, g, g1, g2⟩
    have wid : ∀ {x y : cS}, sx q240 x y → sx qYr x y := fun h => sx_wide h (fun a i z => by
      have := of_decide_eq_false z
      exact decide_eq_false (by omega))
    have hBd := RB_sx hB (wid d1)
    rw [hBd.2.2.1]
    have hgok : okF (eln m o) (8 + dpn m (40 * M + a)) g := fun t ht => by
      rw [g2 t ht]
      exact hok t ht
    refine wpc (e454 (a := 0) hn hBd.1 hX s1 s2 g1 hgok hBd.2.1) (fun y hy => ?_)
    obtain ⟨yNw, ys⟩ := hy
    have swy : sx qYr w y := sx_trans (wid d1) (wid ys)
    have sw40 : sx q240 w y := sx_trans d1 ys
    have hBy := RB_sx hB swy
    have hcg := tr_cg hX s1 s2 hok g2
    have A1 := hBy.1.1
    refine wpt (by simp (disch := first | omega | decide) only [↓neg1, nlit, rI, rL, rI2, rL1, nI_add, pk_mul, sbT, dvT, nmd, ixT, ↓ibT, ltT, ltF, leT, leF, eqT, eqF, nM_ltT, nM_ltF, nM_leT, nM_leF, nM_eqF, nM_eqF', nbT0, nbT1, oI_s, oI_n, natF, natT, nltT, nltF, nleT, nleF, ↓reduceIte, lgc, not_true_eq_false, not_false_eq_true, or_false, false_or, or_true, true_or, and_true, true_and, and_false, false_and, ne_eq, eq_self, or_self, and_self]) ?_
    rw [ix_n (by omega), A1 230 _ rfl, s2.1, A1 211 _ rfl, A1 214 _ rfl, A1 215 _ rfl, hac.2.1, hBy.2.2.1, show (8 : Int32) + nI (dpn m (40 * M + a)) - 1 = nI (8 + dpn m (40 * M + a) - 1) by rw [show (8 : Int32) = nI 8 from rfl, nI_add]; exact pk_sub (b := 1) (by omega)]
    refine wpl ?_
    have hQy : ∀ z, sx q240 w z → QR m M bt z X := by
      intro z hz
      obtain ⟨p1, p2, p3, p4⟩ := hQ
      refine ⟨(hz.1 174 101 rfl).trans p1, (hz.1 174 105 rfl).trans p2, (hz.1 174 104 rfl).trans p3, fun j hj => ?_⟩
      obtain ⟨r1, r2, r3⟩ := p4 j hj
      exact ⟨(hz.1 246 j rfl).trans r1, (hz.1 247 j rfl).trans r2, fun t ht => (hz.1 248 _ rfl).trans (r3 t ht)⟩
    cases lb with
    | false =>
      have hN : SW m o M (a + 1) (bhS m o K (40 * M + a) s) := SW_nx hX hs hlb
      refine wpj (wpt rfl (wpj (wpt rfl (wpt (by simp (disch := first | omega | decide) only [↓neg1, nlit, rI, rL, rI2, rL1, nI_add, pk_mul, sbT, dvT, nmd, ixT, ↓ibT, ltT, ltF, leT, leF, eqT, eqF, nM_ltT, nM_ltF, nM_leT, nM_leF, nM_eqF, nM_eqF', nbT0, nbT1, oI_s, oI_n, natF, natT, nltT, nltF, nleT, nleF, ↓reduceIte, lgc, not_true_eq_false, not_false_eq_true, or_false, false_or, or_true, true_or, and_true, true_and, and_false, false_and, ne_eq, eq_self, or_self, and_self]) ?_))))
      rw [(sw40.1 246 j rfl).trans y1, nI_1]
      have hgn : opn m (40 * M + a) ≠ 21 ∧ opn m (40 * M + a) ≠ 27 := of_decide_eq_true (show isN m (40 * M + a) = true from hlb)
      have n3 := (RCH_nx hX.2.2.1 hM s1 s2 hgn).2.2
      refine wpc (e461 (fr := some j) hn hX hi hk he hbt hBy (hQy y sw40) hW hx hN yNw (fun t ht => ?_)) (fun d hd => ⟨hd.1, sx_trans swy hd.2⟩)
      rw [n3] at ht
      rw [(hcg t ht).1, ← hbh.2 t ht]
    | true =>
      obtain ⟨l1, l2, l3⟩ := SW_lb hX hs (show isL m (40 * M + a) = true from hlb)
      have lb2 := (RCH_lb hX.2.2.1 hM s1 s2 l1 l2.1).2
      refine wpjP (fun z : cS => sx q240 y z ∧ NOW z (trL m o K (40 * M + a) g)) ?_ ?_
      · rintro z ⟨z1, z2⟩
        have swz : sx qYr w z := sx_trans swy (wid z1)
        have hBz := RB_sx hB swz
        refine wpj (wpf (by decide) (wpt (by simp (disch := first | omega | decide) only [↓neg1, nlit, rI, rL, rI2, rL1, nI_add, pk_mul, sbT, dvT, nmd, ixT, ↓ibT, ltT, ltF, leT, leF, eqT, eqF, nM_ltT, nM_ltF, nM_leT, nM_leF, nM_eqF, nM_eqF', nbT0, nbT1, oI_s, oI_n, natF, natT, nltT, nltF, nleT, nleF, ↓reduceIte, lgc, not_true_eq_false, not_false_eq_true, or_false, false_or, or_true, true_or, and_true, true_and, and_false, false_and, ne_eq, eq_self, or_self, and_self]) ?_))
        rw [hBz.1.1 216 _ rfl, l1]
        refine wpc (e461 (fr := some j) hn hX hi hk he hbt hBz (hQy z (sx_trans sw40 z1)) hW hx l2 z2 (fun t ht => ?_)) (fun d hd => ⟨hd.1, sx_trans swz hd.2⟩)
        rw [lb2] at ht
        rw [(hcg t ht).2, ← hlbS.2 t ht]
      · intro k' hk'
        refine wpf (by decide) (wpt (by simp (disch := first | omega | decide) only [↓neg1, nlit, rI, rL, rI2, rL1, nI_add, pk_mul, sbT, dvT, nmd, ixT, ↓ibT, ltT, ltF, leT, leF, eqT, eqF, nM_ltT, nM_ltF, nM_leT, nM_leF, nM_eqF, nM_eqF', nbT0, nbT1, oI_s, oI_n, natF, natT, nltT, nltF, nleT, nleF, ↓reduceIte, lgc, not_true_eq_false, not_false_eq_true, or_false, false_or, or_true, true_or, and_true, true_and, and_false, false_and, ne_eq, eq_self, or_self, and_self]) ?_)
        by_cases e29 : opn m (40 * M + a) = 29
        · have htk := tk_of e29 (by omega)
          rw [show TK 29 = 1 from rfl] at htk
          have rr2 := s2.2.1
          have x1 := (hR.2.2.2.2.2.1 (by omega)).1
          have x2 := (hR.2.2.2.2.2.1 (by omega)).2.1
          have x3 := (hR.2.2.2.2.2.1 (by omega)).2.2.1
          have x4 := (hR.2.2.2.2.2.1 (by omega)).2.2.2.1
          rw [x3, x4]
          refine wpt (by rw [e29]; rfl) (wpt (by simp (disch := first | omega | decide) only [↓neg1, nlit, rI, rL, rI2, rL1, nI_add, pk_mul, sbT, dvT, nmd, ixT, ↓ibT, ltT, ltF, leT, leF, eqT, eqF, nM_ltT, nM_ltF, nM_leT, nM_leF, nM_eqF, nM_eqF', nbT0, nbT1, oI_s, oI_n, natF, natT, nltT, nltF, nleT, nleF, ↓reduceIte, lgc, not_true_eq_false, not_false_eq_true, or_false, false_or, or_true, true_or, and_true, true_and, and_false, false_and, ne_eq, eq_self, or_self, and_self]) ?_)
          by_cases hxo : xN m (40 * M + a) = o
          · rw [hxo] at x2
            have u1 := hgok (8 + dpn m (40 * M + a) - 1) (by omega)
            obtain ⟨m1, m2, -⟩ := LA_M hLA u1 x2
            have hid : ∀ t, trN m o K (40 * M + a) g t = g t := fun t => by unfold trN; simp (disch := first | omega | decide) only [↓neg1, nlit, rI, rL, rI2, rL1, nI_add, pk_mul, sbT, dvT, nmd, ixT, ↓ibT, ltT, ltF, leT, leF, eqT, eqF, nM_ltT, nM_ltF, nM_leT, nM_leF, nM_eqF, nM_eqF', nbT0, nbT1, oI_s, oI_n, natF, natT, nltT, nltF, nleT, nleF, ↓reduceIte, lgc, not_true_eq_false, not_false_eq_true, or_false, false_or, or_true, true_or, and_true, true_and, and_false, false_and, ne_eq, eq_self, or_self, and_self, obs, ↓jn, ↓lt, ↓reduceIte, decide_true, decide_false, Bool.false_eq_true, Bool.and_true, Bool.and_false, Bool.true_and, Bool.false_and, Bool.or_false, Bool.false_or, Bool.or_true, Bool.true_or, e29]
            refine wpt (by rw [hxo]) (wpt (by simp (disch := first | omega | decide) only [↓neg1, nlit, rI, rL, rI2, rL1, nI_add, pk_mul, sbT, dvT, nmd, ixT, ↓ibT, ltT, ltF, leT, leF, eqT, eqF, nM_ltT, nM_ltF, nM_leT, nM_leF, nM_eqF, nM_eqF', nbT0, nbT1, oI_s, oI_n, natF, natT, nltT, nltF, nleT, nleF, ↓reduceIte, lgc, not_true_eq_false, not_false_eq_true, or_false, false_or, or_true, true_or, and_true, true_and, and_false, false_and, ne_eq, eq_self, or_self, and_self]) (wpt (by simp (disch := first | omega | decide) only [↓neg1, nlit, rI, rL, rI2, rL1, nI_add, pk_mul, sbT, dvT, nmd, ixT, ↓ibT, ltT, ltF, leT, leF, eqT, eqF, nM_ltT, nM_ltF, nM_leT, nM_leF, nM_eqF, nM_eqF', nbT0, nbT1, oI_s, oI_n, natF, natT, nltT, nltF, nleT, nleF, ↓reduceIte, lgc, not_true_eq_false, not_false_eq_true, or_false, false_or, or_true, true_or, and_true, true_and, and_false, false_and, ne_eq, eq_self, or_self, and_self]) ?_))
            rw [ix_n (by omega), yNw _ (by omega), hid]
            refine wpe (e391 (by omega) (by omega) (by omega)) (wpt (by simp (disch := first | omega | decide) only [↓neg1, nlit, rI, rL, rI2, rL1, nI_add, pk_mul, sbT, dvT, nmd, ixT, ↓ibT, ltT, ltF, leT, leF, eqT, eqF, nM_ltT, nM_ltF, nM_leT, nM_leF, nM_eqF, nM_eqF', nbT0, nbT1, oI_s, oI_n, natF, natT, nltT, nltF, nleT, nleF, ↓reduceIte, lgc, not_true_eq_false, not_false_eq_true, or_false, false_or, or_true, true_or, and_true, true_and, and_false, false_and, ne_eq, eq_self, or_self, and_self]) ?_)
            rw [show mM y o (g (8 + dpn m (40 * M + a) - 1)) (yN m (40 * M + a)) = nI (Mo m o (g (8 + dpn m (40 * M + a) - 1)) (yN m (40 * M + a))) from (A1 186 _ rfl).trans m2]
            refine wpl (hk' _ ⟨sx_pI sx_rfl rfl, fun t ht => ?_⟩)
            have := NOW_set (k := 8 + dpn m (40 * M + a) - 1) (v := Mo m o (g (8 + dpn m (40 * M + a) - 1)) (yN m (40 * M + a))) yNw (by omega) t ht
            rw [this]
            show nI (if t = 8 + dpn m (40 * M + a) - 1 then Mo m o (g (8 + dpn m (40 * M + a) - 1)) (yN m (40 * M + a)) else trN m o K (40 * M + a) g t) = _
            unfold trL
            by_cases es : t = 8 + dpn m (40 * M + a) - 1
            · rw [if_pos es, if_pos ⟨e29, hxo, es⟩]
            · rw [if_neg es, if_neg (fun z => es z.2.2)]
          · refine wpf (fun z => hxo ((nI_eq (by omega) (by omega)).mp z)) (hk' y ⟨sx_rfl, fun t ht => ?_⟩)
            unfold trL
            rw [if_neg (fun z => hxo z.2.1)]
            exact yNw t ht
        · have hop := hac.1
          refine wpf (fun z => e29 ((nI_eq (by omega) (by omega)).mp z)) (hk' y ⟨sx_rfl, fun t ht => ?_⟩)
          unfold trL
          rw [if_neg (fun z => e29 z.1)]
          exact yNw t ht
end RW
