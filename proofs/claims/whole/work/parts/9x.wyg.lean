/-! the call way -/
theorem st_R {m : cS} {o M j a : Nat} {K : Nat → Nat} {sh : Nat → Int64 → Bool} {s : Int64} {X : WQ} : mtI (isL m (40 * M + a) && !(!isN m (40 * M + a) || decide (lbT m (40 * M + a) ≤ a))) sh (lbT m (40 * M + a)) (lbS m o (40 * M + a) (bhS m o K (40 * M + a) s)) (some j) (mtI (isN m (40 * M + a)) sh (a + 1) (bhS m o K (40 * M + a) s) (some j) (mtI (isL m (40 * M + a) && (!isN m (40 * M + a) || decide (lbT m (40 * M + a) ≤ a))) sh (lbT m (40 * M + a)) (lbS m o (40 * M + a) (bhS m o K (40 * M + a) s)) (some j) X)) = stA m o M K sh j a s X := by
  unfold stA
  have hd : decide (a < lbT m (40 * M + a)) = !decide (lbT m (40 * M + a) ≤ a) := by
    by_cases e : lbT m (40 * M + a) ≤ a
    · rw [decide_eq_true e, decide_eq_false (by omega)]
      rfl
    · rw [decide_eq_false e, decide_eq_true (by omega)]
      rfl
  rw [hd]
  cases isN m (40 * M + a) with
  | true => simp only [Bool.not_true, Bool.false_or]
  | false =>
    simp only [Bool.not_false, Bool.true_or, Bool.not_true, Bool.and_false, Bool.and_true]
    cases decide (lbT m (40 * M + a) ≤ a) with
    | true =>
      simp only [Bool.not_true, Bool.and_false, Bool.and_true]
    | false =>
      simp only [Bool.not_false, Bool.and_false, Bool.and_true]
      rfl
theorem b01t {b : Bool} (h : b = true) : (if b = true then (1 : Int32) else 0) = 1 := if_pos h
theorem b01f {b : Bool} (h : ¬ b = true) : (if b = true then (1 : Int32) else 0) = 0 := if_neg h
theorem ans_one {X : WQ} {a b b0 a' b' b0' : Int32} {S S0 S' S0' : Nat → Int32} (h : ANS X a b b0 S S0) (h' : ANS X a' b' b0' S' S0') : a = a' ∧ ((b = b0 ∧ S = S0 ∧ b' = b0' ∧ S' = S0') ∨ ∃ N, N ≤ 400 ∧ b = nI N ∧ b' = nI N ∧ ∀ j, j < N → S j = S' j) := by
  rcases h with ⟨h1, h2, h3, h4⟩ | ⟨p, N, h1, h2, h3, h4, h5, h6, h7, h8⟩
  · rcases h' with ⟨g1, g2, g3, g4⟩ | ⟨p', N', g1, -⟩
    · exact ⟨h2.trans g2.symm, Or.inl ⟨h3, h4, g3, g4⟩⟩
    · rw [h1] at g1
      cases g1
  · rcases h' with ⟨g1, -⟩ | ⟨p', N', g1, g2, g3, g4, g5, g6, g7, g8⟩
    · rw [h1] at g1
      cases g1
    · rw [h1] at g1
      cases g1
      have hN : N = N' := by
        by_cases e1 : N < N'
        · obtain ⟨q, u1, -⟩ := g5 N e1
          rw [h4] at u1
          cases u1
        · by_cases e2 : N' < N
          · obtain ⟨q, u1, -⟩ := h5 N' e2
            rw [g4] at u1
            cases u1
          · omega
      subst hN
      refine ⟨h6.trans g6.symm, Or.inr ⟨N, h3, h7, g7, fun j hj => ?_⟩⟩
      obtain ⟨q, u1, -⟩ := h5 (N - 1 - j) (by omega)
      have e1 := h8 (N - 1 - j) q (by omega) u1
      have e2 := g8 (N - 1 - j) q (by omega) u1
      rw [show N - 1 - (N - 1 - j) = j by omega] at e1 e2
      exact e1.trans e2.symm
def qYR (a i : Nat) : Bool := decide ((a = 174 ∧ ((73 ≤ i ∧ i ≤ 79) ∨ i = 101 ∨ i = 102 ∨ i = 104 ∨ i = 105)) ∨ a = 232 ∨ a = 233 ∨ a = 236 ∨ a = 237 ∨ a = 240 ∨ (246 ≤ a ∧ a ≤ 249))
theorem nP_YR : nP qYR := by
  refine ⟨fun a i h => ?_, fun i h => ?_, fun i h => ?_, fun a i h1 h2 h3 => ?_, fun a i h1 h2 h3 => ?_⟩
  · have := PA_of h
    exact decide_eq_false (by omega)
  · have := PF_of h
    exact decide_eq_false (by omega)
  · exact decide_eq_false (by omega)
  · exact decide_eq_false (by omega)
  · exact decide_eq_false (by omega)
theorem sx_36Y {x y : cS} (h : sx q36 x y) : sx qYR x y := sx_wide h (fun a i z => by
  have := of_decide_eq_false z
  exact decide_eq_false (by omega))
theorem sx_YrY {x y : cS} (h : sx qYr x y) : sx qYR x y := sx_wide h (fun a i z => by
  have := of_decide_eq_false z
  exact decide_eq_false (by omega))
theorem QR_st {m : cS} {M bt : Nat} {w : cS} {X : WQ} (h : QR m M bt w X) (h4 : X.1 ≤ 400) (h0 : ∀ p, X.2.2.1 = some p → p < X.1) : ((0 ≤ w.1 174 105) ↔ X.2.2.1 ≠ none) ∧ (w.1 174 104 = 0 ↔ X.2.2.2 = false) := by
  obtain ⟨-, q2, q3, -⟩ := h
  rw [q2, q3]
  refine ⟨?_, ?_⟩
  · cases hf : X.2.2.1 with
    | none => exact ⟨fun z => absurd z (by decide), fun z => absurd rfl z⟩
    | some p =>
      have := h0 p hf
      exact ⟨fun _ z => (by cases z), fun _ => nI_pos' (by omega)⟩
  · cases X.2.2.2 with
    | true => exact ⟨fun z => absurd z (by decide), fun z => by cases z⟩
    | false => exact ⟨fun _ => rfl, fun _ => rfl⟩
/-- the reference's search -/
theorem way_r {n o M i k e L : Nat} {c m u : cS} {K : Nat → Nat} (hn : 10000 ≤ n) (h0 : c.1 7 0 = nI 1) (h0' : m.1 174 14 = nI 1) (hE : EC c m) (hF : FD m c (pI u 174 0 0)) (hK : ∀ p, TM m c p o = K p) (hX : FX c m o M K) (hi : i < acn m M) (hk : k < wnt m (40 * M + i)) (he : e < L) (hL : L ≤ 15360) (hA : AG m (pI u 174 0 0)) (h97 : (pI u 174 0 0).1 174 97 = nI o) (h91 : (pI u 174 0 0).1 174 91 = nI L) (h241 : (pI u 174 0 0).1 241 e = nI M) (h242 : (pI u 174 0 0).1 242 e = nI i) (h243 : (pI u 174 0 0).1 243 e = nI k) (h245 : (pI u 174 0 0).1 245 e = nI (K (wtp m M (40 * M + i) k))) : wp (d_129 n (nI e) u) (fun r => ∃ kk, (∀ j, j < kk → cnQ j (XQ m o M i k K j)) ∧ ¬ cnQ kk (XQ m o M i k K kk) ∧ sx qYR (pI u 174 0 0) r.2 ∧ MKS m K r.2 ∧ TLD m o r.2 ∧ ANS (XQ m o M i k K kk) r.1 (r.2.1 174 102) ((pI u 174 0 0).1 174 102) (r.2.1 249) ((pI u 174 0 0).1 249)) := by
  have hM := hX.2.2.2.1
  have hM96 := isMt_lt hX.2.1 hM
  have hn40 := (FX_L hX).2.2.1
  have hl := (FX_L hX).2.1
  have hbt := (FX_L hX).2.2.2.2
  have ho4 := hX.1.1
  have ho := hX.2.2.2.2.1
  have hKf : (fun p => TM m c p o) = K := funext hK
  unfold d_129
  refine wpl ?_
  generalize pI u 174 0 0 = v at *
  refine wpj (wpf (by rw [h97]; simp (disch := first | omega | decide) only [↓neg1, nlit, rI, rL, rI2, rL1, nI_add, pk_mul, sbT, dvT, nmd, ixT, ↓ibT, ltT, ltF, leT, leF, eqT, eqF, nM_ltT, nM_ltF, nM_leT, nM_leF, nM_eqF, nM_eqF', nbT0, nbT1, oI_s, oI_n, natF, natT, nltT, nltF, nleT, nleF, ↓reduceIte, lgc, not_true_eq_false, not_false_eq_true, or_false, false_or, or_true, true_or, and_true, true_and, and_false, false_and, ne_eq, eq_self, or_self, and_self]) (wpf (by simp (disch := first | omega | decide) only [↓neg1, nlit, rI, rL, rI2, rL1, nI_add, pk_mul, sbT, dvT, nmd, ixT, ↓ibT, ltT, ltF, leT, leF, eqT, eqF, nM_ltT, nM_ltF, nM_leT, nM_leF, nM_eqF, nM_eqF', nbT0, nbT1, oI_s, oI_n, natF, natT, nltT, nltF, nleT, nleF, ↓reduceIte, lgc, not_true_eq_false, not_false_eq_true, or_false, false_or, or_true, true_or, and_true, true_and, and_false, false_and, ne_eq, eq_self, or_self, and_self]) (wpt (by rw [h91]; simp (disch := first | omega | decide) only [↓neg1, nlit, rI, rL, rI2, rL1, nI_add, pk_mul, sbT, dvT, nmd, ixT, ↓ibT, ltT, ltF, leT, leF, eqT, eqF, nM_ltT, nM_ltF, nM_leT, nM_leF, nM_eqF, nM_eqF', nbT0, nbT1, oI_s, oI_n, natF, natT, nltT, nltF, nleT, nleF, ↓reduceIte, lgc, not_true_eq_false, not_false_eq_true, or_false, false_or, or_true, true_or, and_true, true_and, and_false, false_and, ne_eq, eq_self, or_self, and_self]) (wpt (by simp (disch := first | omega | decide) only [↓neg1, nlit, rI, rL, rI2, rL1, nI_add, pk_mul, sbT, dvT, nmd, ixT, ↓ibT, ltT, ltF, leT, leF, eqT, eqF, nM_ltT, nM_ltF, nM_leT, nM_leF, nM_eqF, nM_eqF', nbT0, nbT1, oI_s, oI_n, natF, natT, nltT, nltF, nleT, nleF, ↓reduceIte, lgc, not_true_eq_false, not_false_eq_true, or_false, false_or, or_true, true_or, and_true, true_and, and_false, false_and, ne_eq, eq_self, or_self, and_self]) ?_))))
  rw [ix_n (by omega), h241, h97]
  refine wpl (wpl ?_)
  refine wpc (e450 (by omega) h0 h0' hA hE ho hF) (fun v1 hv1 => ?_)
  obtain ⟨s1, mk1, tl1⟩ := hv1
  rw [hKf] at mk1
  refine wpl (wpl (wpl ?_))
  generalize e2 : pI (pI (pI v1 174 101 0) 174 104 0) 174 105 (-1) = v2
  have s2 : sx qYr v1 v2 := by
    rw [← e2]
    exact sx_pI (sx_pI (sx_pI sx_rfl rfl) rfl) rfl
  have hB1 : RB m o M i k e K v1 := ⟨AG_sx hA s1 nP_q36, mk1, (s1.1 174 97 rfl).trans h97, (s1.1 242 e (decide_eq_false (by omega))).trans h242, (s1.1 243 e (decide_eq_false (by omega))).trans h243, (s1.1 245 e (decide_eq_false (by omega))).trans h245⟩
  have hB2 := RB_sx hB1 s2
  refine wpc (e452 (by omega) hB2.1 hX hB2.2.1) (fun v3 hv3 => ?_)
  obtain ⟨now3, s3⟩ := hv3
  have wid : ∀ {x y : cS}, sx q240 x y → sx qYr x y := fun h => sx_wide h (fun a i z => by
    have := of_decide_eq_false z
    exact decide_eq_false (by omega))
  have hB3 := RB_sx hB2 (wid s3)
  have hQ3 : QR m M (ix (m.1 188 o)) v3 (0, E0, none, false) := by
    refine ⟨?_, ?_, ?_, fun j hj => absurd hj (Nat.not_lt_zero _)⟩
    · rw [s3.1 174 101 rfl, ← e2, rI, if_neg (by omega), rI, if_neg (by omega), rI, if_pos ⟨rfl, rfl⟩]
      rfl
    · rw [s3.1 174 105 rfl, ← e2, rI, if_pos ⟨rfl, rfl⟩]
      rfl
    · rw [s3.1 174 104 rfl, ← e2, rI, if_neg (by omega), rI, if_pos ⟨rfl, rfl⟩]
      rfl
  have hs0 := SW_0 hX
  have hd0 := (RCH_0 hX.2.2.1 hM).2
  have hW00 : WE m o M (0, E0, none, false) := ⟨by show 0 ≤ 400; omega, fun _ => rfl, fun p hp => (by cases hp), fun j hj => absurd hj (Nat.not_lt_zero _)⟩
  have hpl := (hX.2.2.1.2.1 M hM).1.2.2.2.1.2
  have hav0 : ∀ t, t < 8 + dpn m (40 * M + 0) → entV m o M K t = av (lcn m M) (ix (m.1 188 o)) (entK m o M K (lcn m M)) t := by
    intro t ht
    rw [hd0] at ht
    unfold av
    by_cases z : lcn m M ≤ t ∧ t < 8
    · rw [if_pos z]
      unfold entV
      rw [if_neg (by omega)]
    · rw [if_neg z, nbl_ent hX (by omega) _ hl, if_pos (by omega)]
  have hFr : (oI none : Int32) = -1 := rfl
  refine wpc (e461 (fr := none) (by omega) hX hi hk (by omega) hbt hB3 hQ3 hW00 ⟨rfl, rfl⟩ hs0 now3 hav0) (fun v4 hv4 => ?_)
  obtain ⟨hQ4, s4⟩ := hv4
  have s24 : sx qYr v1 v4 := sx_trans (sx_trans s2 (wid s3)) s4
  have hW0 := WE_0 (i := i) (k := k) hX
  refine wpc (K' := fun d : cS => ∃ kk, (∀ j, j < kk → cnQ j (XQ m o M i k K j)) ∧ ¬ cnQ kk (XQ m o M i k K kk) ∧ sx qYr v1 d ∧ QR m M (ix (m.1 188 o)) d (XQ m o M i k K kk)) (whl_cnt (fun t (st : Int32 × cS) => st.1 = nI t ∧ (∀ j, j < t → cnQ j (XQ m o M i k K j)) ∧ sx qYr v1 st.2 ∧ QR m M (ix (m.1 188 o)) st.2 (XQ m o M i k K t)) 400 ?_ ?_ (by omega) ⟨rfl, fun j hj => by omega, s24, hQ4⟩) ?_
  · rintro t ⟨t0, w⟩ ht ⟨g1, g2, g3, g4⟩
    dsimp only at g1 g2 g3 g4
    subst g1
    have hWt : WE m o M (XQ m o M i k K t) := WE_it hX hW0 t g2
    have hstp : XQ m o M i k K (t + 1) = stQ m o M K (shw m o M i k K) t (XQ m o M i k K t) := rfl
    have hBw := RB_sx hB1 g3
    have hst := QR_st g4 hWt.1 hWt.2.2.1
    dsimp only
    generalize hXt : XQ m o M i k K t = Xt at *
    have hX4 := hWt.1
    rw [g4.1]
    by_cases e1 : Xt.1 ≤ t
    · refine wpt (by simp (disch := first | omega | decide) only [↓neg1, nlit, rI, rL, rI2, rL1, nI_add, pk_mul, sbT, dvT, nmd, ixT, ↓ibT, ltT, ltF, leT, leF, eqT, eqF, nM_ltT, nM_ltF, nM_leT, nM_leF, nM_eqF, nM_eqF', nbT0, nbT1, oI_s, oI_n, natF, natT, nltT, nltF, nleT, nleF, ↓reduceIte, lgc, not_true_eq_false, not_false_eq_true, or_false, false_or, or_true, true_or, and_true, true_and, and_false, false_and, ne_eq, eq_self, or_self, and_self]) ⟨t, g2, fun z => ?_, g3, by rw [hXt]; exact g4⟩
      rw [hXt] at z
      have := z.1
      omega
    refine wpf (by simp (disch := first | omega | decide) only [↓neg1, nlit, rI, rL, rI2, rL1, nI_add, pk_mul, sbT, dvT, nmd, ixT, ↓ibT, ltT, ltF, leT, leF, eqT, eqF, nM_ltT, nM_ltF, nM_leT, nM_leF, nM_eqF, nM_eqF', nbT0, nbT1, oI_s, oI_n, natF, natT, nltT, nltF, nleT, nleF, ↓reduceIte, lgc, not_true_eq_false, not_false_eq_true, or_false, false_or, or_true, true_or, and_true, true_and, and_false, false_and, ne_eq, eq_self, or_self, and_self]) ?_
    by_cases ef : Xt.2.2.1 = none
    · refine wpf (fun z => hst.1.mp z ef) ?_
      by_cases eu : Xt.2.2.2 = false
      · refine wpt (hst.2.mpr eu) (wpt (by simp (disch := first | omega | decide) only [↓neg1, nlit, rI, rL, rI2, rL1, nI_add, pk_mul, sbT, dvT, nmd, ixT, ↓ibT, ltT, ltF, leT, leF, eqT, eqF, nM_ltT, nM_ltF, nM_leT, nM_leF, nM_eqF, nM_eqF', nbT0, nbT1, oI_s, oI_n, natF, natT, nltT, nltF, nleT, nleF, ↓reduceIte, lgc, not_true_eq_false, not_false_eq_true, or_false, false_or, or_true, true_or, and_true, true_and, and_false, false_and, ne_eq, eq_self, or_self, and_self]) ?_)
        have hjt : t < Xt.1 := by omega
        have hsw := (hWt.2.2.2 t hjt).1
        obtain ⟨y1, y2, y3⟩ := g4.2.2.2 t hjt
        unfold stQ at hstp
        generalize hea : (Xt.2.1 t).1 = a at *
        generalize hes : (Xt.2.1 t).2.1 = s at *
        have ha40 := hsw.1
        have hac := MTS_ac hX.2.2.1 hM hsw.1
        have hop := hac.1
        have hlab := hac.2.2.2.2.2.2.1.2.2.2.2.2.2
        have h211 : ∀ y, sx qYr v1 y → y.1 211 (40 * M + a) = nI (opn m (40 * M + a)) := fun y hy => ((RB_sx hB1 hy).1.1 211 _ rfl).trans hac.2.1
        have h216 : ∀ y, sx qYr v1 y → y.1 216 (40 * M + a) = m.1 216 (40 * M + a) := fun y hy => (RB_sx hB1 hy).1.1 216 _ rfl
        have hlL := fun z => (SW_lb hX hsw z).1
        have hlt := fun z => (SW_lb hX hsw z).2.1.1
        have hlN : ¬ isL m (40 * M + a) = true → m.1 216 (40 * M + a) = nM := fun z => hlab.2 ⟨fun y => z (decide_eq_true (Or.inl y)), fun y => z (decide_eq_true (Or.inr (Or.inl y))), fun y => z (decide_eq_true (Or.inr (Or.inr y)))⟩
        have hSL := fun z => (SW_lb hX hsw z).2.1
        have hSN := fun z => SW_nx hX hsw z
        -- a guarded going on
        have call : ∀ (lb : Bool) (y : cS) (Y : WQ), sx qYr v1 y → QR m M (ix (m.1 188 o)) y Y → WE m o M Y → t < Y.1 → Y.2.1 t = Xt.2.1 t → (Y.2.2.1 = none ∧ Y.2.2.2 = false) → (if lb = true then isL m (40 * M + a) = true else isN m (40 * M + a) = true) → wp (d_462 n (nI M) (nI t) (nI e) (if lb = true then 1 else 0) y) (fun d => sx qYr v1 d ∧ QR m M (ix (m.1 188 o)) d (if lb = true then meet (shw m o M i k K) (lbT m (40 * M + a)) (lbS m o (40 * M + a) (bhS m o K (40 * M + a) s)) (some t) Y else meet (shw m o M i k K) (a + 1) (bhS m o K (40 * M + a) s) (some t) Y)) := by
          intro lb y Y c1 c2 c3 c4 c5 c6 c7
          have := e462 (lb := lb) (a := a) (s := s) (by omega) hX hi hk (show e < 15360 by omega) hbt (RB_sx hB1 c1) c2 c3 c6 c4 (by rw [c5]; exact hea) (by rw [c5]; exact hes) c7 (n := n)
          exact wp_mono this (fun d hd => ⟨sx_trans c1 hd.2, hd.1⟩)
        rw [ix_n (by omega), y1, show (40 : Int32) * nI M + nI a = nI (40 * M + a) by rw [show (40 : Int32) = nI 40 from rfl, pk_mul, nI_add]]
        refine wpl (wpt (by simp (disch := first | omega | decide) only [↓neg1, nlit, rI, rL, rI2, rL1, nI_add, pk_mul, sbT, dvT, nmd, ixT, ↓ibT, ltT, ltF, leT, leF, eqT, eqF, nM_ltT, nM_ltF, nM_leT, nM_leF, nM_eqF, nM_eqF', nbT0, nbT1, oI_s, oI_n, natF, natT, nltT, nltF, nleT, nleF, ↓reduceIte, lgc, not_true_eq_false, not_false_eq_true, or_false, false_or, or_true, true_or, and_true, true_and, and_false, false_and, ne_eq, eq_self, or_self, and_self]) ?_)
        rw [ix_n (by omega), h211 w g3, h216 w g3]
        refine wpjP (fun p : Int32 => p = if isN m (40 * M + a) = true then 1 else 0) ?_ ?_
        · rintro p27 rfl
          refine wpt (by simp (disch := first | omega | decide) only [↓neg1, nlit, rI, rL, rI2, rL1, nI_add, pk_mul, sbT, dvT, nmd, ixT, ↓ibT, ltT, ltF, leT, leF, eqT, eqF, nM_ltT, nM_ltF, nM_leT, nM_leF, nM_eqF, nM_eqF', nbT0, nbT1, oI_s, oI_n, natF, natT, nltT, nltF, nleT, nleF, ↓reduceIte, lgc, not_true_eq_false, not_false_eq_true, or_false, false_or, or_true, true_or, and_true, true_and, and_false, false_and, ne_eq, eq_self, or_self, and_self]) ?_
          refine wpjP (fun p : Int32 => p = if (isL m (40 * M + a) && (!isN m (40 * M + a) || decide (lbT m (40 * M + a) ≤ a))) = true then 1 else 0) ?_ ?_
          · rintro p30 rfl
            rw [← st_R] at hstp
            refine wpjP (fun y : cS => sx qYr v1 y ∧ QR m M (ix (m.1 188 o)) y (mtI (isL m (40 * M + a) && (!isN m (40 * M + a) || decide (lbT m (40 * M + a) ≤ a))) (shw m o M i k K) (lbT m (40 * M + a)) (lbS m o (40 * M + a) (bhS m o K (40 * M + a) s)) (some t) Xt)) ?_ ?_
            · have hW1 : WE m o M (mtI (isL m (40 * M + a) && (!isN m (40 * M + a) || decide (lbT m (40 * M + a) ≤ a))) (shw m o M i k K) (lbT m (40 * M + a)) (lbS m o (40 * M + a) (bhS m o K (40 * M + a) s)) (some t) Xt) := WE_mtI hWt (fun z => hSL (by rw [Bool.and_eq_true] at z; exact z.1)) (fun f hf => by cases hf; exact hjt)
              have hk1 := mtI_keep (p := isL m (40 * M + a) && (!isN m (40 * M + a) || decide (lbT m (40 * M + a) ≤ a))) (sh := shw m o M i k K) (a := lbT m (40 * M + a)) (s := lbS m o (40 * M + a) (bhS m o K (40 * M + a) s)) (fr := some t) (X := Xt)
              generalize (mtI (isL m (40 * M + a) && (!isN m (40 * M + a) || decide (lbT m (40 * M + a) ≤ a))) (shw m o M i k K) (lbT m (40 * M + a)) (lbS m o (40 * M + a) (bhS m o K (40 * M + a) s)) (some t) Xt) = X1 at *
              rintro y ⟨c1, c2⟩
              have hsty := QR_st c2 hW1.1 hW1.2.2.1
              refine wpjP (fun y : cS => sx qYr v1 y ∧ QR m M (ix (m.1 188 o)) y (mtI (isN m (40 * M + a)) (shw m o M i k K) (a + 1) (bhS m o K (40 * M + a) s) (some t) X1)) ?_ ?_
              · have hW2 : WE m o M (mtI (isN m (40 * M + a)) (shw m o M i k K) (a + 1) (bhS m o K (40 * M + a) s) (some t) X1) := WE_mtI hW1 hSN (fun f hf => by cases hf; omega)
                have hk2 := mtI_keep (p := isN m (40 * M + a)) (sh := shw m o M i k K) (a := a + 1) (s := bhS m o K (40 * M + a) s) (fr := some t) (X := X1)
                generalize (mtI (isN m (40 * M + a)) (shw m o M i k K) (a + 1) (bhS m o K (40 * M + a) s) (some t) X1) = X2 at *
                rintro z ⟨b1, b2⟩
                have hstz := QR_st b2 hW2.1 hW2.2.2.1
                refine wpt (by simp (disch := first | omega | decide) only [↓neg1, nlit, rI, rL, rI2, rL1, nI_add, pk_mul, sbT, dvT, nmd, ixT, ↓ibT, ltT, ltF, leT, leF, eqT, eqF, nM_ltT, nM_ltF, nM_leT, nM_leF, nM_eqF, nM_eqF', nbT0, nbT1, oI_s, oI_n, natF, natT, nltT, nltF, nleT, nleF, ↓reduceIte, lgc, not_true_eq_false, not_false_eq_true, or_false, false_or, or_true, true_or, and_true, true_and, and_false, false_and, ne_eq, eq_self, or_self, and_self]) ?_
                rw [h216 z b1]
                refine wpjP (fun y : cS => sx qYr v1 y ∧ QR m M (ix (m.1 188 o)) y (XQ m o M i k K (t + 1))) (fun x hx => wpl ⟨nI_1 _, fun j hj => ?_, hx.1, hx.2⟩) ?_
                · by_cases ej : j = t
                  · subst ej
                    rw [hXt]
                    exact ⟨hjt, ef, eu⟩
                  · exact g2 j (by omega)
                · intro k' hk'
                  have hk' : ∀ y : cS, sx qYr v1 y ∧ QR m M (ix (m.1 188 o)) y (mtI (isL m (40 * M + a) && !(!isN m (40 * M + a) || decide (lbT m (40 * M + a) ≤ a))) (shw m o M i k K) (lbT m (40 * M + a)) (lbS m o (40 * M + a) (bhS m o K (40 * M + a) s)) (some t) X2) → wp (k' y) _ := fun y hy => hk' y ⟨hy.1, by rw [hstp]; exact hy.2⟩
                  by_cases hL : isL m (40 * M + a) = true
                  · have hl1 := hlL hL
                    have hl2 := hlt hL
                    refine wpf (by rw [hl1]; simp (disch := first | omega | decide) only [↓neg1, nlit, rI, rL, rI2, rL1, nI_add, pk_mul, sbT, dvT, nmd, ixT, ↓ibT, ltT, ltF, leT, leF, eqT, eqF, nM_ltT, nM_ltF, nM_leT, nM_leF, nM_eqF, nM_eqF', nbT0, nbT1, oI_s, oI_n, natF, natT, nltT, nltF, nleT, nleF, ↓reduceIte, lgc, not_true_eq_false, not_false_eq_true, or_false, false_or, or_true, true_or, and_true, true_and, and_false, false_and, ne_eq, eq_self, or_self, and_self]) ?_
                    by_cases hfi : (!isN m (40 * M + a) || decide (lbT m (40 * M + a) ≤ a)) = true
                    · rw [b01t (show (isL m (40 * M + a) && (!isN m (40 * M + a) || decide (lbT m (40 * M + a) ≤ a))) = true by rw [hL, hfi]; rfl)]
                      refine wpf (by decide) (hk' z ⟨b1, ?_⟩)
                      rw [hL, hfi]
                      exact b2
                    · have hfi := Bool.not_eq_true _ ▸ hfi
                      rw [b01f (show ¬ (isL m (40 * M + a) && (!isN m (40 * M + a) || decide (lbT m (40 * M + a) ≤ a))) = true by rw [hL, hfi]; decide)]
                      refine wpt rfl ?_
                      have hmt : mtI (isL m (40 * M + a) && !(!isN m (40 * M + a) || decide (lbT m (40 * M + a) ≤ a))) (shw m o M i k K) (lbT m (40 * M + a)) (lbS m o (40 * M + a) (bhS m o K (40 * M + a) s)) (some t) X2 = meet (shw m o M i k K) (lbT m (40 * M + a)) (lbS m o (40 * M + a) (bhS m o K (40 * M + a) s)) (some t) X2 := mtI_t (by rw [hL, hfi]; rfl)
                      rw [hmt] at hk'
                      by_cases q1 : X2.2.2.1 = none
                      · refine wpf (fun z => hstz.1.mp z q1) ?_
                        by_cases q2 : X2.2.2.2 = false
                        · refine wpt (hstz.2.mpr q2) ?_
                          exact wpc (call true z X2 b1 b2 hW2 (by omega) ((hk2.2 t (by omega)).trans (hk1.2 t hjt)) ⟨q1, q2⟩ hL) (fun d hd => hk' d hd)
                        · refine wpf (fun z => q2 (hstz.2.mp z)) (hk' z ⟨b1, ?_⟩)
                          rw [meet_off (fun z => q2 z.2)]
                          exact b2
                      · refine wpt (hstz.1.mpr q1) (hk' z ⟨b1, ?_⟩)
                        rw [meet_off (fun z => q1 z.1)]
                        exact b2
                  · refine wpt (by rw [hlN hL]; decide) (hk' z ⟨b1, ?_⟩)
                    rw [mtI_f (by rw [Bool.and_eq_true]; exact fun z => hL z.1)]
                    exact b2
              · intro k' hk'
                by_cases hNx : isN m (40 * M + a) = true
                · rw [b01t hNx]
                  refine wpf (by decide) ?_
                  have hmt : mtI (isN m (40 * M + a)) (shw m o M i k K) (a + 1) (bhS m o K (40 * M + a) s) (some t) X1 = meet (shw m o M i k K) (a + 1) (bhS m o K (40 * M + a) s) (some t) X1 := if_pos hNx
                  rw [hmt] at hk'
                  by_cases q1 : X1.2.2.1 = none
                  · refine wpf (fun z => hsty.1.mp z q1) ?_
                    by_cases q2 : X1.2.2.2 = false
                    · refine wpt (hsty.2.mpr q2) ?_
                      exact wpc (call false y X1 c1 c2 hW1 (by omega) (hk1.2 t hjt) ⟨q1, q2⟩ hNx) (fun d hd => hk' d hd)
                    · refine wpf (fun z => q2 (hsty.2.mp z)) (hk' y ⟨c1, ?_⟩)
                      rw [meet_off (fun z => q2 z.2)]
                      exact c2
                  · refine wpt (hsty.1.mpr q1) (hk' y ⟨c1, ?_⟩)
                    rw [meet_off (fun z => q1 z.1)]
                    exact c2
                · rw [b01f hNx]
                  refine wpt rfl (hk' y ⟨c1, ?_⟩)
                  rw [mtI_f hNx]
                  exact c2
            · intro k' hk'
              by_cases hfi : (isL m (40 * M + a) && (!isN m (40 * M + a) || decide (lbT m (40 * M + a) ≤ a))) = true
              · rw [b01t hfi]
                refine wpf (by decide) ?_
                refine wpc (call true w Xt g3 g4 hWt hjt rfl ⟨ef, eu⟩ (by rw [Bool.and_eq_true] at hfi; exact hfi.1)) (fun d hd => hk' d ?_)
                rw [mtI_t hfi]
                exact hd
              · rw [b01f hfi]
                refine wpt rfl (hk' w ⟨g3, ?_⟩)
                rw [mtI_f hfi]
                exact g4
          · intro k' hk'
            refine wpj ?_
            by_cases hL : isL m (40 * M + a) = true
            · have hl1 := hlL hL
              have hl2 := hlt hL
              rw [hl1]
              refine wpf (by simp (disch := first | omega | decide) only [↓neg1, nlit, rI, rL, rI2, rL1, nI_add, pk_mul, sbT, dvT, nmd, ixT, ↓ibT, ltT, ltF, leT, leF, eqT, eqF, nM_ltT, nM_ltF, nM_leT, nM_leF, nM_eqF, nM_eqF', nbT0, nbT1, oI_s, oI_n, natF, natT, nltT, nltF, nleT, nleF, ↓reduceIte, lgc, not_true_eq_false, not_false_eq_true, or_false, false_or, or_true, true_or, and_true, true_and, and_false, false_and, ne_eq, eq_self, or_self, and_self]) (wpj ?_)
              by_cases hNx : isN m (40 * M + a) = true
              · rw [b01t hNx]
                refine wpf (by decide) (wpt (by simp (disch := first | omega | decide) only [↓neg1, nlit, rI, rL, rI2, rL1, nI_add, pk_mul, sbT, dvT, nmd, ixT, ↓ibT, ltT, ltF, leT, leF, eqT, eqF, nM_ltT, nM_ltF, nM_leT, nM_leF, nM_eqF, nM_eqF', nbT0, nbT1, oI_s, oI_n, natF, natT, nltT, nltF, nleT, nleF, ↓reduceIte, lgc, not_true_eq_false, not_false_eq_true, or_false, false_or, or_true, true_or, and_true, true_and, and_false, false_and, ne_eq, eq_self, or_self, and_self]) (wpt (by simp (disch := first | omega | decide) only [↓neg1, nlit, rI, rL, rI2, rL1, nI_add, pk_mul, sbT, dvT, nmd, ixT, ↓ibT, ltT, ltF, leT, leF, eqT, eqF, nM_ltT, nM_ltF, nM_leT, nM_leF, nM_eqF, nM_eqF', nbT0, nbT1, oI_s, oI_n, natF, natT, nltT, nltF, nleT, nleF, ↓reduceIte, lgc, not_true_eq_false, not_false_eq_true, or_false, false_or, or_true, true_or, and_true, true_and, and_false, false_and, ne_eq, eq_self, or_self, and_self]) ?_))
                rw [nI_1]
                by_cases hfi : lbT m (40 * M + a) ≤ a
                · refine wpf (by simp (disch := first | omega | decide) only [↓neg1, nlit, rI, rL, rI2, rL1, nI_add, pk_mul, sbT, dvT, nmd, ixT, ↓ibT, ltT, ltF, leT, leF, eqT, eqF, nM_ltT, nM_ltF, nM_leT, nM_leF, nM_eqF, nM_eqF', nbT0, nbT1, oI_s, oI_n, natF, natT, nltT, nltF, nleT, nleF, ↓reduceIte, lgc, not_true_eq_false, not_false_eq_true, or_false, false_or, or_true, true_or, and_true, true_and, and_false, false_and, ne_eq, eq_self, or_self, and_self]) (hk' _ ?_)
                  rw [if_pos (by rw [hL, hNx, decide_eq_true hfi]; rfl)]
                · refine wpt (by simp (disch := first | omega | decide) only [↓neg1, nlit, rI, rL, rI2, rL1, nI_add, pk_mul, sbT, dvT, nmd, ixT, ↓ibT, ltT, ltF, leT, leF, eqT, eqF, nM_ltT, nM_ltF, nM_leT, nM_leF, nM_eqF, nM_eqF', nbT0, nbT1, oI_s, oI_n, natF, natT, nltT, nltF, nleT, nleF, ↓reduceIte, lgc, not_true_eq_false, not_false_eq_true, or_false, false_or, or_true, true_or, and_true, true_and, and_false, false_and, ne_eq, eq_self, or_self, and_self]) (hk' _ ?_)
                  rw [if_neg (by rw [hL, hNx, decide_eq_false hfi]; decide)]
              · rw [b01f hNx]
                refine wpt rfl (hk' _ ?_)
                rw [if_pos (by rw [hL, show isN m (40 * M + a) = false by simpa using hNx]; rfl)]
            · rw [hlN hL]
              refine wpt (by decide) (hk' _ ?_)
              rw [if_neg (by rw [Bool.and_eq_true]; exact fun z => hL z.1)]
        · intro k' hk'
          refine wpj ?_
          by_cases e21 : opn m (40 * M + a) = 21
          · refine wpt (by rw [e21]; rfl) (hk' _ ?_)
            rw [if_neg (fun z => (of_decide_eq_true z).1 e21)]
          · refine wpf (fun z => e21 ((nI_eq (by omega) (by omega)).mp z)) (wpt (by simp (disch := first | omega | decide) only [↓neg1, nlit, rI, rL, rI2, rL1, nI_add, pk_mul, sbT, dvT, nmd, ixT, ↓ibT, ltT, ltF, leT, leF, eqT, eqF, nM_ltT, nM_ltF, nM_leT, nM_leF, nM_eqF, nM_eqF', nbT0, nbT1, oI_s, oI_n, natF, natT, nltT, nltF, nleT, nleF, ↓reduceIte, lgc, not_true_eq_false, not_false_eq_true, or_false, false_or, or_true, true_or, and_true, true_and, and_false, false_and, ne_eq, eq_self, or_self, and_self]) ?_)
            by_cases e27 : opn m (40 * M + a) = 27
            · refine wpt (by rw [e27]; rfl) (hk' _ ?_)
              rw [if_neg (fun z => (of_decide_eq_true z).2 e27)]
            · refine wpf (fun z => e27 ((nI_eq (by omega) (by omega)).mp z)) (hk' _ ?_)
              rw [if_pos (show isN m (40 * M + a) = true from decide_eq_true ⟨e21, e27⟩)]
      · refine wpf (fun z => eu (hst.2.mp z)) ⟨t, g2, fun z => ?_, g3, by rw [hXt]; exact g4⟩
        rw [hXt] at z
        exact eu z.2.2
    · refine wpt (hst.1.mpr ef) ⟨t, g2, fun z => ?_, g3, by rw [hXt]; exact g4⟩
      rw [hXt] at z
      exact ef z.2.1
  · rintro ⟨t0, w⟩ ⟨g1, g2, g3, g4⟩
    dsimp only at g1 g2 g3 g4
    subst g1
    have hWt : WE m o M (XQ m o M i k K 400) := WE_it hX hW0 400 g2
    have := hWt.1
    dsimp only
    rw [g4.1]
    refine wpt (by simp (disch := first | omega | decide) only [↓neg1, nlit, rI, rL, rI2, rL1, nI_add, pk_mul, sbT, dvT, nmd, ixT, ↓ibT, ltT, ltF, leT, leF, eqT, eqF, nM_ltT, nM_ltF, nM_leT, nM_leF, nM_eqF, nM_eqF', nbT0, nbT1, oI_s, oI_n, natF, natT, nltT, nltF, nleT, nleF, ↓reduceIte, lgc, not_true_eq_false, not_false_eq_true, or_false, false_or, or_true, true_or, and_true, true_and, and_false, false_and, ne_eq, eq_self, or_self, and_self]) ⟨400, g2, fun z => ?_, g3, g4⟩
    have := z.1
    omega
  · rintro d ⟨kk, k1, k2, k3, k4⟩
    have hWk : WE m o M (XQ m o M i k K kk) := WE_it hX hW0 kk k1
    have hst := QR_st k4 hWk.1 hWk.2.2.1
    have sd : sx qYR v d := sx_trans (sx_36Y s1) (sx_YrY k3)
    have hMd : MKS m K d := (RB_sx hB1 k3).2.1
    have hTd : TLD m o d := fun p s hp hs => (k3.1 237 p (decide_eq_false (by omega))).trans (tl1 p s hp hs)
    have d102 : d.1 174 102 = v.1 174 102 := (k3.1 174 102 rfl).trans (s1.1 174 102 rfl)
    have d249 : d.1 249 = v.1 249 := funext fun j => (k3.1 249 j rfl).trans (s1.1 249 j rfl)
    generalize hXk : XQ m o M i k K kk = Xk at *
    cases hf : Xk.2.2.1 with
    | none =>
      refine wpf (fun z => hst.1.mp z hf) (wpj ?_)
      by_cases eu : Xk.2.2.2 = false
      · refine wpt (hst.2.mpr eu) ⟨kk, k1, by rw [hXk]; exact k2, sd, hMd, hTd, ?_⟩
        rw [hXk]
        exact Or.inl ⟨hf, by rw [eu]; rfl, d102, d249⟩
      · refine wpf (fun z => eu (hst.2.mp z)) ⟨kk, k1, by rw [hXk]; exact k2, sd, hMd, hTd, ?_⟩
        rw [hXk]
        exact Or.inl ⟨hf, by rw [if_pos (by simpa using eu)], d102, d249⟩
    | some p =>
      have hp := hWk.2.2.1 p hf
      have hX4 := hWk.1
      have z105 : d.1 174 105 = nI p := by
        rw [k4.2.1, hf]
        rfl
      obtain ⟨N, n1, n2, n3, n4⟩ := upF_ex hp hWk.1 (fun j hj => (hWk.2.2.2 j hj).2)
      refine wpt (by rw [z105]; exact nI_pos' (by omega)) ?_
      rw [z105]
      refine wpl ?_
      refine wpc (K' := fun r : Int32 => r = nI N) (whl_cnt (fun t (st : Int32 × Int32) => st.1 = nI t ∧ st.2 = oI (upF Xk.2.1 p t)) N ?_ ?_ (by omega) ⟨rfl, rfl⟩) ?_
      · rintro t ⟨t0, q0⟩ ht ⟨g1, g2⟩
        dsimp only at g1 g2
        obtain ⟨q, u1, u2⟩ := n4 t ht
        rw [u1] at g2
        have g2 : q0 = nI q := g2
        subst g1 g2
        dsimp only
        refine wpf (by simp (disch := first | omega | decide) only [↓neg1, nlit, rI, rL, rI2, rL1, nI_add, pk_mul, sbT, dvT, nmd, ixT, ↓ibT, ltT, ltF, leT, leF, eqT, eqF, nM_ltT, nM_ltF, nM_leT, nM_leF, nM_eqF, nM_eqF', nbT0, nbT1, oI_s, oI_n, natF, natT, nltT, nltF, nleT, nleF, ↓reduceIte, lgc, not_true_eq_false, not_false_eq_true, or_false, false_or, or_true, true_or, and_true, true_and, and_false, false_and, ne_eq, eq_self, or_self, and_self]) (wpl (wpt (by simp (disch := first | omega | decide) only [↓neg1, nlit, rI, rL, rI2, rL1, nI_add, pk_mul, sbT, dvT, nmd, ixT, ↓ibT, ltT, ltF, leT, leF, eqT, eqF, nM_ltT, nM_ltF, nM_leT, nM_leF, nM_eqF, nM_eqF', nbT0, nbT1, oI_s, oI_n, natF, natT, nltT, nltF, nleT, nleF, ↓reduceIte, lgc, not_true_eq_false, not_false_eq_true, or_false, false_or, or_true, true_or, and_true, true_and, and_false, false_and, ne_eq, eq_self, or_self, and_self]) ?_))
        rw [ix_n (by omega), (k4.2.2.2 q u2).2.1]
        refine wpl ⟨nI_1 _, ?_⟩
        dsimp only
        show _ = oI ((upF Xk.2.1 p t).bind (fun q => (Xk.2.1 q).2.2))
        rw [u1]
        rfl
      · rintro ⟨t0, q0⟩ ⟨g1, g2⟩
        dsimp only at g1 g2
        rw [n3] at g2
        have g2 : q0 = nM := g2
        subst g1 g2
        dsimp only
        exact wpt (by decide) rfl
      · rintro r rfl
        refine wpl ?_
        rw [show (pI d 174 102 (nI N)).1 174 105 = nI p by rw [rI, if_neg (by omega)]; exact z105]
        refine wpl ?_
        have s0 : sx (fun a i => decide ((a = 174 ∧ i = 102) ∨ a = 249)) d (pI d 174 102 (nI N)) := sx_pI sx_rfl rfl
        refine wpc (K' := fun x : cS => sx (fun a i => decide ((a = 174 ∧ i = 102) ∨ a = 249)) d x ∧ x.1 174 102 = nI N ∧ ∀ k q, k < N → upF Xk.2.1 p k = some q → x.1 249 (N - 1 - k) = nI (Xk.2.1 q).1) (whl_cnt (fun t (st : Int32 × Int32 × cS) => st.1 = nI (N - t) ∧ st.2.1 = oI (upF Xk.2.1 p t) ∧ sx (fun a i => decide ((a = 174 ∧ i = 102) ∨ a = 249)) d st.2.2 ∧ st.2.2.1 174 102 = nI N ∧ ∀ k q, k < t → upF Xk.2.1 p k = some q → st.2.2.1 249 (N - 1 - k) = nI (Xk.2.1 q).1) N ?_ ?_ (by omega) ⟨rfl, rfl, s0, ?_, fun k q hk => by omega⟩) ?_
        · rintro t ⟨t0, q0, w⟩ ht ⟨g1, g2, g3, g4, g5⟩
          dsimp only at g1 g2 g3 g4 g5
          obtain ⟨q, u1, u2⟩ := n4 t ht
          rw [u1] at g2
          have g2 : q0 = nI q := g2
          subst g1 g2
          dsimp only
          obtain ⟨f1, f2, -⟩ := k4.2.2.2 q u2
          refine wpf (by simp (disch := first | omega | decide) only [↓neg1, nlit, rI, rL, rI2, rL1, nI_add, pk_mul, sbT, dvT, nmd, ixT, ↓ibT, ltT, ltF, leT, leF, eqT, eqF, nM_ltT, nM_ltF, nM_leT, nM_leF, nM_eqF, nM_eqF', nbT0, nbT1, oI_s, oI_n, natF, natT, nltT, nltF, nleT, nleF, ↓reduceIte, lgc, not_true_eq_false, not_false_eq_true, or_false, false_or, or_true, true_or, and_true, true_and, and_false, false_and, ne_eq, eq_self, or_self, and_self]) ?_
          rw [show nI (N - t) + (-1) = nI (N - 1 - t) by rw [nI_m1 (by omega)]; congr 1; omega]
          refine wpl (wpt (by simp (disch := first | omega | decide) only [↓neg1, nlit, rI, rL, rI2, rL1, nI_add, pk_mul, sbT, dvT, nmd, ixT, ↓ibT, ltT, ltF, leT, leF, eqT, eqF, nM_ltT, nM_ltF, nM_leT, nM_leF, nM_eqF, nM_eqF', nbT0, nbT1, oI_s, oI_n, natF, natT, nltT, nltF, nleT, nleF, ↓reduceIte, lgc, not_true_eq_false, not_false_eq_true, or_false, false_or, or_true, true_or, and_true, true_and, and_false, false_and, ne_eq, eq_self, or_self, and_self]) (wpt (by simp (disch := first | omega | decide) only [↓neg1, nlit, rI, rL, rI2, rL1, nI_add, pk_mul, sbT, dvT, nmd, ixT, ↓ibT, ltT, ltF, leT, leF, eqT, eqF, nM_ltT, nM_ltF, nM_leT, nM_leF, nM_eqF, nM_eqF', nbT0, nbT1, oI_s, oI_n, natF, natT, nltT, nltF, nleT, nleF, ↓reduceIte, lgc, not_true_eq_false, not_false_eq_true, or_false, false_or, or_true, true_or, and_true, true_and, and_false, false_and, ne_eq, eq_self, or_self, and_self]) ?_))
          rw [ix_n (by omega), ix_n (by omega), g3.1 246 q rfl, f1]
          have hs := sx_pI (v := nI (Xk.2.1 q).1) g3 (show (fun a i => decide ((a = 174 ∧ i = 102) ∨ a = 249)) 249 (N - 1 - t) = true from decide_eq_true (by omega))
          refine wpl (wpt (by simp (disch := first | omega | decide) only [↓neg1, nlit, rI, rL, rI2, rL1, nI_add, pk_mul, sbT, dvT, nmd, ixT, ↓ibT, ltT, ltF, leT, leF, eqT, eqF, nM_ltT, nM_ltF, nM_leT, nM_leF, nM_eqF, nM_eqF', nbT0, nbT1, oI_s, oI_n, natF, natT, nltT, nltF, nleT, nleF, ↓reduceIte, lgc, not_true_eq_false, not_false_eq_true, or_false, false_or, or_true, true_or, and_true, true_and, and_false, false_and, ne_eq, eq_self, or_self, and_self]) ?_)
          rw [hs.1 247 q rfl, f2]
          refine wpl ⟨?_, ?_, hs, ?_, fun k q' hk hq => ?_⟩
          · dsimp only
            congr 1
            omega
          · dsimp only
            show _ = oI ((upF Xk.2.1 p t).bind (fun q => (Xk.2.1 q).2.2))
            rw [u1]
            rfl
          · dsimp only
            rw [rI, if_neg (by omega)]
            exact g4
          · dsimp only
            rw [rI]
            by_cases e : k = t
            · subst e
              rw [if_pos ⟨rfl, rfl⟩]
              rw [u1] at hq
              cases hq
              rfl
            · rw [if_neg (by omega)]
              exact g5 k q' (by omega) hq
        · rintro ⟨t0, q0, w⟩ ⟨g1, g2, g3, g4, g5⟩
          dsimp only at g1 g2 g3 g4 g5
          rw [n3] at g2
          have g2 : q0 = nM := g2
          subst g1 g2
          dsimp only
          exact wpt (by decide) ⟨g3, g4, g5⟩
        · rw [rI, if_pos ⟨rfl, rfl⟩]
        · rintro x ⟨x1, x2, x3⟩
          refine ⟨kk, k1, by rw [hXk]; exact k2, sx_trans sd (sx_wide x1 (fun a i z => by
            have := of_decide_eq_false z
            exact decide_eq_false (by omega))), fun p s hp hs => (x1.1 236 p (decide_eq_false (by omega))).trans (hMd p s hp hs), fun p s hp hs => (x1.1 237 p (decide_eq_false (by omega))).trans (hTd p s hp hs), ?_⟩
          rw [hXk]
          exact Or.inr ⟨p, N, hf, n1, n2, n3, n4, x2, x2, x3⟩
