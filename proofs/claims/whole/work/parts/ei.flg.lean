/-! READING a FIELD: whole -/
section FLG
variable {n i j j0 N k f m U oc kc mc cc : Nat} {c d u w v c0 u0 c' u' : cS} {K P : Nat → Nat} {V : Nat → Int64} {nm : Int64} {x : Int32}
theorem ENB_cg (h : ENB u oc kc) (h1 : ∀ l, u'.1 190 l = u.1 190 l) (h2 : ∀ l, u'.1 182 l = u.1 182 l) : ENB u' oc kc := by
  obtain ⟨a, b, c, d⟩ := h
  refine ⟨a, b, fun t ht => ?_, fun o ho => ?_⟩
  · unfold kn
    rw [h1]
    exact c t ht
  · unfold eln
    rw [h2]
    exact d o ho
def FST (w v : cS) (oc kc k f U m : Nat) : Prop := w.1 145 8 = nI k ∧ w.1 14 k = nI f ∧ v.1 202 k = nI f ∧ ENB v oc kc ∧ w.2 15 (k * 8 + f) = v.2 204 (8 * k + f) ∧ RWR w v oc kc (100 * k + 1 + f) U m 1 ∧ w.1 133 11 = nI (U + m) ∧ w.1 133 12 = nM ∧ w.1 133 13 = nI (U + m)
theorem FST_cg (h : FST w v oc kc k f U m) (hc : ∀ A l, ¬ (A = 145 ∧ l = 7) → c'.1 A l = w.1 A l ∧ c'.2 A l = w.2 A l) (hu : ∀ A l, A ≠ 174 → A ≠ 205 → u'.1 A l = v.1 A l ∧ u'.2 A l = v.2 A l) : FST c' u' oc kc k f U m := by
  obtain ⟨h1, h2, h3, h4, h5, h6, h7, h8, h9⟩ := h
  refine ⟨by rw [(hc _ _ (by omega)).1]; exact h1, by rw [(hc _ _ (by omega)).1]; exact h2, by rw [(hu _ _ (by omega) (by omega)).1]; exact h3, ENB_cg h4 (fun l => (hu _ _ (by omega) (by omega)).1) (fun l => (hu _ _ (by omega) (by omega)).1), by rw [(hc _ _ (by omega)).2, (hu _ _ (by omega) (by omega)).2]; exact h5, ?_, by rw [(hc _ _ (by omega)).1]; exact h7, by rw [(hc _ _ (by omega)).1]; exact h8, by rw [(hc _ _ (by omega)).1]; exact h9⟩
  exact RWR_k h6 h4 (fun A l z => hc A l (by unfold rcR at z; omega)) (fun A l z => hu A l (by unfold ruR at z; omega) (by unfold ruR at z; omega)) (fun A l z1 z2 z => hu A l (by omega) (by omega))
theorem fld3 (hk : k < 12) (hf : f < 8) (hP : PSI K P V N w v j) (hj : j0 + 2 * m ≤ j) (hS : FST w v oc kc k f U m) (h0 : v.1 205 (8 * k + f) = nI 0) (sc : sx (qFdc k f U) c0 w) (su : sx (qFu k f) u0 v) : jw (fC3 n (nI f) w) (fR3 n (nI k) (nI f) v) (FDP K P V N c0 u0 oc kc k f U j0) := by
  have e8 : (8 : Int32) * nI k + nI f = nI (8 * k + f) := by rw [show (8 : Int32) = nI 8 from rfl, pk_mul, nI_add]
  have hi8 : ib (nI (8 * k + f)) 96 := ib_n (by omega) (by decide)
  have ei8 : ix (nI (8 * k + f)) = 8 * k + f := ix_n (by omega)
  obtain ⟨B, j1, w1, v1, x1, x2, x3, x4, x5, x6, -, -, -⟩ := opt_s (n := n) (b := 61) hP (by decide) (by decide)
  have c1 : ∀ A l, ¬ (A = 145 ∧ l = 7) → w1.1 A l = w.1 A l ∧ w1.2 A l = w.2 A l := fun A l z => ⟨x5.1 _ _ (decide_eq_false z), x5.2 _ _ (decide_eq_false z)⟩
  have u1 : ∀ A l, A ≠ 174 → v1.1 A l = v.1 A l ∧ v1.2 A l = v.2 A l := fun A l z => ⟨x6.1 _ _ (decide_eq_false (by omega)), x6.2 _ _ (decide_eq_false (by omega))⟩
  have sc1 : sx (qFdc k f U) c0 w1 := sx_trans sc (sx_wide x5 (fun A l z => by
    have := of_decide_eq_false z
    exact decide_eq_false (by omega)))
  have su1 : sx (qFu k f) u0 v1 := sx_trans su (sx_wide x6 (fun A l z => by
    have := of_decide_eq_false z
    exact decide_eq_false (by omega)))
  have h8 : w.1 145 8 = nI k := hS.1
  cases B with
  | false =>
    have hS1 := FST_cg (c' := w1) (u' := v1) hS c1 (fun A l z _ => u1 A l z)
    obtain ⟨a1, a2, a3, a4, a5, a6, a7, a8, a9⟩ := hS1
    refine jw_up (fld5 (n := n) (x := 0) (m := m) (j0 := j0) hk hf x4 (by omega) a1 a2 a3 a4 a5 (by rw [(u1 _ _ (by omega)).1]; exact h0) a6 a7 a8 a9 sc1 su1) (fun Q h => ?_) (fun Q h => ?_)
    · unfold fC3
      rw [h8]
      exact wpe x1 (wpj (wpt rfl h))
    · unfold fR3
      exact wpe x2 (wpj (wpt rfl h))
  | true =>
    obtain ⟨r, q, y1, y2, y3⟩ := jw_ex (val_go (n := n) (t := false) (x := 1) (y := 0) x4 rfl rfl)
    rcases y3 with ⟨vv, j2, d, rfl, z1, z2, z3, z4, z5, z6⟩ | ⟨z, rfl, hf'⟩
    · obtain ⟨q1, hq1⟩ : ∃ q1, q1 = pI q 205 (8 * k + f) ((q.2 174 68 : Int64).toInt32) := ⟨_, rfl⟩
      have hS1 := FST_cg (c' := d) (u' := q1) hS (fun A l z => by
        rw [z5.1 _ _ (decide_eq_false z), z5.2 _ _ (decide_eq_false z)]
        exact c1 A l z) (fun A l z1 z2 => by
        rw [hq1, rI, if_neg (by omega)]
        show q.1 A l = _ ∧ q.2 A l = _
        rw [z6.1 _ _ (decide_eq_false (by omega)), z6.2 _ _ (decide_eq_false (by omega))]
        exact u1 A l z1)
      obtain ⟨a1, a2, a3, a4, a5, a6, a7, a8, a9⟩ := hS1
      have hPq : PSI K P V N d q1 j2 := by
        rw [hq1]
        exact PSI_sx z2 (show sx (fun _ _ => false) _ _ from sx_rfl) (sx_pI (r := fun A _ => decide (A = 205)) sx_rfl rfl) (fun _ _ _ => rfl) (fun A l z => decide_eq_false (by omega))
      refine jw_up (fld5 (n := n) (x := vv.toInt32) (m := m) (j0 := j0) hk hf hPq (by omega) a1 a2 a3 a4 a5 (by rw [hq1, rI, if_pos ⟨rfl, rfl⟩, z3]) a6 a7 a8 a9 (sx_trans sc1 (sx_wide z5 (fun A l z => ?_))) ?_) (fun Q h => ?_) (fun Q h => ?_)
      · have := of_decide_eq_false z
        exact decide_eq_false (by omega)
      · rw [hq1]
        exact sx_pI (sx_trans su1 (sx_wide z6 (fun A l z => by
          have := of_decide_eq_false z
          exact decide_eq_false (by omega)))) (decide_eq_true (by omega))
      · unfold fC3
        rw [h8]
        exact wpe x1 (wpj (wpf (show ¬ bI true = 0 by decide) (wpe y1 (wpSl h))))
      · unfold fR3
        refine wpe x2 (wpj (wpf (show ¬ bI true = 0 by decide) (wpe y2 ?_)))
        rw [e8, ei8]
        refine wpt hi8 (wpl ?_)
        rw [← hq1]
        exact h
    · refine wp_of (a := .inr z) ?_ ?_
      · unfold fC3
        exact eq_wp (wpe x1 (wpj (wpf (show ¬ bI true = 0 by decide) (wpe y1 (wpSr rfl)))))
      · unfold fR3
        refine wpe x2 (wpj (wpf (show ¬ bI true = 0 by decide) (wpe y2 ?_)))
        rw [e8, ei8]
        refine wpt hi8 (wpl (fR5_w hk ?_ (fun q' hq' => Or.inr ⟨z, rfl, FLR_202 (k := k) (FLR_sx (r := fun A _ => decide (A = 205)) (FLR_tr hf' (qFc_c sc1) (qFu_u su1)) (sx_pI sx_rfl rfl) (fun A l z => ?_) (fun l z1 z2 => rfl)) hq'⟩)))
        · rw [rI, if_neg (by omega)]
          exact hf'.2.2.1
        · have := of_decide_eq_true z
          exact decide_eq_true (by omega)
theorem fld2 (hn : 10000 ≤ n) (hk : k < 12) (hf : f < 8) (hP : PSI K P V N w v j) (hj : j0 ≤ j) (hU : 2 * U ≤ j) (h8 : w.1 145 8 = nI k) (h14 : w.1 14 k = nI f) (h202 : v.1 202 k = nI f) (hV : ENV w v oc kc mc cc) (h11 : w.1 133 11 = nI U) (h12 : w.1 133 12 = nM) (h13 : w.1 133 13 = nI U) (h144 : w.1 144 (100 * k + 1 + f) = nI 0) (sc : sx (qFdc k f U) c0 w) (su : sx (qFu k f) u0 v) : jw (fC2 n (nI f) (nm, w)) (fR2 n (nI k) nm v) (FDP K P V N c0 u0 oc kc k f U j0) := by
  have e8 : (8 : Int32) * nI k + nI f = nI (8 * k + f) := by rw [show (8 : Int32) = nI 8 from rfl, pk_mul, nI_add]
  have e8' : nI k * 8 + nI f = nI (k * 8 + f) := by rw [show (8 : Int32) = nI 8 from rfl, pk_mul, nI_add]
  have e100 : (100 : Int32) * nI k + 1 + nI f = nI (100 * k + 1 + f) := by rw [show (100 : Int32) = nI 100 from rfl, show (1 : Int32) = nI 1 from rfl, pk_mul, nI_add, nI_add]
  have hi8 : ib (nI (8 * k + f)) 96 := ib_n (by omega) (by decide)
  have ei8 : ix (nI (8 * k + f)) = 8 * k + f := ix_n (by omega)
  have hi8' : ib (nI (k * 8 + f)) 96 := ib_n (by omega) (by decide)
  have ei8' : ix (nI (k * 8 + f)) = k * 8 + f := ix_n (by omega)
  have hkc := hV.1.2.1
  obtain ⟨w1, hw1⟩ : ∃ w1, w1 = pL w 15 (k * 8 + f) nm := ⟨_, rfl⟩
  obtain ⟨v1, hv1⟩ : ∃ v1, v1 = pI (pL v 204 (8 * k + f) nm) 205 (8 * k + f) 0 := ⟨_, rfl⟩
  have s1 : sx (fun A l => decide (A = 15 ∧ l = k * 8 + f)) w w1 := by
    rw [hw1]
    exact sx_pL sx_rfl (decide_eq_true ⟨rfl, rfl⟩)
  have t1 : sx (fun A l => decide ((A = 204 ∨ A = 205) ∧ l = 8 * k + f)) v v1 := by
    rw [hv1]
    exact sx_pI (sx_pL sx_rfl (decide_eq_true (by omega))) (decide_eq_true (by omega))
  have cf : ∀ A l, A ≠ 15 → w1.1 A l = w.1 A l ∧ w1.2 A l = w.2 A l := fun A l z => ⟨s1.1 _ _ (decide_eq_false (by omega)), s1.2 _ _ (decide_eq_false (by omega))⟩
  have uf : ∀ A l, A ≠ 204 → A ≠ 205 → v1.1 A l = v.1 A l ∧ v1.2 A l = v.2 A l := fun A l z z' => ⟨t1.1 _ _ (decide_eq_false (by omega)), t1.2 _ _ (decide_eq_false (by omega))⟩
  have hP1 : PSI K P V N w1 v1 j := PSI_sx hP s1 t1 (fun A l z => decide_eq_false (by omega)) (fun A l z => decide_eq_false (by omega))
  have hV1 : ENV w1 v1 oc kc mc cc := ENV_k hV (fun A l z => cf A l (by unfold kcR kA at z; omega)) (fun A l z => uf A l (by unfold kuR at z; omega) (by unfold kuR at z; omega))
  have sc1 : sx (qFdc k f U) c0 w1 := sx_trans sc (sx_wide s1 (fun A l z => by
    have := of_decide_eq_false z
    exact decide_eq_false (by omega)))
  have su1 : sx (qFu k f) u0 v1 := sx_trans su (sx_wide t1 (fun A l z => by
    have := of_decide_eq_false z
    exact decide_eq_false (by omega)))
  have g8 : w1.1 145 8 = nI k := by
    rw [(cf _ _ (by omega)).1]
    exact h8
  have hmg := marks_go (w := 1) (rc := 100 * k + 1 + f) (rr := 100 * k + 1 + f) hn (by omega) (by omega) (by omega) hU hP1 hV1 (by rw [(cf _ _ (by omega)).1]; exact h11) (by rw [(cf _ _ (by omega)).1]; exact h12) (by rw [(cf _ _ (by omega)).1]; exact h13) (by rw [(cf _ _ (by omega)).1]; exact h144)
  refine jw_up (x := Option.bind (d_273 n (nI (100 * k + 1 + f)) (nI 1) w1) (Sum.elim (fC3 n (nI f)) (fun z18 => some (.inr z18)))) (y := Option.bind (d_396 n (nI (100 * k + 1 + f)) (nI (aw 1)) (bI (decide (1 < 4))) 0 v1) (fR3 n (nI k) (nI f))) ?_ (fun Q h => ?_) (fun Q h => ?_)
  rotate_left
  · unfold fC2
    dsimp only
    rw [h8, e8', ei8']
    refine wpt hi8' (wpl ?_)
    rw [← hw1, g8, e100]
    exact h
  · unfold fR2
    refine wpt hP.2.2.2.2 (wpt (ib_n hk (by decide)) ?_)
    rw [show ix (nI k) = k from ix_n (by omega), h202]
    refine wpl ?_
    rw [e8, ei8, e100]
    refine wpt hi8 (wpl (wpt hi8 (wpl ?_)))
    rw [← hv1]
    exact h
  refine jwb hmg (fun r q hrq => ?_)
  rcases hrq with ⟨d, i, m, rfl, a1, a2, a3, a4, a5, a6, a7⟩ | ⟨z, rfl, hf'⟩
  · have hN := a3.1.1
    have hN2 := a3.2.1
    have hr := a4.1
    have D : ∀ A l, qRc (100 * k + 1 + f) U A l = false → d.1 A l = w1.1 A l ∧ d.2 A l = w1.2 A l := fun A l z => ⟨a6.1 _ _ z, a6.2 _ _ z⟩
    have Q : ∀ A l, qRr (100 * k + 1 + f) A l = false → q.1 A l = v1.1 A l ∧ q.2 A l = v1.2 A l := fun A l z => ⟨a7.1 _ _ z, a7.2 _ _ z⟩
    refine fld3 (m := m) hk hf a3 (by omega) ⟨?_, ?_, ?_, ENB_of a5, ?_, RWR_of a4 (by omega), hr.1, hr.2.1, hr.2.2.1⟩ ?_ (sx_trans sc1 (sx_wide a6 (fun A l z => ?_))) (sx_trans su1 (sx_wide a7 (fun A l z => ?_)))
    · rw [(D _ _ (decide_eq_false (by omega))).1]
      exact g8
    · rw [(D _ _ (decide_eq_false (by omega))).1, (cf _ _ (by omega)).1]
      exact h14
    · rw [(Q _ _ (decide_eq_false (by omega))).1, (uf _ _ (by omega) (by omega)).1]
      exact h202
    · rw [(D _ _ (decide_eq_false (by omega))).2, (Q _ _ (decide_eq_false (by omega))).2, hw1, hv1, rL, if_pos ⟨rfl, rfl⟩]
      show nm = (pL v 204 (8 * k + f) nm).2 204 (8 * k + f)
      rw [rL, if_pos ⟨rfl, rfl⟩]
    · rw [(Q _ _ (decide_eq_false (by omega))).1, hv1, rI, if_pos ⟨rfl, rfl⟩]
      rfl
    · have := of_decide_eq_false z
      exact decide_eq_false (by omega)
    · have := of_decide_eq_false z
      exact decide_eq_false (by omega)
  · exact wp_of rfl (fR3_w hk hf'.2.2.1 (fun q' hq' => Or.inr ⟨z, rfl, FLR_202 (k := k) (FLR_tr hf' (qFc_c sc1) (qFu_u su1)) hq'⟩))
theorem fld_go (hn : 10000 ≤ n) (hk : k < 12) (hf : f ≤ 8) (hP : PSI K P V N c u i) (hK : K i = 203) (h8 : c.1 145 8 = nI k) (h14 : c.1 14 k = nI f) (h202 : u.1 202 k = nI f) (h15 : ∀ j, j < f → c.2 15 (k * 8 + j) = u.2 204 (8 * k + j)) (hV : ENV c u oc kc mc cc) (hU : 2 * U ≤ i) (h11 : c.1 133 11 = nI U) (h12 : c.1 133 12 = nM) (h13 : c.1 133 13 = nI U) (h144 : f < 8 → c.1 144 (100 * k + 1 + f) = nI 0) : jw (d_270 n c) (d_404 n (nI k) (atR u (i + 1))) (FDP K P V N c u oc kc k f U i) := by
  have hP1 := PSI_s hP (by omega)
  have hkK := PSI_K hP1
  have hkc := hV.1.2.1
  have c1f : ∀ A l, ¬ (A = 145 ∧ l = 7) → (atC c (i + 1)).1 A l = c.1 A l := fun A l z => by
    unfold atC
    rw [rI, if_neg z]
  have u1f : ∀ A l, ¬ (A = 174 ∧ l = 67) → (atR u (i + 1)).1 A l = u.1 A l := fun A l z => by
    unfold atR
    rw [rI, if_neg z]
  have h253 := s253 (n := n) (c := atC c (i + 1)) (u := atR u (i + 1)) (nm := (atC c (i + 1)).2 5 (i + 1)) (by omega) hk hf (by rw [c1f _ _ (by omega)]; exact h14) h15
  have hC : ∀ Q : cS ⊕ cS → Prop, wp (Option.bind (d_260 n (bI (dpS (atR u (i + 1)) 204 k f ((atC c (i + 1)).2 5 (i + 1))).isSome) (bI (decide (f = 8))) (atC c (i + 1))) (Sum.elim (fC2 n (nI f)) (fun z6 => some (.inr z6)))) Q → wp (d_270 n c) Q := fun Q h => by
    rw [d270_s, hP.2.2.1, nI_1]
    refine wpl ?_
    show wp (if ib ((atC c (i + 1)).1 145 8) 12 then _ else _) Q
    have e8 : (pI c 145 7 (nI (i + 1))).1 145 8 = nI k := by
      rw [rI, if_neg (by omega)]
      exact h8
    have e14 : (pI c 145 7 (nI (i + 1))).1 14 k = nI f := by
      rw [rI, if_neg (by omega)]
      exact h14
    have e7 : (pI c 145 7 (nI (i + 1))).1 145 7 = nI (i + 1) := by
      rw [rI, if_pos ⟨rfl, rfl⟩]
    rw [show (atC c (i + 1)).1 145 8 = nI k from e8, e8, show ix (nI k) = k from ix_n (by omega), e14, e7, show ix (nI (i + 1)) = i + 1 from ix_n (by omega)]
    refine wpt (ib_n hk (by decide)) (wpl (wpt (ib_n (by omega) (by decide)) (wpe h253 (wpj ?_))))
    have hin : ∀ {y : Int32}, y = bI (dpS (atR u (i + 1)) 204 k f ((atC c (i + 1)).2 5 (i + 1))).isSome → wp (jn (fun p10 : Int32 =>
      Option.bind (d_260 n y p10 (pI c 145 7 (nI (i + 1)))) (Sum.elim (fC2 n (nI f))
      (fun z12 => some (.inr z12))))
    (fun j66 =>
    if nI f < 8 then
      j66 0
    else
      j66 1)) Q := fun {y} hy => by
      rw [hy]
      refine wpj ?_
      by_cases e : f = 8
      · rw [decide_eq_true e] at h
        exact wpf (by rw [e]; decide) h
      · rw [decide_eq_false e] at h
        exact wpt (by simp (disch := first | omega | decide) only [↓neg1, nlit, rI, rL, rI2, rL1, nI_add, pk_mul, sbT, dvT, nmd, ixT, ↓ibT, ltT, ltF, leT, leF, eqT, eqF, nM_ltT, nM_ltF, nM_leT, nM_leF, nM_eqF, nM_eqF', nbT0, nbT1, oI_s, oI_n, natF, natT, nltT, nltF, nleT, nleF, ↓reduceIte, lgc, not_true_eq_false, not_false_eq_true, or_false, false_or, or_true, true_or, and_true, true_and, and_false, false_and, ne_eq, eq_self, or_self, and_self]) h
    cases ed : dpS (atR u (i + 1)) 204 k f ((atC c (i + 1)).2 5 (i + 1)) with
    | none => exact wpt (show oI none < 0 by decide) (hin (by rw [ed]; rfl))
    | some l =>
      have := (ff_some ed).1
      rw [oI_s]
      exact wpf (nI_pos (by omega)) (hin (by rw [ed]; rfl))
  rcases nw_go (n := n) (rest := fR2 n (nI k)) (A := 202) (B := 204) (aM := 12) (bM := 96) (a := k) (f := f) (L := 8) (by omega) hP1 (fun nm p h => fR2_w h) hk (by omega) (by omega) (by omega) hf (by omega) (by rw [u1f _ _ (by omega)]; exact h202) (by omega) with ⟨x1, x2, x3, x4, x5, x6, x7⟩ | ⟨z, q, x1, x2, x3⟩
  · have hf8 : f < 8 := by omega
    have cf : ∀ A l, ¬ (A = 145 ∧ l = 7) → (atC (atC c (i + 1)) (i + 1 + 1)).1 A l = c.1 A l := fun A l z => by
      unfold atC
      rw [rI, if_neg z, rI, if_neg z]
    have uf : ∀ A l, ¬ (A = 174 ∧ l = 67) → (atR (atR u (i + 1)) (i + 1 + 1)).1 A l = u.1 A l := fun A l z => by
      unfold atR
      rw [rI, if_neg z, rI, if_neg z]
    have hV2 : ENV (atC (atC c (i + 1)) (i + 1 + 1)) (atR (atR u (i + 1)) (i + 1 + 1)) oc kc mc cc := ENV_k hV (fun A l z => ⟨cf A l (by unfold kcR kA at z; omega), rfl⟩) (fun A l z => ⟨uf A l (by unfold kuR at z; omega), rfl⟩)
    have h2 := fld2 (n := n) (j0 := i) (U := U) (c0 := c) (u0 := u) (nm := V (i + 1)) hn hk hf8 x7 (by omega) (by omega) (by rw [cf _ _ (by omega)]; exact h8) (by rw [cf _ _ (by omega)]; exact h14) (by rw [uf _ _ (by omega)]; exact h202) hV2 (by rw [cf _ _ (by omega)]; exact h11) (by rw [cf _ _ (by omega)]; exact h12) (by rw [cf _ _ (by omega)]; exact h13) (by rw [cf _ _ (by omega)]; exact h144 hf8) (sx_pI (sx_pI sx_rfl (decide_eq_true (by omega))) (decide_eq_true (by omega))) (sx_pI (sx_pI sx_rfl (decide_eq_true (by omega))) (decide_eq_true (by omega)))
    exact jw_up h2 (fun Q h => hC Q (wpe x5 (wpSl h))) (fun Q h => x6 Q h)
  · exact hC _ (wpe x1 (wpSr (wp_of rfl (wp_of x2 (Or.inr ⟨z, rfl, FLR_tr x3 atC_sx atR_sx⟩)))))
end FLG
