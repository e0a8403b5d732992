/-! READING a MAKER: whole -/
section MKG
variable {n i j j0 N k p b m U t oc kc mc cc : Nat} {c d u w v w0 v0 : cS} {K P : Nat → Nat} {V : Nat → Int64} {nm nm2 : Int64}
theorem mk4 (hn : 10000 ≤ n) (hm : mc < 6) (hP : PSI K P V N w v j) (h77 : w.1 7 7 = nI mc) (h34 : v.1 174 34 = nI mc) (hV : ENV w v oc kc mc cc) (ht : fK v kc nm2 = some t) (hj : j0 ≤ j) (hU : 2 * U ≤ j) (h11 : w.1 133 11 = nI U) (h12 : w.1 133 12 = nM) (h13 : w.1 133 13 = nI U) (h144 : w.1 144 (1212 + mc) = nI 0) (sc : sx (qMkc mc U) w0 w) (su : sx (qMku mc) v0 v) : jw (xC4 n nm (nI t) w) (xR3 n nm nm2 v) (MP4 K P V N w0 v0 oc kc mc U j0 nm) := by
  have e12 : (1212 : Int32) + nI mc = nI (1212 + mc) := by rw [show (1212 : Int32) = nI 1212 from rfl, nI_add]
  have h257 := e257 (n := n) (b := 207) hP (by decide)
  have h102 := e102 (n := n) (b := 7) hP (by decide)
  by_cases e : K j = 207
  rotate_left
  · rw [if_neg e] at h257
    rw [if_neg (by omega)] at h102
    refine wp_of (a := .inr (flC w 2 (nI (P j)))) ?_ (wp_of (a := flt v 2 (nI (P j))) ?_ (Or.inr ⟨_, rfl, FLR_of (qMkc_c sc) (qMku_u su)⟩))
    · unfold xC4
      exact eq_wp (wpe h257 (wpSr rfl))
    · unfold xR3
      exact eq_wp (wpj (wpt hP.2.2.2.2 (wpe h102 (wpt rfl (wpe (e103 hP) (wp_of (xR4_w flt_at.1) rfl))))))
  rw [if_pos e] at h257
  rw [if_pos (by omega)] at h102
  have hP1 := PSI_s hP (by omega)
  have s1 : sx (fun A l => decide (A = 145 ∧ l = 7)) w (atC w (j + 1)) := sx_pI sx_rfl (by decide)
  have t1 : sx (fun A l => decide (A = 174 ∧ l = 67)) v (atR v (j + 1)) := sx_pI sx_rfl (by decide)
  obtain ⟨w1, hw1⟩ : ∃ w1, w1 = atC w (j + 1) := ⟨_, rfl⟩
  obtain ⟨v1, hv1⟩ : ∃ v1, v1 = atR v (j + 1) := ⟨_, rfl⟩
  rw [← hw1] at h257 hP1 s1
  rw [← hv1] at h102 hP1 t1
  have cf : ∀ A l, ¬ (A = 145 ∧ l = 7) → w1.1 A l = w.1 A l ∧ w1.2 A l = w.2 A l := fun A l z => ⟨s1.1 _ _ (decide_eq_false z), s1.2 _ _ (decide_eq_false z)⟩
  have uf : ∀ A l, ¬ (A = 174 ∧ l = 67) → v1.1 A l = v.1 A l ∧ v1.2 A l = v.2 A l := fun A l z => ⟨t1.1 _ _ (decide_eq_false z), t1.2 _ _ (decide_eq_false z)⟩
  have hV1 : ENV w1 v1 oc kc mc cc := ENV_k hV (fun A l z => cf A l (by have := hV.1.2.1; unfold kcR kA at z; omega)) (fun A l z => uf A l (by unfold kuR at z; omega))
  have g77 : w1.1 7 7 = nI mc := by
    rw [(cf _ _ (by omega)).1]
    exact h77
  have g34 : v1.1 174 34 = nI mc := by
    rw [(uf _ _ (by omega)).1]
    exact h34
  have hN := hP.1.1
  have sc1 : sx (qMkc mc U) w0 w1 := sx_trans sc (sx_wide s1 (fun A l z => by
    have := of_decide_eq_false z
    exact decide_eq_false (by omega)))
  have su1 : sx (qMku mc) v0 v1 := sx_trans su (sx_wide t1 (fun A l z => by
    have := of_decide_eq_false z
    exact decide_eq_false (by omega)))
  refine jw_up (x := Option.bind (d_272 n (nI (1212 + mc)) 5 w1) (Sum.elim (xC5 n nm (nI t)) (fun z20 => some (.inr z20)))) (y := Option.bind (d_396 n (nI (1212 + mc)) 1 0 1 v1) (xR5 n nm nm2)) ?_ (fun Q h => ?_) (fun Q h => ?_)
  rotate_left
  · unfold xC4
    refine wpe h257 (wpSl ?_)
    rw [g77, e12]
    exact h
  · unfold xR3
    refine wpj (wpt hP.2.2.2.2 (wpe h102 (wpf (show ¬ (1 : Int32) = 0 by decide) ?_)))
    dsimp only
    unfold xR4
    rw [g34, e12]
    exact wpt hP1.2.2.2.2 h
  have hsg := some_go (w := 5) (mc := mc) (cc := cc) hn (show 1212 + mc < 2242 by omega) (show 1212 + mc < 1219 by omega) (by omega) (show 2 * U ≤ j + 1 by omega) hP1 hV1 (by rw [(cf _ _ (by omega)).1]; exact h11) (by rw [(cf _ _ (by omega)).1]; exact h12) (by rw [(cf _ _ (by omega)).1]; exact h13) (by rw [(cf _ _ (by omega)).1]; exact h144)
  refine jwb hsg (fun r q hrq => ?_)
  rcases hrq with ⟨d, i, m, rfl, a1, a2, a3, a4, a5, a6, a7⟩ | ⟨z, rfl, hf⟩
  · have hN2 := a3.2.1
    have hr := a4.1
    refine mk5 (n := n) (m := m) (by omega) hm a3 ?_ ?_ a5 ?_ (by omega) (RWR_of a4 (by omega)) hr.1 hr.2.1 hr.2.2.1 (sx_trans sc1 (sx_wide a6 (fun A l z => ?_))) (sx_trans su1 (sx_wide a7 (fun A l z => ?_)))
    · rw [a6.1 _ _ (decide_eq_false (by omega))]
      exact g77
    · rw [a7.1 _ _ (decide_eq_false (by omega))]
      exact g34
    · rw [← ht]
      exact ff_congr (fun l hl => by rw [a7.2 _ _ (decide_eq_false (by omega)), (uf _ _ (by omega)).2])
    · have := of_decide_eq_false z
      exact decide_eq_false (by omega)
    · have := of_decide_eq_false z
      exact decide_eq_false (by omega)
  · exact wp_of rfl (wp_of (xR5_w hf.2.2.1) (Or.inr ⟨z, rfl, FLR_tr hf (qMkc_c sc1) (qMku_u su1)⟩))
theorem mk2 (hn : 10000 ≤ n) (hm : mc < 6) (hP : PSI K P V N w v j) (h77 : w.1 7 7 = nI mc) (h34 : v.1 174 34 = nI mc) (hV : ENV w v oc kc mc cc) (hj : j0 ≤ j) (hU : 2 * U ≤ j) (h11 : w.1 133 11 = nI U) (h12 : w.1 133 12 = nM) (h13 : w.1 133 13 = nI U) (h144 : w.1 144 (1212 + mc) = nI 0) (sc : sx (qMkc mc U) w0 w) (su : sx (qMku mc) v0 v) : jw (xC2 n (nm, w)) (xR2 n (nm, v)) (MP4 K P V N w0 v0 oc kc mc U j0 nm) := by
  have hkc := hV.1.2.1
  rcases exp_s (n := n) (b := 58) hP (by decide) (by decide) with ⟨y1, y2, y3⟩ | ⟨y1, y2⟩
  rotate_left
  · refine wp_of (a := .inr (flC w 2 (nI (P j)))) ?_ (wp_of (a := flt v 2 (nI (P j))) ?_ (Or.inr ⟨_, rfl, FLR_of (qMkc_c sc) (qMku_u su)⟩))
    · unfold xC2
      exact eq_wp (wpe y1 (wpSr rfl))
    · unfold xR2
      exact eq_wp (wpe y2 (wpf (ne13 flt_at.1) rfl))
  have s1 : sx (fun A l => decide (A = 145 ∧ l = 7)) w (atC w (j + 1)) := sx_pI sx_rfl (by decide)
  have t1 : sx (fun A l => decide (A = 174 ∧ l = 67)) v (atR v (j + 1)) := sx_pI sx_rfl (by decide)
  obtain ⟨w1, hw1⟩ : ∃ w1, w1 = atC w (j + 1) := ⟨_, rfl⟩
  obtain ⟨v1, hv1⟩ : ∃ v1, v1 = atR v (j + 1) := ⟨_, rfl⟩
  rw [← hw1] at y1 y3 s1
  rw [← hv1] at y2 y3 t1
  have h259 := e259 (n := n) y3
  have h381 := e381 (n := n) y3
  have hkK := PSI_K y3
  have sc1 : sx (qMkc mc U) w0 w1 := sx_trans sc (sx_wide s1 (fun A l z => by
    have := of_decide_eq_false z
    exact decide_eq_false (by omega)))
  have su1 : sx (qMku mc) v0 v1 := sx_trans su (sx_wide t1 (fun A l z => by
    have := of_decide_eq_false z
    exact decide_eq_false (by omega)))
  by_cases e1 : K (j + 1) = 1
  rotate_left
  · rw [if_neg e1] at h259 h381
    have f1 := (flt_at (u := v1) (a := 2) (f := nI (P (j + 1)))).1
    refine wp_of (a := .inr (flC w1 2 (nI (P (j + 1))))) ?_ (wp_of (a := flt v1 2 (nI (P (j + 1)))) ?_ (Or.inr ⟨_, rfl, FLR_of (qMkc_c sc1) (qMku_u su1)⟩))
    · unfold xC2
      exact eq_wp (wpe y1 (wpSl (wpe h259 (wpSr rfl))))
    · unfold xR2
      exact eq_wp (wpe y2 (wpt y3.2.2.2.2 (wpl (wpe h381 (wpj (wpf (ne13 f1) (wp_of (xR3_w f1) rfl)))))))
  rw [if_pos e1] at h259 h381
  have hP2 := PSI_s y3 (by omega)
  have s2 : sx (fun A l => decide (A = 145 ∧ l = 7)) w (atC w1 (j + 1 + 1)) := sx_pI s1 (by decide)
  have t2 : sx (fun A l => decide (A = 174 ∧ l = 67)) v (atR v1 (j + 1 + 1)) := sx_pI t1 (by decide)
  have v67 := y3.2.2.2.1
  have w67 := y3.2.2.1
  obtain ⟨w2, hw2⟩ : ∃ w2, w2 = atC w1 (j + 1 + 1) := ⟨_, rfl⟩
  obtain ⟨v2, hv2⟩ : ∃ v2, v2 = atR v1 (j + 1 + 1) := ⟨_, rfl⟩
  rw [← hw2] at hP2 s2
  rw [← hv2] at hP2 t2 h381
  have cf : ∀ A l, ¬ (A = 145 ∧ l = 7) → w2.1 A l = w.1 A l ∧ w2.2 A l = w.2 A l := fun A l z => ⟨s2.1 _ _ (decide_eq_false z), s2.2 _ _ (decide_eq_false z)⟩
  have uf : ∀ A l, ¬ (A = 174 ∧ l = 67) → v2.1 A l = v.1 A l ∧ v2.2 A l = v.2 A l := fun A l z => ⟨t2.1 _ _ (decide_eq_false z), t2.2 _ _ (decide_eq_false z)⟩
  have hV1 : ENV w1 v1 oc kc mc cc := ENV_k hV (fun A l z => ⟨s1.1 _ _ (decide_eq_false (by unfold kcR kA at z; omega)), s1.2 _ _ (decide_eq_false (by unfold kcR kA at z; omega))⟩) (fun A l z => ⟨t1.1 _ _ (decide_eq_false (by unfold kuR at z; omega)), t1.2 _ _ (decide_eq_false (by unfold kuR at z; omega))⟩)
  have hV2 : ENV w2 v2 oc kc mc cc := ENV_k hV (fun A l z => cf A l (by unfold kcR kA at z; omega)) (fun A l z => uf A l (by unfold kuR at z; omega))
  have efK : fK v1 kc (V (j + 1)) = fK v2 kc (V (j + 1)) := by
    rw [hv2]
    rfl
  have h248 := g248 (n := n) (nm := V (j + 1)) (by omega) hV1.1
  have h373 := g373 (n := n) (nm := V (j + 1)) (by omega) hV2.1
  rw [efK] at h248
  have sc2 : sx (qMkc mc U) w0 w2 := sx_trans sc (sx_wide s2 (fun A l z => by
    have := of_decide_eq_false z
    exact decide_eq_false (by omega)))
  have su2 : sx (qMku mc) v0 v2 := sx_trans su (sx_wide t2 (fun A l z => by
    have := of_decide_eq_false z
    exact decide_eq_false (by omega)))
  cases et : fK v2 kc (V (j + 1)) with
  | none =>
    rw [et] at h248 h373
    have f1 := (flt_at (u := v2) (a := 5) (f := nI (P (j + 1)))).1
    refine wp_of (a := .inr (flC w1 5 (nI (P (j + 1))))) ?_ (wp_of (a := flt v2 5 (nI (P (j + 1)))) ?_ (Or.inr ⟨_, rfl, FLR_of (qMkc_c sc1) (qMku_u su2)⟩))
    · unfold xC2
      exact eq_wp (wpe y1 (wpSl (wpe h259 (wpSl (wpe h248 (wpj (wpf (show ¬ (0 : Int32) ≤ oI none by decide) (wpe (e42 y3) (wpe e41 (wpSr rfl))))))))))
    · unfold xR2
      refine eq_wp (wpe y2 (wpt y3.2.2.2.2 ?_))
      rw [v67]
      refine wpl (wpe h381 (wpj (wpt hP2.2.2.2.2 (wpe h373 (wpf (show ¬ (0 : Int32) ≤ oI none by decide) (wpt (ib_n (by omega) (by decide)) ?_))))))
      dsimp only
      rw [show v2.1 179 (ix (nI (j + 1))) = nI (P (j + 1)) by
        rw [ix_n (by omega)]
        exact (hP2.1.2.2.1 (j + 1) y3.2.1).2.2.1]
      exact wpe (e97 hP2.2.2.2.2) (wp_of (xR3_w f1) rfl)
  | some t =>
    rw [et, oI_s] at h248 h373
    have htk := (ff_some et).1
    refine jw_up (mk4 (n := n) (nm := nm) (nm2 := V (j + 1)) (t := t) (j0 := j0) (mc := mc) (cc := cc) (U := U) hn hm hP2 (by rw [(cf _ _ (by omega)).1]; exact h77) (by rw [(uf _ _ (by omega)).1]; exact h34) hV2 et (by omega) (by omega) (by rw [(cf _ _ (by omega)).1]; exact h11) (by rw [(cf _ _ (by omega)).1]; exact h12) (by rw [(cf _ _ (by omega)).1]; exact h13) (by rw [(cf _ _ (by omega)).1]; exact h144) sc2 su2) (fun Q h => ?_) (fun Q h => ?_)
    · unfold xC2
      refine wpe y1 (wpSl (wpe h259 (wpSl (wpe h248 (wpj (wpt (nI_pos' (by omega)) ?_))))))
      unfold xC3
      dsimp only
      rw [w67, nI_1]
      rw [hw2] at h
      exact wpl h
    · unfold xR2
      exact wpe y2 (wpt y3.2.2.2.2 (wpl (wpe h381 (wpj (wpt hP2.2.2.2.2 (wpe h373 (wpt (nI_pos' (by omega)) h)))))))
def MKPr (K P : Nat → Nat) (V : Nat → Int64) (N : Nat) (c u : cS) (oc kc mc cc U i : Nat) (r : cS ⊕ cS) (q : cS) : Prop := (∃ nm, mc < 6 ∧ nm ≠ 0 ∧ tkn4 u oc kc mc cc nm = false ∧ MP4 K P V N c u oc kc mc U i nm r q) ∨ (∃ z, r = .inr z ∧ FLR c u z q)
theorem mkr_go (hn : 10000 ≤ n) (hP : PSI K P V N c u i) (hk : K i = 206) (hN : NMR c u oc kc mc cc) (hO : PO oc c u) (hR : ∀ t, t < kc → RK c u t) (hU : 2 * U ≤ i) (h11 : c.1 133 11 = nI U) (h12 : c.1 133 12 = nM) (h13 : c.1 133 13 = nI U) (h144 : mc < 6 → c.1 144 (1212 + mc) = nI 0) : jw (d_268 n c) (d_402 n (atR u (i + 1))) (MKPr K P V N c u oc kc mc cc U i) := by
  have hP1 := PSI_s hP (by omega)
  have hN1 : NMR (atC c (i + 1)) (atR u (i + 1)) oc kc mc cc := NMR_at hN
  have k12 := hN1.2.2.1.1
  have h77 := hN1.2.2.1.2.1
  have h34 := hN1.2.2.1.2.2.1
  have hkc := hN.2.1.1
  have hC : ∀ Q : cS ⊕ cS → Prop, wp (Option.bind (d_260 n (bI (tkn4 (atR u (i + 1)) oc kc mc cc ((atC c (i + 1)).2 5 (i + 1)))) (bI (decide (mc = 6))) (atC c (i + 1))) (Sum.elim (xC2 n) (fun z6 => some (.inr z6)))) Q → wp (d_268 n c) Q := fun Q h => by
    rw [d268_s, hP.2.2.1, nI_1]
    refine wpl (wpe (f261 (by omega) hP1 hN1) (wpj ?_))
    rw [show (pI c 145 7 (nI (i + 1))).1 7 7 = nI mc from h77]
    by_cases e : mc = 6
    · rw [decide_eq_true e] at h
      exact wpf (by rw [e]; decide) h
    · rw [decide_eq_false e] at h
      exact wpt (by simp (disch := first | omega | decide) only [↓neg1, nlit, rI, rL, rI2, rL1, nI_add, pk_mul, sbT, dvT, nmd, ixT, ↓ibT, ltT, ltF, leT, leF, eqT, eqF, nM_ltT, nM_ltF, nM_leT, nM_leF, nM_eqF, nM_eqF', nbT0, nbT1, oI_s, oI_n, natF, natT, nltT, nltF, nleT, nleF, ↓reduceIte, lgc, not_true_eq_false, not_false_eq_true, or_false, false_or, or_true, true_or, and_true, true_and, and_false, false_and, ne_eq, eq_self, or_self, and_self]) h
  rcases new_go (n := n) (B := decide (mc = 6)) (a := (atR u (i + 1)).1 174 34) (b := 6) (by omega) hP1 hN1 (n_is h34 rfl (by omega) (by omega)) with ⟨x1, x2, x3, x4, x5, x6, x7⟩ | ⟨z, q, x, x1, x2, x3⟩
  · have hk12 : mc < 6 := by
      have := of_decide_eq_false x4
      omega
    have cf : ∀ A l, ¬ (A = 145 ∧ l = 7) → (atC (atC c (i + 1)) (i + 1 + 1)).1 A l = c.1 A l := fun A l z => by
      unfold atC
      rw [rI, if_neg z, rI, if_neg z]
    have uf : ∀ A l, ¬ (A = 174 ∧ l = 67) → (atR (atR u (i + 1)) (i + 1 + 1)).1 A l = u.1 A l := fun A l z => by
      unfold atR
      rw [rI, if_neg z, rI, if_neg z]
    have hV : ENV (atC (atC c (i + 1)) (i + 1 + 1)) (atR (atR u (i + 1)) (i + 1 + 1)) oc kc mc cc := ENV_k ⟨⟨hN.1, hN.2.1⟩, hO, hR⟩ (fun A l z => ⟨cf A l (by unfold kcR kA at z; omega), rfl⟩) (fun A l z => ⟨uf A l (by unfold kuR at z; omega), rfl⟩)
    have h2 := mk2 (n := n) (j0 := i) (U := U) (w0 := c) (v0 := u) (nm := V (i + 1)) hn hk12 x7 (by rw [cf _ _ (by omega)]; exact hN.2.2.1.2.1) (by rw [uf _ _ (by omega)]; exact hN.2.2.1.2.2.1) hV (by omega) (by omega) (by rw [cf _ _ (by omega)]; exact h11) (by rw [cf _ _ (by omega)]; exact h12) (by rw [cf _ _ (by omega)]; exact h13) (by rw [cf _ _ (by omega)]; exact h144 hk12) (sx_pI (sx_pI sx_rfl (decide_eq_true (by omega))) (decide_eq_true (by omega))) (sx_pI (sx_pI sx_rfl (decide_eq_true (by omega))) (decide_eq_true (by omega)))
    obtain ⟨r, q, y1, y2, y3⟩ := jw_ex (jw_up h2 (fun Q h => hC Q (wpe x5 (wpSl h))) (fun Q h => by
      show wp (d_402 n (atR u (i + 1))) Q
      rw [d402_s]
      exact wpe x6 h))
    exact jw_of y1 y2 (Or.inl ⟨V (i + 1), hk12, x1, x3, y3⟩)
  · refine hC _ (wpe x1 (wpSr (wp_of rfl ?_)))
    rw [d402_s]
    exact wpe x2 (wp_of (xR2_w x3.2.2.1) (Or.inr ⟨z, rfl, FLR_tr x3 atC_sx atR_sx⟩))
end MKG
