/-! READING the head of a CLASS: whole -/
section CHG
variable {n i j j0 N k m U oc kc mc : Nat} {c d u w v c0 u0 : cS} {K P : Nat → Nat} {V : Nat → Int64} {nm : Int64}
theorem HDX_mono {R R' : cS → cS → Prop} {X : Option (cS ⊕ cS)} {Y : Option cS} {Z : cS → Option cS} (h : HDX c0 u0 R X Y Z) (hR : ∀ d q, R d q → R' d q) : HDX c0 u0 R' X Y Z := by
  rcases h with ⟨d, q, h1, h2, h3⟩ | h
  · exact Or.inl ⟨d, q, h1, h2, hR d q h3⟩
  · exact Or.inr h
def HDQ (K P : Nat → Nat) (V : Nat → Int64) (N : Nat) (c u : cS) (oc kc k U i : Nat) (nm : Int64) (d q : cS) : Prop := ∃ sp, (sp = nM ∨ ∃ t, t < k ∧ sp = nI t) ∧ HDP K P V N c u oc kc k U i nm sp d q
theorem kR2_w (h : v.1 174 13 = nI 1) : kR2 n (nm, v) = some v := by
  unfold kR2
  exact eq_wp (wpf (ne13 h) rfl)
theorem chd2 (hn : 10000 ≤ n) (hk : k < 12) (hP : PSI K P V N w v j) (hj : j0 ≤ j) (hU : 2 * U ≤ j) (hN : NMR w v oc kc mc k) (hV : ENV w v oc kc mc 0) (h11 : w.1 133 11 = nI U) (h12 : w.1 133 12 = nM) (h13 : w.1 133 13 = nI U) (h144 : w.1 144 (100 * k) = nI 0) (sc : sx (qHc k U) c0 w) (su : sx (qHu k) u0 v) : HDX c0 u0 (HDQ K P V N c0 u0 oc kc k U j0 nm) (hC2 n (nm, w)) (kR2 n (nm, v)) (kR6 n (nI k)) := by
  have hkc := hV.1.2.1
  have h7 := hN.2.2.2.2.1
  have h37 := hN.2.2.2.2.2.1
  obtain ⟨B, j1, w1, v1, x1, x2, x3, x4, x5, x6, x7, x8, x9⟩ := opt_s (n := n) (b := 58) hP (by decide) (by decide)
  have go : ∀ {sp : Int32} {w2 v2 : cS} {j2 : Nat}, (sp = nM ∨ ∃ t, t < k ∧ sp = nI t) → PSI K P V N w2 v2 j2 → j1 ≤ j2 → sx q145 w w2 → sx q67 v v2 → HDX c0 u0 (HDQ K P V N c0 u0 oc kc k U j0 nm) (hC4 n nm (sp, w2)) (kR4 n nm (sp, v2)) (kR6 n (nI k)) := fun {sp w2 v2 j2} a1 a2 a3 a4 a5 => by
    have cf : ∀ A l, ¬ (A = 145 ∧ l = 7) → w2.1 A l = w.1 A l ∧ w2.2 A l = w.2 A l := fun A l z => ⟨a4.1 _ _ (decide_eq_false z), a4.2 _ _ (decide_eq_false z)⟩
    have uf : ∀ A l, ¬ (A = 174 ∧ l = 67) → v2.1 A l = v.1 A l ∧ v2.2 A l = v.2 A l := fun A l z => ⟨a5.1 _ _ (decide_eq_false z), a5.2 _ _ (decide_eq_false z)⟩
    exact HDX_mono (chd4 (j0 := j0) hn hk a2 (by omega) (by omega) (by rw [(cf _ _ (by omega)).1]; exact h7) (by rw [(uf _ _ (by omega)).1]; exact h37) (ENV_k hV (fun A l z => cf A l (by unfold kcR kA at z; omega)) (fun A l z => uf A l (by unfold kuR at z; omega))) (by rw [(cf _ _ (by omega)).1]; exact h11) (by rw [(cf _ _ (by omega)).1]; exact h12) (by rw [(cf _ _ (by omega)).1]; exact h13) (by rw [(cf _ _ (by omega)).1]; exact h144) (sx_trans sc (sx_wide a4 (fun A l z => by
      have := of_decide_eq_false z
      exact decide_eq_false (by omega)))) (sx_trans su (sx_wide a5 (fun A l z => by
      have := of_decide_eq_false z
      exact decide_eq_false (by omega))))) (fun d q h => ⟨sp, a1, h⟩)
  cases B with
  | false =>
    refine HDX_up (go (sp := -1) (Or.inl rfl) x4 (Nat.le_refl _) x5 x6) (fun Q h => ?_) (fun Q h => ?_)
    · unfold hC2
      exact wpe x1 (wpj (wpt rfl h))
    · unfold kR2
      exact wpt hP.2.2.2.2 (wpe x2 (wpj (wpt rfl h)))
  | true =>
    have hkK := PSI_K x4
    have h259 := e259 (n := n) x4
    have h381 := e381 (n := n) x4
    have sc1 : sx (qHc k U) c0 w1 := sx_trans sc (sx_wide x5 (fun A l z => by
      have := of_decide_eq_false z
      exact decide_eq_false (by omega)))
    have su1 : sx (qHu k) u0 v1 := sx_trans su (sx_wide x6 (fun A l z => by
      have := of_decide_eq_false z
      exact decide_eq_false (by omega)))
    by_cases e1 : K j1 = 1
    rotate_left
    · rw [if_neg e1] at h259 h381
      refine Or.inr ⟨flC w1 2 (nI (P j1)), flt v1 2 (nI (P j1)), ?_, ?_, FLR_of (qHc_c sc1) (qHu_u su1)⟩
      · unfold hC2
        exact eq_wp (wpe x1 (wpj (wpf (show ¬ bI true = 0 by decide) (wpe h259 (wpSr rfl)))))
      · unfold kR2
        exact eq_wp (wpt hP.2.2.2.2 (wpe x2 (wpj (wpf (show ¬ bI true = 0 by decide) (wpl (wpe h381 (wpf (ne13 flt_at.1) rfl)))))))
    rw [if_pos e1] at h259 h381
    have hP2 := PSI_s x4 (by omega)
    have cf1 : ∀ A l, ¬ (A = 145 ∧ l = 7) → w1.1 A l = w.1 A l ∧ w1.2 A l = w.2 A l := fun A l z => ⟨x5.1 _ _ (decide_eq_false z), x5.2 _ _ (decide_eq_false z)⟩
    have uf1 : ∀ A l, ¬ (A = 174 ∧ l = 67) → v1.1 A l = v.1 A l ∧ v1.2 A l = v.2 A l := fun A l z => ⟨x6.1 _ _ (decide_eq_false z), x6.2 _ _ (decide_eq_false z)⟩
    have hN1 : NMR w1 v1 oc kc mc k := NMR_cg hN (fun l _ => (cf1 _ _ (by omega)).1) (fun l _ => (cf1 _ _ (by unfold oA; omega)).2) (fun l _ => (cf1 _ _ (by unfold kA; omega)).2) (fun l _ => (cf1 _ _ (by omega)).2) (fun l _ => (cf1 _ _ (by omega)).2) (fun l _ => (uf1 _ _ (by omega)).1) (fun l _ => (uf1 _ _ (by omega)).2) (fun l _ => (uf1 _ _ (by omega)).2) (fun l _ => (uf1 _ _ (by omega)).2) (fun l _ => (uf1 _ _ (by omega)).2)
    have hN2 : NMR (atC w1 (j1 + 1)) (atR v1 (j1 + 1)) oc kc mc k := NMR_at hN1
    have h249 := f249 (n := n) (v := V j1) (by omega) hN1
    have h375 := f375 (n := n) (v := V j1) (by omega) hN2
    rw [show fCl (atR v1 (j1 + 1)) k (V j1) = fCl v1 k (V j1) from rfl] at h375
    have w67 := x4.2.2.1
    have v67 := x4.2.2.2.1
    cases et : fCl v1 k (V j1) with
    | none =>
      rw [et] at h249 h375
      have f1 := (flt_at (u := atR v1 (j1 + 1)) (a := 5) (f := nI (P j1))).1
      refine Or.inr ⟨flC w1 5 (nI (P j1)), flt (atR v1 (j1 + 1)) 5 (nI (P j1)), ?_, ?_, FLR_of (qHc_c sc1) (sx_trans (qHu_u su1) atR_sx)⟩
      · unfold hC2
        exact eq_wp (wpe x1 (wpj (wpf (show ¬ bI true = 0 by decide) (wpe h259 (wpSl (wpe h249 (wpj (wpf (show ¬ (0 : Int32) ≤ oI none by decide) (wpe (e42 x4) (wpe e41 (wpSr rfl)))))))))))
      · unfold kR2
        refine eq_wp (wpt hP.2.2.2.2 (wpe x2 (wpj (wpf (show ¬ bI true = 0 by decide) ?_))))
        dsimp only
        rw [v67]
        refine wpl (wpe h381 (wpt hP2.2.2.2.2 (wpe h375 (wpf (show ¬ (0 : Int32) ≤ oI none by decide) (wpt (ib_n (by omega) (by decide)) ?_)))))
        dsimp only
        rw [show (atR v1 (j1 + 1)).1 179 (ix (nI j1)) = nI (P j1) by
          rw [ix_n (by omega)]
          exact (hP2.1.2.2.1 j1 x4.2.1).2.2.1]
        exact wpe (e97 hP2.2.2.2.2) (wp_of (kR4_w f1) rfl)
    | some t =>
      rw [et, oI_s] at h249 h375
      have htk := (ff_some et).1
      refine HDX_up (go (sp := nI t) (Or.inr ⟨t, htk, rfl⟩) hP2 (by omega) (sx_pI x5 (by decide)) (sx_pI x6 (by decide))) (fun Q h => ?_) (fun Q h => ?_)
      · unfold hC2
        refine wpe x1 (wpj (wpf (show ¬ bI true = 0 by decide) (wpe h259 (wpSl (wpe h249 (wpj (wpt (nI_pos' (by omega)) ?_)))))))
        dsimp only
        rw [w67, nI_1]
        exact wpl h
      · unfold kR2
        refine wpt hP.2.2.2.2 (wpe x2 (wpj (wpf (show ¬ bI true = 0 by decide) (wpl (wpe h381 (wpt hP2.2.2.2.2 (wpe h375 (wpt (nI_pos' (by omega)) h))))))))
theorem chd_go (hn : 10000 ≤ n) (hP : PSI K P V N c u i) (hK : K i = 202) (hN : NMR c u oc kc mc k) (hV : ENV c u oc kc mc 0) (hU : 2 * U ≤ i) (h11 : c.1 133 11 = nI U) (h12 : c.1 133 12 = nM) (h13 : c.1 133 13 = nI U) (h144 : k < 12 → c.1 144 (100 * k) = nI 0) : HDX c u (fun d q => ∃ nm, k < 12 ∧ nm ≠ 0 ∧ HDQ K P V N c u oc kc k U i nm d q) (d_269 n c) (d_403 n (atR u (i + 1))) (kR6 n (nI k)) := by
  have hP1 := PSI_s hP (by omega)
  have hN1 : NMR (atC c (i + 1)) (atR u (i + 1)) oc kc mc k := NMR_at hN
  have k12 := hN1.2.2.2.1
  have h77 := hN1.2.2.2.2.1
  have h34 := hN1.2.2.2.2.2.1
  have hkc := hN.2.1.1
  have hC : ∀ Q : cS ⊕ cS → Prop, wp (Option.bind (d_260 n (bI (tkn4 (atR u (i + 1)) oc kc mc k ((atC c (i + 1)).2 5 (i + 1)))) (bI (decide (k = 12))) (atC c (i + 1))) (Sum.elim (hC2 n) (fun z6 => some (.inr z6)))) Q → wp (d_269 n c) Q := fun Q h => by
    rw [d269_s, hP.2.2.1, nI_1]
    refine wpl (wpe (f261 (by omega) hP1 hN1) (wpj ?_))
    rw [show (pI c 145 7 (nI (i + 1))).1 7 10 = nI k from h77]
    by_cases e : k = 12
    · rw [decide_eq_true e] at h
      exact wpf (by rw [e]; decide) h
    · rw [decide_eq_false e] at h
      exact wpt (by simp (disch := first | omega | decide) only [↓neg1, nlit, rI, rL, rI2, rL1, nI_add, pk_mul, sbT, dvT, nmd, ixT, ↓ibT, ltT, ltF, leT, leF, eqT, eqF, nM_ltT, nM_ltF, nM_leT, nM_leF, nM_eqF, nM_eqF', nbT0, nbT1, oI_s, oI_n, natF, natT, nltT, nltF, nleT, nleF, ↓reduceIte, lgc, not_true_eq_false, not_false_eq_true, or_false, false_or, or_true, true_or, and_true, true_and, and_false, false_and, ne_eq, eq_self, or_self, and_self]) h
  rcases new_go (n := n) (B := decide (k = 12)) (a := (atR u (i + 1)).1 174 37) (b := 12) (by omega) hP1 hN1 (n_is h34 rfl (by omega) (by omega)) with ⟨x1, x2, x3, x4, x5, x6, x7⟩ | ⟨z, q, x, x1, x2, x3⟩
  · have hk12 : k < 12 := by
      have := of_decide_eq_false x4
      omega
    have cf : ∀ A l, ¬ (A = 145 ∧ l = 7) → (atC (atC c (i + 1)) (i + 1 + 1)).1 A l = c.1 A l := fun A l z => by
      unfold atC
      rw [rI, if_neg z, rI, if_neg z]
    have uf : ∀ A l, ¬ (A = 174 ∧ l = 67) → (atR (atR u (i + 1)) (i + 1 + 1)).1 A l = u.1 A l := fun A l z => by
      unfold atR
      rw [rI, if_neg z, rI, if_neg z]
    have hV2 : ENV (atC (atC c (i + 1)) (i + 1 + 1)) (atR (atR u (i + 1)) (i + 1 + 1)) oc kc mc 0 := ENV_k hV (fun A l z => ⟨cf A l (by unfold kcR kA at z; omega), rfl⟩) (fun A l z => ⟨uf A l (by unfold kuR at z; omega), rfl⟩)
    have h2 := chd2 (n := n) (j0 := i) (U := U) (c0 := c) (u0 := u) (nm := V (i + 1)) hn hk12 x7 (by omega) (by omega) (NMR_at hN1) hV2 (by rw [cf _ _ (by omega)]; exact h11) (by rw [cf _ _ (by omega)]; exact h12) (by rw [cf _ _ (by omega)]; exact h13) (by rw [cf _ _ (by omega)]; exact h144 hk12) (sx_pI (sx_pI sx_rfl (decide_eq_true (by omega))) (decide_eq_true (by omega))) (sx_pI (sx_pI sx_rfl (decide_eq_true (by omega))) (decide_eq_true (by omega)))
    exact HDX_mono (HDX_up h2 (fun Q h => hC Q (wpe x5 (wpSl h))) (fun Q h => by
      rw [d403_s]
      exact wpe x6 h)) (fun d q h => ⟨V (i + 1), hk12, x1, h⟩)
  · refine Or.inr ⟨z, q, eq_wp (hC _ (wpe x1 (wpSr rfl))), ?_, FLR_tr x3 atC_sx atR_sx⟩
    rw [d403_s]
    exact eq_wp (wpe x2 (wp_of (kR2_w x3.2.2.1) rfl))
end CHG
