/-! READING a KIND: from where it may stand on -/
section KD3
variable {n i j j0 N k p b m U oc mc cc : Nat} {c d u w v w0 v0 : cS} {K P : Nat → Nat} {V : Nat → Int64} {nm : Int64}
/-- before the MARKS of KIND k -/
def KMR (w v : cS) (oc k mc cc U : Nat) : Prop := ENV w v oc k mc cc ∧ w.1 133 11 = nI U ∧ w.1 133 12 = nM ∧ w.1 133 13 = nI U ∧ w.1 144 (1200 + k) = nI 0 ∧ (∀ s, s < 16 → w.1 (kA k + 5) s = nM) ∧ ∀ t, t < k → GVE w t
theorem KMR_cg {c' u' : cS} (h : KMR c u oc k mc cc U) (hk : k < 12) (hc : ∀ A l, kcR k A l ∨ A = kA k + 5 ∨ (A = 133 ∧ 11 ≤ l ∧ l ≤ 13) ∨ (A = 144 ∧ l = 1200 + k) → c'.1 A l = c.1 A l ∧ c'.2 A l = c.2 A l) (hu : ∀ A l, kuR k A l → u'.1 A l = u.1 A l ∧ u'.2 A l = u.2 A l) : KMR c' u' oc k mc cc U := by
  obtain ⟨h1, h2, h3, h4, h5, h6, h7⟩ := h
  refine ⟨ENV_k h1 (fun A l z => hc A l (Or.inl z)) hu, by rw [(hc _ _ (by omega)).1]; exact h2, by rw [(hc _ _ (by omega)).1]; exact h3, by rw [(hc _ _ (by omega)).1]; exact h4, by rw [(hc _ _ (by omega)).1]; exact h5, fun s hs => by rw [(hc _ _ (by omega)).1]; exact h6 s hs, fun t ht s hs => ?_⟩
  rw [(hc _ _ (Or.inl (by unfold kcR kA; omega))).1]
  exact h7 t ht s hs
theorem kd4 (hn : 10000 ≤ n) (hk : k < 12) (hP : PSI K P V N w v j) (hj : j0 ≤ j) (hU : 2 * U ≤ j) (hS : KST w v k p b nm) (hM : KMR w v oc k mc cc U) (sc : sx (qKc k U) w0 w) (su : sx (qKu k) v0 v) : jw (kc4 n k w) (kr4 n (nI k) nm v) (KP4 K P V N w0 v0 oc k U j0 nm) := by
  have hik : ib (nI k) 12 := ib_n hk (by decide)
  have ek : ix (nI k) = k := ix_n (by omega)
  have e12 : (1200 : Int32) + nI k = nI (1200 + k) := by rw [show (1200 : Int32) = nI 1200 from rfl, nI_add]
  obtain ⟨B1, j1, w1, v1, x1, x2, x3, x4, x5, x6, -, -, -⟩ := opt_w (n := n) (b := 9) hP (by decide)
  have hP2 : PSI K P V N (pI w1 (kA k) 7 (bI B1)) (pI v1 196 k (bI B1)) j1 := PSI_sx x4 (sx_pI (r := fun A _ => decide (A = kA k)) sx_rfl (decide_eq_true rfl)) (sx_pI (r := fun A _ => decide (A = 196)) sx_rfl (decide_eq_true rfl)) (fun A l z => decide_eq_false (by unfold kA; omega)) (fun A l z => decide_eq_false (by omega))
  obtain ⟨B2, j3, w3, v3, y1, y2, y3, y4, y5, y6, -, -, -⟩ := opt_w (n := n) (b := 10) hP2 (by decide)
  have hP4 : PSI K P V N (pI w3 (kA k) 8 (bI B2)) (pI (pI v3 197 k (bI B2)) 222 (1200 + k) 0) j3 := PSI_sx y4 (sx_pI (r := fun A _ => decide (A = kA k)) sx_rfl (decide_eq_true rfl)) (sx_pI (r := fun A _ => decide (A = 197 ∨ A = 222)) (sx_pI sx_rfl (decide_eq_true (Or.inl rfl))) (decide_eq_true (Or.inr rfl))) (fun A l z => decide_eq_false (by unfold kA; omega)) (fun A l z => decide_eq_false (by omega))
  obtain ⟨B3, j6, w6, v6, z1, z2, z3, z4, z5, z6, z7, z8, z9⟩ := opt_s (n := n) (b := 61) hP4 (by decide) (by decide)
  have hC : ∀ Q : cS ⊕ cS → Prop, wp (if bI B3 = 0 then kc5 n w6 else
          Option.bind (d_272 n (1200 + (w6.1 7 4)) 4 w6) (Sum.elim (fun r29 =>
          Option.bind (d_267 n k (1200 + (r29.1 7 4)) r29) (kc5 n))
          (fun z30 => some (.inr z30)))) Q → wp (kc4 n k w) Q := fun Q h => by
    unfold kc4
    exact wpe x1 (wpt bI_nb (wpl (wpe y1 (wpt bI_nb (wpl (wpe z1 (wpj h)))))))
  have hR : ∀ Q : cS → Prop, wp (if bI B3 = 0 then kr5 n (nI k) nm v6 else Option.bind (d_396 n (nI (1200 + k)) 15 0 1 v6) (kr5 n (nI k) nm)) Q → wp (kr4 n (nI k) nm v) Q := fun Q h => by
    unfold kr4
    rw [ek, e12]
    refine wpe x2 (wpt hik ?_)
    dsimp only
    rw [nar_b]
    refine wpl (wpe y2 (wpt hik ?_))
    dsimp only
    rw [nar_b]
    refine wpl (wpt (ib_n (by omega) (by decide)) (wpl ?_))
    rw [show ix (nI (1200 + k)) = 1200 + k from ix_n (by omega)]
    exact wpe z2 (wpj h)
  -- what has changed
  have s6 : sx (fun A l => decide ((A = 145 ∧ l = 7) ∨ (A = kA k ∧ (l = 7 ∨ l = 8)))) w w6 := by
    refine sx_trans (sx_wide x5 ?_) (sx_trans (sx_pI sx_rfl (decide_eq_true (by omega))) (sx_trans (sx_wide y5 ?_) (sx_trans (sx_pI sx_rfl (decide_eq_true (by omega))) (sx_wide z5 ?_))))
    all_goals
      intro A l z
      have := of_decide_eq_false z
      exact decide_eq_false (by omega)
  have t6 : sx (fun A l => decide ((A = 174 ∧ l = 67) ∨ ((A = 196 ∨ A = 197) ∧ l = k) ∨ (A = 222 ∧ l = 1200 + k))) v v6 := by
    refine sx_trans (sx_wide x6 ?_) (sx_trans (sx_pI sx_rfl (decide_eq_true (by omega))) (sx_trans (sx_wide y6 ?_) (sx_trans (sx_pI (sx_pI sx_rfl (decide_eq_true (by omega))) (decide_eq_true (by omega))) (sx_wide z6 ?_))))
    all_goals
      intro A l z
      have := of_decide_eq_false z
      exact decide_eq_false (by omega)
  have b1 : w6.1 (kA k) 7 = bI B1 := by
    rw [z5.1 _ _ (decide_eq_false (by unfold kA; omega)), rI, if_neg (by omega), y5.1 _ _ (decide_eq_false (by unfold kA; omega)), rI, if_pos ⟨rfl, rfl⟩]
  have b3 : w6.1 (kA k) 8 = bI B2 := by
    rw [z5.1 _ _ (decide_eq_false (by unfold kA; omega)), rI, if_pos ⟨rfl, rfl⟩]
  have b2 : v6.1 196 k = bI B1 := by
    rw [z6.1 _ _ (decide_eq_false (by omega)), rI, if_neg (by omega), rI, if_neg (by omega), y6.1 _ _ (decide_eq_false (by omega)), rI, if_pos ⟨rfl, rfl⟩]
  have b4 : v6.1 197 k = bI B2 := by
    rw [z6.1 _ _ (decide_eq_false (by omega)), rI, if_neg (by omega), rI, if_pos ⟨rfl, rfl⟩]
  have b5 : v6.1 222 (1200 + k) = nI 0 := by
    rw [z6.1 _ _ (decide_eq_false (by omega)), rI, if_pos ⟨rfl, rfl⟩]
    rfl
  have hM6 : KMR w6 v6 oc k mc cc U := by
    refine KMR_cg hM hk (fun A l z => ?_) (fun A l z => ?_)
    · have : decide ((A = 145 ∧ l = 7) ∨ (A = kA k ∧ (l = 7 ∨ l = 8))) = false := decide_eq_false (by unfold kcR kA at *; omega)
      exact ⟨s6.1 _ _ this, s6.2 _ _ this⟩
    · have : decide ((A = 174 ∧ l = 67) ∨ ((A = 196 ∨ A = 197) ∧ l = k) ∨ (A = 222 ∧ l = 1200 + k)) = false := decide_eq_false (by unfold kuR at z; omega)
      exact ⟨t6.1 _ _ this, t6.2 _ _ this⟩
  have hS6 : KST w6 v6 k p b nm := by
    refine KST_cg hS (fun A l z => ?_) (fun A l z => ?_)
    · have : decide ((A = 145 ∧ l = 7) ∨ (A = kA k ∧ (l = 7 ∨ l = 8))) = false := decide_eq_false (by unfold kA at *; omega)
      exact ⟨s6.1 _ _ this, s6.2 _ _ this⟩
    · have : decide ((A = 174 ∧ l = 67) ∨ ((A = 196 ∨ A = 197) ∧ l = k) ∨ (A = 222 ∧ l = 1200 + k)) = false := decide_eq_false (by omega)
      exact ⟨t6.1 _ _ this, t6.2 _ _ this⟩
  have sc6 : sx (qKc k U) w0 w6 := sx_trans sc (sx_wide s6 (fun A l z => by
    have := of_decide_eq_false z
    exact decide_eq_false (by omega)))
  have su6 : sx (qKu k) v0 v6 := sx_trans su (sx_wide t6 (fun A l z => by
    have := of_decide_eq_false z
    exact decide_eq_false (by omega)))
  obtain ⟨m1, m2, m3, m4, m5, m6, m7⟩ := hM6
  have h74 : w6.1 7 4 = nI k := m1.1.2.2.1
  have hN6 := z4.2.1
  have hN := z4.1.1
  refine jw_up ?_ hC hR
  cases B3 with
  | false =>
    rw [if_pos (show bI false = 0 from rfl), if_pos (show bI false = 0 from rfl)]
    refine kd5 (m := 0) hk z4 m1 (by omega) hS6 b1 b2 b3 b4 ⟨by omega, by omega, m5, b5, fun z => absurd z (Nat.lt_irrefl _), fun j hj => absurd hj (Nat.not_lt_zero _), fun j hj => absurd hj (Nat.not_lt_zero _), fun j hj => absurd hj (Nat.not_lt_zero _)⟩ m2 m3 m4 (fun s hs => ?_) (fun s hs => Or.inl (m6 s hs)) sc6 su6
    rw [m6 s hs]
    exact gvB_0 (Or.inl rfl)
  | true =>
    rw [if_neg (show ¬ bI true = 0 by decide), if_neg (show ¬ bI true = 0 by decide), h74, e12]
    have hsg := some_go (w := 4) hn (show 1200 + k < 2242 by omega) (show 1200 + k < 1219 by omega) (by omega) (show 2 * U ≤ j6 by omega) z4 m1 m2 m3 m4 m5
    refine jwb hsg (fun r q hrq => ?_)
    rcases hrq with ⟨d, i, m, rfl, a1, a2, a3, a4, a5, a6, a7⟩ | ⟨z, rfl, hf⟩
    · have hN2 := a3.2.1
      have hd74 : d.1 7 4 = nI k := a5.1.2.2.1
      obtain ⟨⟨r1, r2, r3, r4, r5, r6, r7, r8, r9⟩, r10⟩ := a4
      have hcd : ∀ l, l < m → d.1 135 (U + l) = nI (cdX d U l) ∧ (cdX d U l < k ∨ (100 ≤ cdX d U l ∧ cdX d U l < 104)) := fun l hl => by
        obtain ⟨t, bb, g1, g2, -⟩ := r10 l hl
        have ht := ENV_t a5 g2
        have b1 := a5.1.1.1
        have : cdX d U l = t := by
          unfold cdX
          rw [g1, ix_n (by rcases ht with ⟨z, -⟩ | ⟨o, z, z2, -⟩ <;> omega)]
        rw [this]
        exact ⟨g1, by rcases ht with ⟨z, -⟩ | ⟨o, z, z2, -⟩ <;> omega⟩
      have dB : ∀ t s, d.1 (kA t + 5) s = w6.1 (kA t + 5) s ∨ 12 ≤ t := fun t s => by
        by_cases e : t < 12
        · exact Or.inl (a6.1 _ _ (decide_eq_false (by unfold kA; omega)))
        · exact Or.inr (by omega)
      obtain ⟨d2, hd2, f1, f2, f3⟩ := wp_ex (e267 (n := n) (T := cdX d U) (c := d) (k := k) (U := U) (m := m) (r := 1200 + k) (by omega) (by omega) r4 (by omega) hk r5 (fun z => (r7 z).1) (fun l hl => by rw [r8 l (by omega), if_pos hl]) (fun l hl => (hcd l hl).1) (fun l hl => (hcd l hl).2) (fun s hs => by
        rcases dB k s with e | e
        · rw [e]
          exact m6 s hs
        · omega) (fun t ht s hs => by
        rcases dB t s with e | e
        · rw [e]
          exact m7 t ht s hs
        · omega))
      refine jw_up (x := kc5 n d2) (y := kr5 n (nI k) nm q) ?_ (fun Q h => ?_) (fun Q h => h)
      rotate_left
      · show wp (Option.bind (d_267 n k (1200 + d.1 7 4) d) (kc5 n)) Q
        rw [hd74, e12]
        exact wpe hd2 h
      have s2 : sx (fun A l => decide ((A = kA k + 5) ∨ (A = 145 ∧ l = 7) ∨ (A = 133 ∧ (l = 11 ∨ l = 13)) ∨ ((A = 142 ∨ A = 143 ∨ A = 144) ∧ l = 1200 + k) ∨ (134 ≤ A ∧ A ≤ 138 ∧ U ≤ l) ∨ (139 ≤ A ∧ A ≤ 141 ∧ U * 4 ≤ l))) w6 d2 := by
        refine sx_trans (sx_wide a6 ?_) (sx_wide f1 ?_)
        all_goals
          intro A l z
          have := of_decide_eq_false z
          exact decide_eq_false (by omega)
      have dd : ∀ A l, A ≠ kA k + 5 → d2.1 A l = d.1 A l ∧ d2.2 A l = d.2 A l := fun A l z => ⟨f1.1 _ _ (decide_eq_false z), f1.2 _ _ (decide_eq_false z)⟩
      have hk5 : kA k + 5 < 120 ∧ 42 ≤ kA k := by unfold kA; omega
      have hV2 : ENV d2 q oc k mc cc := ENV_k a5 (fun A l z => dd A l (by unfold kcR at z; unfold kA at *; omega)) (fun A l z => ⟨rfl, rfl⟩)
      have hQr : ∀ A l, qRr (1200 + k) A l = false → q.1 A l = v6.1 A l ∧ q.2 A l = v6.2 A l := fun A l z => ⟨a7.1 _ _ z, a7.2 _ _ z⟩
      refine kd5 (m := m) (B1 := B1) (B2 := B2) hk (PSI_sx a3 f1 (show sx (fun _ _ => false) _ _ from sx_rfl) (fun A l z => decide_eq_false (by omega)) (fun _ _ _ => rfl)) hV2 (by omega) (KST_cg hS6 (fun A l z => ?_) (fun A l z => hQr _ _ (decide_eq_false (by omega)))) ?_ ?_ ?_ ?_ (RWR_k (RWR_of ⟨⟨r1, r2, r3, r4, r5, r6, r7, r8, r9⟩, r10⟩ (by omega)) (ENB_of a5) (fun A l z => dd A l (by unfold rcR at z; omega)) (fun A l z => ⟨rfl, rfl⟩) (fun A l z1 z2 z => ⟨rfl, rfl⟩)) ?_ ?_ ?_ ?_ f3 ?_ ?_
      · have : decide ((A = kA k + 5) ∨ (A = 145 ∧ l = 7) ∨ (A = 133 ∧ (l = 11 ∨ l = 13)) ∨ ((A = 142 ∨ A = 143 ∨ A = 144) ∧ l = 1200 + k) ∨ (134 ≤ A ∧ A ≤ 138 ∧ U ≤ l) ∨ (139 ≤ A ∧ A ≤ 141 ∧ U * 4 ≤ l)) = false := decide_eq_false (by omega)
        exact ⟨s2.1 _ _ this, s2.2 _ _ this⟩
      · rw [s2.1 _ _ (decide_eq_false (by omega))]
        exact b1
      · rw [(hQr _ _ (decide_eq_false (by omega))).1]
        exact b2
      · rw [s2.1 _ _ (decide_eq_false (by omega))]
        exact b3
      · rw [(hQr _ _ (decide_eq_false (by omega))).1]
        exact b4
      · rw [(dd _ _ (by omega)).1]
        exact r1
      · rw [(dd _ _ (by omega)).1]
        exact r2
      · rw [(dd _ _ (by omega)).1]
        exact r3
      · rw [show cdX d2 U = cdX d U from funext fun l => by unfold cdX; rw [(dd _ _ (by omega)).1]]
        exact f2
      · exact sx_trans sc6 (sx_wide s2 (fun A l z => by
          have := of_decide_eq_false z
          exact decide_eq_false (by omega)))
      · exact sx_trans su6 (sx_wide a7 (fun A l z => by
          have := of_decide_eq_false z
          exact decide_eq_false (by omega)))
    · exact wp_of rfl (kr5_w hk hf.2.2.1 (fun q' hq => Or.inr ⟨z, rfl, qKw_F (FLR_tr hf (qKc_c hk sc6) (qKu_u su6)) hq⟩))
/-- where it may stand -/
theorem kd3 (hn : 10000 ≤ n) (hk : k < 12) (hP : PSI K P V N w v j) (hj : j0 ≤ j) (hU : 2 * U ≤ j) (h0 : w.2 (kA k) 0 = nm) (hB : MBD w v k p) (h6 : w.1 (kA k) 6 = nI 15) (hM : KMR w v oc k mc cc U) (sc : sx (qKc k U) w0 w) (su : sx (qKu k) v0 v) : jw (kc3 n k w) (kr3 n (nI k) nm v) (KP4 K P V N w0 v0 oc k U j0 nm) := by
  have hik : ib (nI k) 12 := ib_n hk (by decide)
  have ek : ix (nI k) = k := ix_n (by omega)
  have hP1 : PSI K P V N w (pI v 195 k 15) j := PSI_sx hP (show sx (fun _ _ => false) _ _ from sx_rfl) (sx_pI (r := fun A _ => decide (A = 195)) sx_rfl (decide_eq_true rfl)) (fun _ _ _ => rfl) (fun A l z => decide_eq_false (by omega))
  obtain ⟨B, j1, w1, v1, x1, x2, x3, x4, x5, x6, -, -, -⟩ := opt_w (n := n) (b := 8) hP1 (by decide)
  have t1 : sx (fun A l => decide ((A = 174 ∧ l = 67) ∨ (A = 195 ∧ l = k))) v v1 := sx_trans (sx_pI sx_rfl (decide_eq_true (by omega))) (sx_wide x6 (fun A l z => by
      have := of_decide_eq_false z
      exact decide_eq_false (by omega)))
  have nxt : ∀ {w2 v2 : cS} {j2 b : Nat}, b < 16 → w2.1 (kA k) 6 = nI b → v2.1 195 k = nI b → PSI K P V N w2 v2 j2 → j1 ≤ j2 → sx (qSRc k) w w2 → sx (qSRu k) v v2 → jw (kc4 n k w2) (kr4 n (nI k) nm v2) (KP4 K P V N w0 v0 oc k U j0 nm) := fun {w2 v2 j2 b} a1 a2 a3 a4 a5 a6 a7 => by
    have hc : ∀ A l, ¬ ((A = 145 ∧ l = 7) ∨ (A = kA k ∧ l = 6)) → w2.1 A l = w.1 A l ∧ w2.2 A l = w.2 A l := fun A l z => ⟨a6.1 _ _ (decide_eq_false z), a6.2 _ _ (decide_eq_false z)⟩
    have hu : ∀ A l, ¬ ((A = 174 ∧ l = 67) ∨ (A = 195 ∧ l = k)) → v2.1 A l = v.1 A l ∧ v2.2 A l = v.2 A l := fun A l z => ⟨a7.1 _ _ (decide_eq_false z), a7.2 _ _ (decide_eq_false z)⟩
    refine kd4 (b := b) (p := p) hn hk a4 (by omega) (by omega) ⟨?_, MBD_c2 hB (fun A l z => hc A l (by unfold kA at *; omega)) (fun A l z => hu A l (by omega)), a1, a2, a3⟩ (KMR_cg hM hk (fun A l z => hc A l (by unfold kcR at z; unfold kA at *; omega)) (fun A l z => hu A l (by unfold kuR at z; omega))) (sx_trans sc (sx_wide a6 (fun A l z => ?_))) (sx_trans su (sx_wide a7 (fun A l z => ?_)))
    · rw [(hc _ _ (by unfold kA; omega)).2]
      exact h0
    · have := of_decide_eq_false z
      exact decide_eq_false (by omega)
    · have := of_decide_eq_false z
      exact decide_eq_false (by omega)
  have sw1 : sx (qSRc k) w w1 := sx_wide x5 (fun A l z => by
    have := of_decide_eq_false z
    exact decide_eq_false (by omega))
  cases B with
  | false =>
    refine jw_up (nxt (b := 15) (by omega) ?_ ?_ x4 (Nat.le_refl _) sw1 t1) (fun Q h => ?_) (fun Q h => ?_)
    · rw [x5.1 _ _ (decide_eq_false (by unfold kA; omega))]
      exact h6
    · rw [x6.1 _ _ (decide_eq_false (by omega)), rI, if_pos ⟨rfl, rfl⟩]
      rfl
    · unfold kc3
      exact wpe x1 (wpj (wpt rfl h))
    · unfold kr3
      rw [ek]
      exact wpt hik (wpl (wpe x2 (wpj (wpt rfl h))))
  | true =>
    have hP3 : PSI K P V N (pI w1 (kA k) 6 0) (pI v1 195 k 0) j1 := PSI_sx x4 (sx_pI (r := fun A _ => decide (A = kA k)) sx_rfl (decide_eq_true rfl)) (sx_pI (r := fun A _ => decide (A = 195)) sx_rfl (decide_eq_true rfl)) (fun A l z => decide_eq_false (by unfold kA; omega)) (fun A l z => decide_eq_false (by omega))
    obtain ⟨d, q, y1, y2, i2, b, y3, y4, y5, y6, y7, y8, y9⟩ := jw_ex (sor_lp (n := n) hn hk hP3 (by rw [rI, if_pos ⟨rfl, rfl⟩]; rfl) (by rw [rI, if_pos ⟨rfl, rfl⟩]; rfl))
    have sd : sx (qSRc k) w d := sx_trans sw1 (sx_trans (sx_pI sx_rfl (decide_eq_true (by omega))) y8)
    have sq : sx (qSRu k) v q := sx_trans t1 (sx_trans (sx_pI sx_rfl (decide_eq_true (by omega))) y9)
    by_cases eb : b = 0
    · have hbi : nI b = 0 := by rw [eb]; rfl
      refine wp_of (a := .inr (flC d 2 (nI (P i2)))) ?_ ?_
      · unfold kc3
        refine eq_wp (wpe x1 (wpj (wpf (show ¬ bI true = 0 by decide) ?_)))
        refine wpe (a := (Sum.inr (flC d 2 (nI (P i2))) : cS ⊕ cS)) ?_ (wpSr rfl)
        rw [d266_s]
        refine eq_wp (wpl (wpe y1 (wpj (wpt (by rw [y6]; exact hbi) (wpe (e42 y4) (wpe e41 (wpSr rfl)))))))
      · have f1 := (flt_at (u := q) (a := 2) (f := nI (P i2))).1
        unfold kr3
        rw [ek]
        refine wpt hik (wpl (wpe x2 (wpj (wpf (show ¬ bI true = 0 by decide) (wpt hik (wpl (wpe y2 (wpt hik (wpt (by rw [y7]; exact hbi) (wpe (e103 y4) (kr4_w hk f1 (fun q' hq => Or.inr ⟨_, rfl, qKw_F (FLR_of (qKc_c hk (sx_trans sc (sx_wide sd (fun A l z => ?_)))) (qKu_u (sx_trans su (sx_wide sq (fun A l z => ?_))))) hq⟩))))))))))))
        · have := of_decide_eq_false z
          exact decide_eq_false (by omega)
        · have := of_decide_eq_false z
          exact decide_eq_false (by omega)
    · have hbi : ¬ nI b = 0 := fun z => eb ((nI_eq (by omega) (by decide)).mp (show _ = nI 0 from z))
      refine jw_up (nxt (b := b) y5 y6 y7 y4 y3 sd sq) (fun Q h => ?_) (fun Q h => ?_)
      · unfold kc3
        refine wpe x1 (wpj (wpf (show ¬ bI true = 0 by decide) ?_))
        refine wpe (a := (Sum.inl d : cS ⊕ cS)) ?_ (wpSl h)
        rw [d266_s]
        exact eq_wp (wpl (wpe y1 (wpj (wpf (by rw [y6]; exact hbi) rfl))))
      · unfold kr3
        rw [ek]
        exact wpt hik (wpl (wpe x2 (wpj (wpf (show ¬ bI true = 0 by decide) (wpt hik (wpl (wpe y2 (wpt hik (wpf (by rw [y7]; exact hbi) h)))))))))
end KD3
