/-! READING the head of a METHOD: whole -/
section MHG
variable {n i j j0 N k q M p0 t m U U0 tot oc kc mc : Nat} {c d u w v c0 u0 : cS} {K P : Nat → Nat} {V : Nat → Int64} {nm : Int64}
theorem MH0_sx (h : MH0 w v k q M tot) {w' v' : cS} (hc : sx (qTh M p0 U) w w') (hu : sx (qTg M p0) v v') : MH0 w' v' k q M tot := by
  obtain ⟨x1, x2, x3, x4, x5, x6, x7⟩ := h
  exact ⟨by rw [hc.2 _ _ (decide_eq_false (by omega)), hu.2 _ _ (decide_eq_false (by omega))]; exact x1, by rw [hc.1 _ _ (decide_eq_false (by omega))]; exact x2, by rw [hc.1 _ _ (decide_eq_false (by omega))]; exact x3, by rw [hu.1 _ _ (decide_eq_false (by omega))]; exact x4, by rw [hc.1 _ _ (decide_eq_false (by omega))]; exact x5, by rw [hu.1 _ _ (decide_eq_false (by omega))]; exact x6, by rw [hc.1 _ _ (decide_eq_false (by omega))]; exact x7⟩
theorem qTh_w (h : sx (qTh M p0 U) c d) : sx (qWh k M p0 U) c d := sx_wide h (fun A j z => by
  have := of_decide_eq_false z
  exact decide_eq_false (by omega))
theorem qTg_w (h : sx (qTg M p0) u d) : sx (qWg k M p0) u d := sx_wide h (fun A j z => by
  have := of_decide_eq_false z
  exact decide_eq_false (by omega))
theorem mhd4 (hn : 10000 ≤ n) (hk : k < 12) (hM : M < 96) (hp : p0 + 4 < 1200) (h156 : d_156 n (nI M) = some (nI p0)) (hP : PSI K P V N w v j) (hj : j0 ≤ j) (hU : 2 * U ≤ j) (hS : PMS w v k M p0 0 oc kc mc U) (hH : MH0 w v k q M tot) (sc : sx (qWh k M p0 U) c0 w) (su : sx (qWg k M p0) u0 v) : HDX c0 u0 (MHP K P V N c0 u0 oc kc mc k q M p0 U tot j0) (mC4 n w) (mR4 n (nI k) (nI M) (nI p0) v) (mR8 n (nI M)) := by
  have hkK := PSI_K hP
  have h101 := e101 (n := n) (b := 41) hP (by decide) (by decide)
  have h43 := e43 (n := n) hP
  by_cases e : K j = 41
  · rw [if_pos e] at h101
    have hw1 : whl (pmC n) n (0, 0, w) = some (.inl w) := by
      obtain ⟨a, ha⟩ : ∃ a, n = a + 1 := ⟨n - 1, by omega⟩
      have h2 : whl (pmC n) (a + 1) (0, 0, w) = some (.inl w) := whl_out rfl
      rw [← ha] at h2
      exact h2
    refine HDX_up (mhd5 hn hk hM hp h156 hP hj hU (Nat.le_refl _) hS hH sc su) (fun Q h => ?_) (fun Q h => ?_)
    · unfold mC4
      exact wpe h43 (wpj (wpt (by rw [e]; rfl) (wpe hw1 (wpSl h))))
    · unfold mR4
      exact wpe h101 (wpj (wpf (show ¬ (1 : Int32) = 0 by decide) h))
  · rw [if_neg e] at h101
    obtain ⟨r, s, y1, y2, y3⟩ := jw_ex (prm_lp (c0 := w) (u0 := v) hn hM hp h156 hP hU (Nat.le_refl _) hS sx_rfl sx_rfl)
    have hX : ∀ {Q : cS ⊕ cS → Prop}, wp (Sum.elim (mC5 n) (fun x69 => some x69) r) Q → wp (mC4 n w) Q := fun {Q} h => by
      unfold mC4
      exact wpe h43 (wpj (wpf (fun z => e ((nI_eq (by omega) (by decide)).mp (show _ = nI 41 from z))) (wpe y1 h)))
    have hY : ∀ {Q : cS → Prop}, wp (mR5 n (nI k) (nI M) (nI p0) s) Q → wp (mR4 n (nI k) (nI M) (nI p0) v) Q := fun {Q} h => by
      unfold mR4
      exact wpe h101 (wpj (wpt rfl (wpe y2 h)))
    rcases y3 with ⟨d, rfl, i', t', U', z1, z2, z3, z4, z5, z6, z7⟩ | ⟨z, rfl, hf⟩
    · exact HDX_up (mhd5 (U0 := U) hn hk hM hp h156 z2 (by omega) z4 z5 z3 (MH0_sx hH z6 z7) (sx_trans sc (qTh_w z6)) (sx_trans su (qTg_w z7))) (fun Q h => hX h) (fun Q h => hY h)
    · exact Or.inr ⟨z, s, eq_wp (hX rfl), eq_wp (hY (wp_of (mR5_w hf.2.2.1) rfl)), FLR_tr hf (qWh_c sc) (qWg_u su)⟩
theorem mhd2 (hn : 10000 ≤ n) (hk : k < 12) (hq : q < 8) (hM : M = 8 * k + q) (hp : p0 = 100 * k + 20 + 10 * q) (hP : PSI K P V N w v j) (hj : j0 ≤ j) (hU : 2 * U ≤ j) (h8 : w.1 145 8 = nI k) (h17 : w.1 17 k = nI q) (h203 : v.1 203 k = nI q) (h7 : w.1 114 7 = nI tot) (hV : ENV w v oc kc mc 0) (h11 : w.1 133 11 = nI U) (h12 : w.1 133 12 = nM) (h13 : w.1 133 13 = nI U) (h144 : ∀ r, p0 ≤ r → r ≤ p0 + 4 → w.1 144 r = nI 0) (sc : sx (qWh k M p0 U) c0 w) (su : sx (qWg k M p0) u0 v) : HDX c0 u0 (MHP K P V N c0 u0 oc kc mc k q M p0 U tot j0) (mC2 n (nI q) (nm, w)) (mR2 n (nI k) nm v) (mR8 n (nI M)) := by
  have hik : ib (nI k) 12 := ib_n hk (by decide)
  have ek : ix (nI k) = k := ix_n (by omega)
  have hM9 : M < 96 := by omega
  have hiM : ib (nI M) 96 := ib_n hM9 (by decide)
  have eM : ix (nI M) = M := ix_n (by omega)
  have e8 : (8 : Int32) * nI k + nI q = nI M := by rw [show (8 : Int32) = nI 8 from rfl, pk_mul, nI_add, hM]
  have e8' : nI k * 8 + nI q = nI M := by rw [show (8 : Int32) = nI 8 from rfl, pk_mul, nI_add, hM, Nat.mul_comm]
  have ep : (100 : Int32) * nI k + 20 + 10 * nI q = nI p0 := by rw [show (100 : Int32) = nI 100 from rfl, show (20 : Int32) = nI 20 from rfl, show (10 : Int32) = nI 10 from rfl, pk_mul, pk_mul, nI_add, nI_add, hp]
  have h156 : d_156 n (nI M) = some (nI p0) := by
    rw [hM, hp, Nat.mul_comm 8 k]
    exact e156 (by omega) hq
  have hkc := hV.1.2.1
  obtain ⟨w1, hw1⟩ : ∃ w1, w1 = pI (pI (pI (pI (pI (pL (pI w 145 9 (nI M)) 115 M nm) 116 M 0) 117 M 0) 119 M (nI tot)) 120 M 0) 17 k (nI (q + 1)) := ⟨_, rfl⟩
  have s1 : sx (fun A l => decide ((A = 145 ∧ l = 9) ∨ (A = 17 ∧ l = k) ∨ ((115 ≤ A ∧ A ≤ 120 ∧ A ≠ 118) ∧ l = M))) w w1 := by
    rw [hw1]
    exact sx_pI (sx_pI (sx_pI (sx_pI (sx_pI (sx_pL (sx_pI sx_rfl (decide_eq_true (by omega))) (decide_eq_true (by omega))) (decide_eq_true (by omega))) (decide_eq_true (by omega))) (decide_eq_true (by omega))) (decide_eq_true (by omega))) (decide_eq_true (by omega))
  have cf : ∀ A l, ¬ ((A = 145 ∧ l = 9) ∨ (A = 17 ∧ l = k) ∨ ((115 ≤ A ∧ A ≤ 120 ∧ A ≠ 118) ∧ l = M)) → w1.1 A l = w.1 A l ∧ w1.2 A l = w.2 A l := fun A l z => ⟨s1.1 _ _ (decide_eq_false z), s1.2 _ _ (decide_eq_false z)⟩
  have hP1 : PSI K P V N w1 v j := PSI_sx hP s1 (show sx (fun _ _ => false) _ _ from sx_rfl) (fun A l z => decide_eq_false (by omega)) (fun _ _ _ => rfl)
  have sc1 : sx (qWh k M p0 U) c0 w1 := sx_trans sc (sx_wide s1 (fun A l z => by
    have := of_decide_eq_false z
    exact decide_eq_false (by omega)))
  have hX : ∀ {r : cS ⊕ cS} {Q : cS ⊕ cS → Prop}, d_257 n 40 w1 = some r → wp (Sum.elim (mC4 n) (fun z36 => some (.inr z36)) r) Q → wp (mC2 n (nI q) (nm, w)) Q := fun {r Q} h1 h2 => by
    have b1 : (pI w 145 9 (nI M)).1 145 9 = nI M := by rw [rI, if_pos ⟨rfl, rfl⟩]
    have b2 : (pL (pI w 145 9 (nI M)) 115 M nm).1 145 9 = nI M := b1
    have b3 : (pI (pL (pI w 145 9 (nI M)) 115 M nm) 116 M 0).1 145 9 = nI M := by rw [rI, if_neg (by omega)]; exact b1
    have b4 : (pI (pI (pL (pI w 145 9 (nI M)) 115 M nm) 116 M 0) 117 M 0).1 145 9 = nI M := by rw [rI, if_neg (by omega)]; exact b3
    have b5 : (pI (pI (pL (pI w 145 9 (nI M)) 115 M nm) 116 M 0) 117 M 0).1 114 7 = nI tot := by
      rw [rI, if_neg (by omega), rI, if_neg (by omega)]
      show (pI w 145 9 (nI M)).1 114 7 = _
      rw [rI, if_neg (by omega)]
      exact h7
    have b6 : (pI (pI (pI (pL (pI w 145 9 (nI M)) 115 M nm) 116 M 0) 117 M 0) 119 M (nI tot)).1 145 9 = nI M := by rw [rI, if_neg (by omega)]; exact b4
    have b7 : (pI (pI (pI (pI (pL (pI w 145 9 (nI M)) 115 M nm) 116 M 0) 117 M 0) 119 M (nI tot)) 120 M 0).1 145 8 = nI k := by
      rw [rI, if_neg (by omega), rI, if_neg (by omega), rI, if_neg (by omega), rI, if_neg (by omega)]
      show (pI w 145 9 (nI M)).1 145 8 = _
      rw [rI, if_neg (by omega)]
      exact h8
    have b8 : (pI (pI (pI (pI (pL (pI w 145 9 (nI M)) 115 M nm) 116 M 0) 117 M 0) 119 M (nI tot)) 120 M 0).1 17 k = nI q := by
      rw [rI, if_neg (by omega), rI, if_neg (by omega), rI, if_neg (by omega), rI, if_neg (by omega)]
      show (pI w 145 9 (nI M)).1 17 k = _
      rw [rI, if_neg (by omega)]
      exact h17
    unfold mC2
    dsimp only
    rw [h8, e8']
    refine wpl ?_
    rw [b1, eM]
    refine wpt hiM (wpl ?_)
    rw [b2, eM]
    refine wpt hiM (wpl ?_)
    rw [b3, eM]
    refine wpt hiM (wpl ?_)
    rw [b4, eM, b5]
    refine wpt hiM (wpl ?_)
    rw [b6, eM]
    refine wpt hiM (wpl ?_)
    rw [b7, ek, b8, nI_1]
    refine wpt hik (wpt hik (wpl ?_))
    rw [← hw1]
    exact wpe h1 h2
  rcases exp_s (n := n) (b := 40) hP1 (by decide) (by decide) with ⟨y1, y2, y3⟩ | ⟨y1, y2⟩
  rotate_left
  · refine Or.inr ⟨flC w1 2 (nI (P j)), flt v 2 (nI (P j)), eq_wp (hX y1 rfl), ?_, FLR_of (qWh_c sc1) (qWg_u su)⟩
    unfold mR2
    exact eq_wp (wpe y2 (wpf (ne13 flt_at.1) rfl))
  obtain ⟨w2, hw2⟩ : ∃ w2, w2 = atC w1 (j + 1) := ⟨_, rfl⟩
  obtain ⟨v2, hv2⟩ : ∃ v2, v2 = pI (pI (pI (pL (atR v (j + 1)) 206 M nm) 207 M 0) 208 M 0) 210 M 0 := ⟨_, rfl⟩
  rw [← hw2] at y1
  have g203 : (atR v (j + 1)).1 203 k = nI q := by
    unfold atR
    rw [rI, if_neg (by omega)]
    exact h203
  have hY : ∀ {Q : cS → Prop}, wp (mR4 n (nI k) (nI M) (nI p0) v2) Q → wp (mR2 n (nI k) nm v) Q := fun {Q} h => by
    unfold mR2
    refine wpe y2 (wpt y3.2.2.2.2 ?_)
    rw [ek, g203, e8, ep]
    refine wpt hik (wpl (wpt hik (wpl ?_)))
    rw [eM]
    refine wpt hiM (wpl (wpt hiM (wpl (wpt hiM (wpl (wpt hiM (wpl ?_)))))))
    rw [← hv2]
    exact h
  have t2 : sx (fun A l => decide ((A = 206 ∨ A = 207 ∨ A = 208 ∨ A = 210) ∧ l = M)) (atR v (j + 1)) v2 := by
    rw [hv2]
    exact sx_pI (sx_pI (sx_pI (sx_pL sx_rfl (decide_eq_true (by omega))) (decide_eq_true (by omega))) (decide_eq_true (by omega))) (decide_eq_true (by omega))
  have hP2 : PSI K P V N w2 v2 (j + 1) := by
    rw [hw2]
    exact PSI_sx y3 (show sx (fun _ _ => false) _ _ from sx_rfl) t2 (fun _ _ _ => rfl) (fun A l z => decide_eq_false (by omega))
  have c2 : ∀ A l, ¬ (A = 145 ∧ l = 7) → w2.1 A l = w1.1 A l := fun A l z => by
    rw [hw2]
    unfold atC
    rw [rI, if_neg z]
  have cl : ∀ A l, w2.2 A l = w1.2 A l := fun A l => by
    rw [hw2]
    rfl
  have uf : ∀ A l, ¬ (A = 174 ∧ l = 67) → ¬ ((A = 206 ∨ A = 207 ∨ A = 208 ∨ A = 210) ∧ l = M) → v2.1 A l = v.1 A l ∧ v2.2 A l = v.2 A l := fun A l z z' => ⟨by
    rw [t2.1 _ _ (decide_eq_false z')]
    unfold atR
    rw [rI, if_neg z], by
    rw [t2.2 _ _ (decide_eq_false z')]
    rfl⟩
  have hV2 : ENV w2 v2 oc kc mc 0 := ENV_k hV (fun A l z => ⟨by unfold kcR kA at z; rw [c2 _ _ (by omega), (cf _ _ (by omega)).1], by unfold kcR kA at z; rw [cl, (cf _ _ (by omega)).2]⟩) (fun A l z => uf A l (by unfold kuR at z; omega) (by unfold kuR at z; omega))
  have hS2 : PMS w2 v2 k M p0 0 oc kc mc U := by
    refine ⟨⟨?_, ?_⟩, ⟨by omega, ?_, ?_, ?_, ?_⟩, fun l hl => absurd hl (Nat.not_lt_zero _), hV2, ⟨?_, ?_, ?_⟩, fun l hl => absurd hl (Nat.not_lt_zero _), fun r z1 z2 z3 => ?_⟩
    · rw [c2 _ _ (by omega), (cf _ _ (by omega)).1]
      exact h8
    · rw [c2 _ _ (by omega), hw1, rI, if_neg (by omega), rI, if_neg (by omega), rI, if_neg (by omega), rI, if_neg (by omega), rI, if_neg (by omega)]
      show (pI w 145 9 (nI M)).1 145 9 = _
      rw [rI, if_pos ⟨rfl, rfl⟩]
    · rw [c2 _ _ (by omega), hw1, rI, if_neg (by omega), rI, if_neg (by omega), rI, if_neg (by omega), rI, if_neg (by omega), rI, if_pos ⟨rfl, rfl⟩]
      rfl
    · rw [c2 _ _ (by omega), hw1, rI, if_neg (by omega), rI, if_neg (by omega), rI, if_neg (by omega), rI, if_pos ⟨rfl, rfl⟩]
      rfl
    · rw [hv2, rI, if_neg (by omega), rI, if_neg (by omega), rI, if_pos ⟨rfl, rfl⟩]
      rfl
    · rw [hv2, rI, if_neg (by omega), rI, if_pos ⟨rfl, rfl⟩]
      rfl
    · rw [c2 _ _ (by omega), (cf _ _ (by omega)).1]
      exact h11
    · rw [c2 _ _ (by omega), (cf _ _ (by omega)).1]
      exact h12
    · rw [c2 _ _ (by omega), (cf _ _ (by omega)).1]
      exact h13
    · rw [c2 _ _ (by omega), (cf _ _ (by omega)).1]
      exact h144 r z1 z2
  have hH2 : MH0 w2 v2 k q M tot := by
    refine ⟨?_, ?_, ?_, ?_, ?_, ?_, ?_⟩
    · rw [cl, hw1, hv2]
      show (pL (pI w 145 9 (nI M)) 115 M nm).2 115 M = (pL (atR v (j + 1)) 206 M nm).2 206 M
      rw [rL, if_pos ⟨rfl, rfl⟩, rL, if_pos ⟨rfl, rfl⟩]
    · rw [c2 _ _ (by omega), hw1, rI, if_neg (by omega), rI, if_neg (by omega), rI, if_pos ⟨rfl, rfl⟩]
    · rw [c2 _ _ (by omega), hw1, rI, if_neg (by omega), rI, if_pos ⟨rfl, rfl⟩]
      rfl
    · rw [hv2, rI, if_pos ⟨rfl, rfl⟩]
      rfl
    · rw [c2 _ _ (by omega), hw1, rI, if_pos ⟨rfl, rfl⟩]
    · rw [(uf _ _ (by omega) (by omega)).1]
      exact h203
    · rw [c2 _ _ (by omega), (cf _ _ (by omega)).1]
      exact h7
  refine HDX_up (mhd4 (q := q) (tot := tot) (j0 := j0) hn hk hM9 (by omega) h156 hP2 (by omega) (by omega) hS2 hH2 ?_ ?_) (fun Q h => hX y1 (by rw [Sum.elim_inl]; exact h)) (fun Q h => hY h)
  · rw [hw2]
    exact sx_pI sc1 (decide_eq_true (by omega))
  · rw [hv2]
    exact sx_pI (sx_pI (sx_pI (sx_pL (sx_pI su (decide_eq_true (by omega))) (decide_eq_true (by omega))) (decide_eq_true (by omega))) (decide_eq_true (by omega))) (decide_eq_true (by omega))
theorem mhd_go (hn : 10000 ≤ n) (hk : k < 12) (hq : q ≤ 8) (hM : M = 8 * k + q) (hp : p0 = 100 * k + 20 + 10 * q) (hP : PSI K P V N c u i) (hK : K i = 204) (h8 : c.1 145 8 = nI k) (h17 : c.1 17 k = nI q) (h203 : u.1 203 k = nI q) (h115 : ∀ j, j < q → c.2 115 (k * 8 + j) = u.2 206 (8 * k + j)) (h7 : c.1 114 7 = nI tot) (hV : ENV c u oc kc mc 0) (hU : 2 * U ≤ i) (h11 : c.1 133 11 = nI U) (h12 : c.1 133 12 = nM) (h13 : c.1 133 13 = nI U) (h144 : q < 8 → ∀ r, p0 ≤ r → r ≤ p0 + 4 → c.1 144 r = nI 0) : HDX c u (fun d v => q < 8 ∧ MHP K P V N c u oc kc mc k q M p0 U tot i d v) (d_271 n c) (d_405 n (nI k) (atR u (i + 1))) (mR8 n (nI M)) := by
  have hP1 := PSI_s hP (by omega)
  have hkK := PSI_K hP1
  have hkc := hV.1.2.1
  have c1f : ∀ A l, ¬ (A = 145 ∧ l = 7) → (atC c (i + 1)).1 A l = c.1 A l := fun A l z => by
    unfold atC
    rw [rI, if_neg z]
  have u1f : ∀ A l, ¬ (A = 174 ∧ l = 67) → (atR u (i + 1)).1 A l = u.1 A l := fun A l z => by
    unfold atR
    rw [rI, if_neg z]
  have h159 := s159 (n := n) (c := atC c (i + 1)) (u := atR u (i + 1)) (nm := (atC c (i + 1)).2 5 (i + 1)) (by omega) hk hq (by rw [c1f _ _ (by omega)]; exact h17) h115
  have hC : ∀ Q : cS ⊕ cS → Prop, wp (Option.bind (d_260 n (bI (dpS (atR u (i + 1)) 206 k q ((atC c (i + 1)).2 5 (i + 1))).isSome) (bI (decide (q = 8))) (atC c (i + 1))) (Sum.elim (mC2 n (nI q)) (fun z6 => some (.inr z6)))) Q → wp (d_271 n c) Q := fun Q h => by
    rw [d271_s, hP.2.2.1, nI_1]
    refine wpl ?_
    have e8 : (pI c 145 7 (nI (i + 1))).1 145 8 = nI k := by
      rw [rI, if_neg (by omega)]
      exact h8
    have e17 : (pI c 145 7 (nI (i + 1))).1 17 k = nI q := by
      rw [rI, if_neg (by omega)]
      exact h17
    have e7 : (pI c 145 7 (nI (i + 1))).1 145 7 = nI (i + 1) := by
      rw [rI, if_pos ⟨rfl, rfl⟩]
    rw [e8, show ix (nI k) = k from ix_n (by omega), e17, e7, show ix (nI (i + 1)) = i + 1 from ix_n (by omega)]
    refine wpt (ib_n hk (by decide)) (wpl (wpt (ib_n (by omega) (by decide)) (wpe h159 (wpj ?_))))
    have hin : ∀ {y : Int32}, y = bI (dpS (atR u (i + 1)) 206 k q ((atC c (i + 1)).2 5 (i + 1))).isSome → wp (jn (fun p10 : Int32 =>
      Option.bind (d_260 n y p10 (pI c 145 7 (nI (i + 1)))) (Sum.elim (mC2 n (nI q))
      (fun z12 => some (.inr z12))))
    (fun j66 =>
    if nI q < 8 then
      j66 0
    else
      j66 1)) Q := fun {y} hy => by
      rw [hy]
      refine wpj ?_
      by_cases e : q = 8
      · rw [decide_eq_true e] at h
        exact wpf (by rw [e]; decide) h
      · rw [decide_eq_false e] at h
        exact wpt (by simp (disch := first | omega | decide) only [↓neg1, nlit, rI, rL, rI2, rL1, nI_add, pk_mul, sbT, dvT, nmd, ixT, ↓ibT, ltT, ltF, leT, leF, eqT, eqF, nM_ltT, nM_ltF, nM_leT, nM_leF, nM_eqF, nM_eqF', nbT0, nbT1, oI_s, oI_n, natF, natT, nltT, nltF, nleT, nleF, ↓reduceIte, lgc, not_true_eq_false, not_false_eq_true, or_false, false_or, or_true, true_or, and_true, true_and, and_false, false_and, ne_eq, eq_self, or_self, and_self]) h
    cases ed : dpS (atR u (i + 1)) 206 k q ((atC c (i + 1)).2 5 (i + 1)) with
    | none => exact wpt (show nM < 0 by decide) (hin (by rw [ed]; rfl))
    | some l =>
      have := (ff_some ed).1
      exact wpf (nI_pos (by omega)) (hin (by rw [ed]; rfl))
  rcases nw_go (n := n) (rest := mR2 n (nI k)) (A := 203) (B := 206) (aM := 12) (bM := 96) (a := k) (f := q) (L := 8) (by omega) hP1 (fun nm p h => mR2_w h) hk (by omega) (by omega) (by omega) hq (by omega) (by rw [u1f _ _ (by omega)]; exact h203) (by omega) with ⟨x1, x2, x3, x4, x5, x6, x7⟩ | ⟨z, s, x1, x2, x3⟩
  · have hq8 : q < 8 := by omega
    have cf : ∀ A l, ¬ (A = 145 ∧ l = 7) → (atC (atC c (i + 1)) (i + 1 + 1)).1 A l = c.1 A l := fun A l z => by
      unfold atC
      rw [rI, if_neg z, rI, if_neg z]
    have uf : ∀ A l, ¬ (A = 174 ∧ l = 67) → (atR (atR u (i + 1)) (i + 1 + 1)).1 A l = u.1 A l := fun A l z => by
      unfold atR
      rw [rI, if_neg z, rI, if_neg z]
    have hV2 : ENV (atC (atC c (i + 1)) (i + 1 + 1)) (atR (atR u (i + 1)) (i + 1 + 1)) oc kc mc 0 := ENV_k hV (fun A l z => ⟨cf A l (by unfold kcR kA at z; omega), rfl⟩) (fun A l z => ⟨uf A l (by unfold kuR at z; omega), rfl⟩)
    have h2 := mhd2 (n := n) (j0 := i) (U := U) (c0 := c) (u0 := u) (nm := V (i + 1)) hn hk hq8 hM hp x7 (by omega) (by omega) (by rw [cf _ _ (by omega)]; exact h8) (by rw [cf _ _ (by omega)]; exact h17) (by rw [uf _ _ (by omega)]; exact h203) (by rw [cf _ _ (by omega)]; exact h7) hV2 (by rw [cf _ _ (by omega)]; exact h11) (by rw [cf _ _ (by omega)]; exact h12) (by rw [cf _ _ (by omega)]; exact h13) (fun r z1 z2 => by rw [cf _ _ (by omega)]; exact h144 hq8 r z1 z2) (sx_pI (sx_pI sx_rfl (decide_eq_true (by omega))) (decide_eq_true (by omega))) (sx_pI (sx_pI sx_rfl (decide_eq_true (by omega))) (decide_eq_true (by omega)))
    exact HDX_mono (HDX_up h2 (fun Q h => hC Q (wpe x5 (wpSl h))) (fun Q h => x6 Q h)) (fun d v h => ⟨hq8, h⟩)
  · exact Or.inr ⟨z, s, eq_wp (hC _ (wpe x1 (wpSr rfl))), x2, FLR_tr x3 atC_sx atR_sx⟩
end MHG
