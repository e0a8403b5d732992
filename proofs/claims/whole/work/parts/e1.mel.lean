/-! READING a KIND: one MEMBER, both side by side -/
section MEL
variable {n i j N k p : Nat} {c d u w v v0 c' u' : cS} {K P : Nat → Nat} {V : Nat → Int64} {nm val : Int64} {T : Bool}
def MEX (K P : Nat → Nat) (V : Nat → Int64) (N n : Nat) (X : Option mbT) (Y : Option cS) (w v : cS) (k p j : Nat) : Prop := (∃ z q, X = some (.inr (.inr (.inr z))) ∧ Y = some q ∧ FLR w v z q) ∨ (∃ d q j', (∀ Q, wp (mbE n p d) Q → wp X Q) ∧ Y = some q ∧ j ≤ j' ∧ PSI K P V N d q j' ∧ MBD d q k (p + 1) ∧ sx (qMBc k) w d ∧ sx (qMBu k) v q)
theorem qMBc_c (hk : k < 12) (h : sx (qMBc k) c d) : sx QRc c d := sx_wide h (fun A j z => by
  have := of_decide_eq_false z
  exact decide_eq_false (by unfold kA; omega))
theorem qMBu_u (h : sx (qMBu k) u d) : sx QRu u d := sx_wide h (fun A j z => by
  have := of_decide_eq_false z
  exact decide_eq_false (by omega))
theorem PSI_kA {q : cS} (hk : k < 12) (h : PSI K P V N d q j) (hs : sx (fun A l => decide ((A = kA k ∧ l = 1) ∨ (kA k < A ∧ A ≤ kA k + 4))) d c') : PSI K P V N c' q j := PSI_sx h hs (sx_rfl (r := fun _ _ => false)) (fun A l z => decide_eq_false (by unfold kA; omega)) (fun A l z => rfl)
theorem mem4 {s : Int32} (hk : k < 12) (hP : PSI K P V N w v j) (hM : MBD w v0 k p) (hp : p < 4) (hfr : ff (fun l => decide (v0.2 191 (4 * k + l) = nm)) p = none) (h190 : v.1 190 k = nI p) (h191 : ∀ l, l < 4 → v.2 191 (4 * k + l) = if l = p then nm else v0.2 191 (4 * k + l)) (h192 : ∀ l, l < 4 → v.1 192 (4 * k + l) = if l = p then bI T else v0.1 192 (4 * k + l)) (h193 : ∀ l, l < 4 → l ≠ p → v.1 193 (4 * k + l) = v0.1 193 (4 * k + l)) (h194 : ∀ l, l < 4 → l ≠ p → v.2 194 (4 * k + l) = v0.2 194 (4 * k + l)) (hs : s = if T = true then nI 2 else nI 1) : MEX K P V N n (mb4 n k (nI p) nm s w) (mr4 n (nI k) (nI (4 * k + p)) v) w v k p j := by
  have n0 : vp_nar .boolean (0 : Int32) = nI 0 := nar01 (b := false)
  have n1 : vp_nar .boolean (1 : Int32) = nI 1 := nar01 (b := true)
  have hq : ib (nI (4 * k + p)) 48 := ib_n (by omega) (by decide)
  have hik : ib (nI k) 12 := ib_n hk (by decide)
  have eq' : ix (nI (4 * k + p)) = 4 * k + p := ix_n (by omega)
  have ek : ix (nI k) = k := ix_n (by omega)
  obtain ⟨vs, hvs⟩ : ∃ vs, vs = pI v 193 (4 * k + p) (nI 0) := ⟨_, rfl⟩
  have vsf : ∀ A l, ¬ (A = 193 ∧ l = 4 * k + p) → vs.1 A l = v.1 A l := fun A l z => by rw [hvs, rI, if_neg z]
  have vs3 : vs.1 193 (4 * k + p) = nI 0 := by rw [hvs, rI, if_pos ⟨rfl, rfl⟩]
  have vsl : ∀ A l, vs.2 A l = v.2 A l := fun A l => by rw [hvs]; rfl
  have sv : sx (qMBu k) v vs := by rw [hvs]; exact sx_pI sx_rfl (decide_eq_true (by omega))
  have hPs : PSI K P V N w vs j := by
    rw [hvs]
    exact PSI_sx hP (sx_rfl (r := fun _ _ => false)) (sx_pI (r := fun A _ => decide (A = 193)) sx_rfl rfl) (fun A l z => rfl) (fun A l z => decide_eq_false (by omega))
  have h258 := e258 (n := n) (b := 61) hPs (by decide)
  have h379 := e379 (n := n) (b := 61) hPs (by decide) (by decide)
  by_cases e : K j = 61
  rotate_left
  · rw [if_neg e] at h258 h379
    have hR : mr4 n (nI k) (nI (4 * k + p)) v = some (pI vs 190 k (nI (p + 1))) := by
      unfold mr4
      rw [n0, eq', ← hvs, ek]
      refine eq_wp (wpt hq (wpl (wpe h379 (wpj (wpt rfl (wpt hik (wpt hik ?_)))))))
      rw [vsf _ _ (by omega), h190, nI_1]
      exact wpl rfl
    refine Or.inr ⟨wrC w k p nm s (bI false) 0, _, j, fun Q hQ => ?_, hR, Nat.le_refl _, ?_, ?_, ?_, ?_⟩
    · unfold mb4
      refine wpe h258 (wpj (wpt rfl (mb3_go hp hM.2.1 hM.2.1 ?_)))
      rw [n0]
      exact hQ
    · exact PSI_kA hk (PSI_sx hPs (sx_rfl (r := fun _ _ => false)) (sx_pI (r := fun A _ => decide (A = 190)) sx_rfl rfl) (fun A l z => rfl) (fun A l z => decide_eq_false (by omega))) wrC_sx
    · refine MBD_ad (T := T) (pre := false) hM hp hfr (by rw [rI, if_pos ⟨rfl, rfl⟩]) (fun l hl => ?_) (fun l hl => ?_) (fun l hl => ?_) (fun l hl z => ?_) (fun z => by cases z) hs (fun z => by cases z)
      · show vs.2 191 _ = _
        rw [vsl]
        exact h191 l hl
      · rw [rI, if_neg (by omega), vsf _ _ (by omega)]
        exact h192 l hl
      · rw [rI, if_neg (by omega)]
        by_cases el : l = p
        · rw [if_pos el, el]
          exact vs3
        · rw [if_neg el, vsf _ _ (by omega)]
          exact h193 l hl el
      · show vs.2 194 _ = _
        rw [vsl]
        exact h194 l hl z
    · exact sx_wide wrC_sx (fun A l z => by
        have := of_decide_eq_false z
        exact decide_eq_false (by omega))
    · exact sx_pI sv (decide_eq_true (by omega))
  · rw [if_pos e] at h258 h379
    have hP1 := PSI_s hPs (by omega)
    have af : ∀ A l, A ≠ 174 → (atR vs (j + 1)).1 A l = vs.1 A l := fun A l z => by
      unfold atR
      rw [rI, if_neg (by omega)]
    have hT : (atR vs (j + 1)).1 192 (4 * k + p) = bI T := by
      rw [af _ _ (by omega), vsf _ _ (by omega), h192 p hp, if_pos rfl]
    obtain ⟨rv, qv, y1, y2, y3⟩ := jw_ex (val_go (n := n) (t := T) hP1 hs hT)
    have hR : mr4 n (nI k) (nI (4 * k + p)) v = some (pI (pL (pI qv 193 (4 * k + p) (nI 1)) 194 (4 * k + p) (qv.2 174 68)) 190 k (qv.1 190 k + 1)) := by
      unfold mr4
      rw [n0, n1, eq', ← hvs, ek]
      refine eq_wp (wpt hq (wpl (wpe h379 (wpj (wpf (show ¬ (1 : Int32) = 0 by decide) (wpt hq (wpe y2 (wpt hq (wpl (wpt hq (wpl (wpt hik (wpt hik ?_)))))))))))))
      rw [show (pL (pI qv 193 (4 * k + p) (nI 1)) 194 (4 * k + p) ((pI qv 193 (4 * k + p) (nI 1)).2 174 68)).1 190 k = qv.1 190 k by
        show (pI qv 193 (4 * k + p) (nI 1)).1 190 k = _
        rw [rI, if_neg (by omega)]]
      exact wpl rfl
    have sA : sx (qMBu k) vs (atR vs (j + 1)) := sx_pI sx_rfl (decide_eq_true (by omega))
    have sC : sx (qMBc k) w (atC w (j + 1)) := sx_pI sx_rfl (decide_eq_true (by omega))
    rcases y3 with ⟨val, j3, d, rfl, l1, l2, l3, l4, l5, l6⟩ | ⟨z, rfl, hf⟩
    · have df : ∀ A l, A ≠ 145 → d.1 A l = w.1 A l ∧ d.2 A l = w.2 A l := fun A l z => by
        rw [l5.1 A l (decide_eq_false (by omega)), l5.2 A l (decide_eq_false (by omega))]
        unfold atC
        refine ⟨?_, rfl⟩
        rw [rI, if_neg (by omega)]
      have qf : ∀ A l, A ≠ 174 → qv.1 A l = vs.1 A l ∧ qv.2 A l = vs.2 A l := fun A l z => by
        rw [l6.1 A l (decide_eq_false (by omega)), l6.2 A l (decide_eq_false (by omega))]
        exact ⟨af A l z, rfl⟩
      have hMd : MBD d v0 k p := MBD_cg hM (fun A l z1 z2 => df A l (by unfold kA at *; omega)) (fun A l z1 z2 => ⟨rfl, rfl⟩)
      have q190 : qv.1 190 k + 1 = nI (p + 1) := by
        rw [(qf _ _ (by omega)).1, vsf _ _ (by omega), h190, nI_1]
      rw [q190] at hR
      refine Or.inr ⟨wrC d k p nm s (bI true) val, _, j3, fun Q hQ => ?_, hR, by omega, ?_, ?_, ?_, ?_⟩
      · unfold mb4
        refine wpe h258 (wpj (wpf (show ¬ (1 : Int32) = 0 by decide) (wpe y1 (wpSl (mb3_go hp ?_ hMd.2.1 ?_)))))
        · show (atC w (j + 1)).1 (kA k) 1 = _
          unfold atC
          rw [rI, if_neg (by unfold kA; omega)]
          exact hM.2.1
        · rw [n1]
          exact hQ
      · exact PSI_kA hk (PSI_sx l2 (sx_rfl (r := fun _ _ => false)) (sx_pI (r := fun A _ => decide (190 ≤ A ∧ A ≤ 194)) (sx_pL (sx_pI sx_rfl rfl) rfl) rfl) (fun A l z => rfl) (fun A l z => decide_eq_false (by omega))) wrC_sx
      · refine MBD_ad (T := T) (pre := true) hMd hp hfr (by rw [rI, if_pos ⟨rfl, rfl⟩]) (fun l hl => ?_) (fun l hl => ?_) (fun l hl => ?_) (fun l hl z => ?_) (fun _ => ?_) hs (fun _ z => l4 z)
        · show (pL (pI qv 193 (4 * k + p) (nI 1)) 194 (4 * k + p) (qv.2 174 68)).2 191 _ = _
          rw [rL, if_neg (by omega)]
          show qv.2 191 _ = _
          rw [(qf _ _ (by omega)).2, vsl]
          exact h191 l hl
        · rw [rI, if_neg (by omega)]
          show (pI qv 193 (4 * k + p) (nI 1)).1 192 _ = _
          rw [rI, if_neg (by omega), (qf _ _ (by omega)).1, vsf _ _ (by omega)]
          exact h192 l hl
        · rw [rI, if_neg (by omega)]
          show (pI qv 193 (4 * k + p) (nI 1)).1 193 _ = _
          rw [rI]
          by_cases el : l = p
          · rw [if_pos ⟨rfl, by omega⟩, if_pos el]
            rfl
          · rw [if_neg (by omega), if_neg el, (qf _ _ (by omega)).1, vsf _ _ (by omega)]
            exact h193 l hl el
        · show (pL (pI qv 193 (4 * k + p) (nI 1)) 194 (4 * k + p) (qv.2 174 68)).2 194 _ = _
          rw [rL, if_neg (by omega)]
          show qv.2 194 _ = _
          rw [(qf _ _ (by omega)).2, vsl]
          exact h194 l hl z
        · show (pL (pI qv 193 (4 * k + p) (nI 1)) 194 (4 * k + p) (qv.2 174 68)).2 194 _ = _
          rw [rL, if_pos ⟨rfl, rfl⟩]
          exact l3
      · exact sx_trans (sx_trans sC (sx_wide l5 (fun A l z => by
          have := of_decide_eq_false z
          exact decide_eq_false (by omega)))) (sx_wide wrC_sx (fun A l z => by
          have := of_decide_eq_false z
          exact decide_eq_false (by omega)))
      · exact sx_pI (sx_pL (sx_pI (sx_trans (sx_trans sv sA) (sx_wide l6 (fun A l z => by
          have := of_decide_eq_false z
          exact decide_eq_false (by omega)))) (decide_eq_true (by omega))) (decide_eq_true (by omega))) (decide_eq_true (by omega))
    · refine Or.inl ⟨z, _, ?_, hR, FLR_sx (FLR_tr hf atC_sx (sx_trans (qMBu_u sv) atR_sx)) (r := fun A _ => decide (190 ≤ A ∧ A ≤ 194)) (sx_pI (sx_pL (sx_pI sx_rfl rfl) rfl) rfl) (fun A l z => ?_) (fun l z1 z2 => rfl)⟩
      · unfold mb4
        exact eq_wp (wpe h258 (wpj (wpf (show ¬ (1 : Int32) = 0 by decide) (wpe y1 (wpSr rfl)))))
      · have := of_decide_eq_true z
        exact decide_eq_true (by omega)
end MEL
