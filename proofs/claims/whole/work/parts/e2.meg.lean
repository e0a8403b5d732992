/-! READING a KIND: its MEMBERS, both side by side -/
section MEG
variable {n i j N k p : Nat} {c d u w v v0 c' u' : cS} {K P : Nat → Nat} {V : Nat → Int64} {nm val : Int64} {T : Bool}
theorem MEX_up {X X' : Option mbT} {Y Y' : Option cS} {w1 v1 : cS} {i : Nat} (h : MEX K P V N n X Y w1 v1 k p j) (hk : k < 12) (hX : ∀ Q, wp X Q → wp X' Q) (hY : ∀ Q, wp Y Q → wp Y' Q) (hij : i ≤ j) (hw : sx (qMBc k) w w1) (hv : sx (qMBu k) v v1) : MEX K P V N n X' Y' w v k p i := by
  rcases h with ⟨z, q, h1, h2, h3⟩ | ⟨d, q, j', h1, h2, h3, h4, h5, h6, h7⟩
  · exact Or.inl ⟨z, q, eq_wp (hX _ (wp_of h1 rfl)), eq_wp (hY _ (wp_of h2 rfl)), FLR_tr h3 (qMBc_c hk hw) (qMBu_u hv)⟩
  · exact Or.inr ⟨d, q, j', fun Q hQ => hX Q (h1 Q hQ), eq_wp (hY _ (wp_of h2 rfl)), by omega, h4, h5, sx_trans hw h6, sx_trans hv h7⟩
theorem mem2 (hk : k < 12) (hP : PSI K P V N w v j) (hM : MBD w v k p) (hp : p < 4) (hfr : ff (fun l => decide (v.2 191 (4 * k + l) = nm)) p = none) : MEX K P V N n (mb2 n k (nI p) nm w) (mr2 n (nI k) nm v) w v k p j := by
  have hkK := PSI_K hP
  have n0 : vp_nar .boolean (0 : Int32) = nI 0 := nar01 (b := false)
  have n1 : vp_nar .boolean (1 : Int32) = nI 1 := nar01 (b := true)
  have hq : ib (nI (4 * k + p)) 48 := ib_n (by omega) (by decide)
  have hik : ib (nI k) 12 := ib_n hk (by decide)
  have eq' : ix (nI (4 * k + p)) = 4 * k + p := ix_n (by omega)
  have ek : ix (nI k) = k := ix_n (by omega)
  have e4 : (4 : Int32) * nI k + nI p = nI (4 * k + p) := by rw [show (4 : Int32) = nI 4 from rfl, pk_mul, nI_add]
  obtain ⟨v1, hv1⟩ : ∃ v1, v1 = pL v 191 (4 * k + p) nm := ⟨_, rfl⟩
  obtain ⟨T, hT⟩ : ∃ T : Bool, T = decide (K j = 213) := ⟨_, rfl⟩
  obtain ⟨v2, hv2⟩ : ∃ v2, v2 = pI v1 192 (4 * k + p) (bI T) := ⟨_, rfl⟩
  have hP1 : PSI K P V N w v1 j := by
    rw [hv1]
    exact PSI_sx hP (sx_rfl (r := fun _ _ => false)) (sx_pL (r := fun A _ => decide (A = 191)) sx_rfl rfl) (fun A l z => rfl) (fun A l z => decide_eq_false (by omega))
  have hP2 : PSI K P V N w v2 j := by
    rw [hv2]
    exact PSI_sx hP1 (sx_rfl (r := fun _ _ => false)) (sx_pI (r := fun A _ => decide (A = 192)) sx_rfl rfl) (fun A l z => rfl) (fun A l z => decide_eq_false (by omega))
  have h100 := e100 (n := n) (b := 13) hP1 (by decide)
  have hnar : vp_nar .boolean (if K j = 200 + 13 then (1 : Int32) else 0) = bI T := by
    rw [hT]
    by_cases e : K j = 213
    · rw [if_pos e, n1, decide_eq_true e]
      rfl
    · rw [if_neg e, n0, decide_eq_false e]
      rfl
  have h13 := e102 (n := n) (b := 13) hP2 (by decide)
  have h12 := e102 (n := n) (b := 12) hP2 (by decide)
  have hRw : ∀ {Q : cS → Prop}, wp (jn (mr4 n (nI k) (nI (4 * k + p)))
          (fun j129 =>
          if (if K j = 200 + 13 then ((1 : Int32), atR v2 (j + 1)) else (0, v2)).1 = 0 then
            Option.bind (d_102 n 12 (if K j = 200 + 13 then ((1 : Int32), atR v2 (j + 1)) else (0, v2)).2) (fun r41 =>
            if r41.1 = 0 then
              Option.bind (d_103 n r41.2) (fun r42 =>
              j129 r42)
            else
              j129 r41.2)
          else
            j129 (if K j = 200 + 13 then ((1 : Int32), atR v2 (j + 1)) else (0, v2)).2)) Q → wp (mr2 n (nI k) nm v) Q := fun {Q} hQ => by
    unfold mr2
    rw [ek, hM.2.2.1, e4]
    refine wpt hP.2.2.2.2 (wpt hik (wpl (wpt hq ?_)))
    rw [eq', ← hv1]
    refine wpl (wpe h100 (wpt hq ?_))
    rw [hnar, ← hv2]
    exact wpl (wpe h13 hQ)
  have sV : sx (qMBu k) v v2 := by
    rw [hv2, hv1]
    exact sx_pI (sx_pL sx_rfl (decide_eq_true (by omega))) (decide_eq_true (by omega))
  by_cases e : K j = 212 ∨ K j = 213
  rotate_left
  · have b1 : ¬ K j = 212 := fun z => e (Or.inl z)
    have b2 : ¬ K j = 213 := fun z => e (Or.inr z)
    obtain ⟨q, hq1, hq2⟩ := wp_ex (show wp (mr4 n (nI k) (nI (4 * k + p)) (flt v2 2 (nI (P j)))) (fun q => sx (fun A _ => decide (190 ≤ A ∧ A ≤ 194)) (flt v2 2 (nI (P j))) q) by
      unfold mr4
      rw [eq', ek]
      refine wpt hq (wpl (wpe (e379w ?_) (wpj (wpt rfl (wpt hik (wpt hik (wpl ?_)))))))
      · rw [rI, if_neg (by omega)]
        exact flt_at.1
      · exact sx_pI (sx_pI sx_rfl rfl) rfl)
    refine Or.inl ⟨flC w 2 (nI (P j)), q, ?_, eq_wp (hRw ?_), FLR_sx (FLR_of sx_rfl (qMBu_u sV)) hq2 (fun A l z => ?_) (fun l z1 z2 => rfl)⟩
    · unfold mb2
      exact eq_wp (wpe (e43 hP) (wpj (wpf (fun z => b1 ((nI_eq (by omega) (by decide)).mp (show _ = nI 212 from z))) (wpe (e43 hP) (wpf (fun z => b2 ((nI_eq (by omega) (by decide)).mp (show _ = nI 213 from z))) (wpe (e42 hP) (wpe e41 (wpSr rfl))))))))
    · rw [if_neg b2]
      rw [if_neg b1] at h12
      exact wpj (wpt rfl (wpe h12 (wpt rfl (wpe (e103 hP2) (wp_of hq1 rfl)))))
    · have := of_decide_eq_true z
      exact decide_eq_true (by omega)
  · have hP3 := PSI_s hP2 (by omega)
    obtain ⟨v3, hv3⟩ : ∃ v3, v3 = atR v2 (j + 1) := ⟨_, rfl⟩
    have v3f : ∀ A l, A ≠ 174 → ¬ (A = 192 ∧ l = 4 * k + p) → v3.1 A l = v.1 A l := fun A l z z2 => by
      rw [hv3]
      unfold atR
      rw [rI, if_neg (by omega), hv2, rI, if_neg z2, hv1]
      rfl
    have v3l : ∀ A l, ¬ (A = 191 ∧ l = 4 * k + p) → v3.2 A l = v.2 A l := fun A l z => by
      rw [hv3, hv2, hv1]
      show (pL v 191 (4 * k + p) nm).2 A l = _
      rw [rL, if_neg z]
    rw [← hv3] at hP3
    have hMw : MBD (atC w (j + 1)) v k p := MBD_cg hM (fun A l z1 z2 => ⟨by
      unfold atC
      rw [rI, if_neg (by unfold kA at *; omega)], rfl⟩) (fun A l z1 z2 => ⟨rfl, rfl⟩)
    refine MEX_up (mem4 (n := n) (T := T) (s := if T = true then nI 2 else nI 1) hk hP3 hMw hp hfr ?_ (fun l hl => ?_) (fun l hl => ?_) (fun l hl z => ?_) (fun l hl z => ?_) rfl) hk (fun Q hQ => ?_) ?_ (by omega) ?_ ?_
    · rw [v3f _ _ (by omega) (by omega)]
      exact hM.2.2.1
    · by_cases el : l = p
      · rw [if_pos el, el, hv3, hv2, hv1]
        show (pL v 191 (4 * k + p) nm).2 191 _ = _
        rw [rL, if_pos ⟨rfl, rfl⟩]
      · rw [if_neg el, v3l _ _ (by omega)]
    · by_cases el : l = p
      · rw [if_pos el, el, hv3]
        unfold atR
        rw [rI, if_neg (by omega), hv2, rI, if_pos ⟨rfl, rfl⟩]
      · rw [if_neg el, v3f _ _ (by omega) (by omega)]
    · rw [v3f _ _ (by omega) (by omega)]
    · rw [v3l _ _ (by omega)]
    · unfold mb2
      have e15 : ∀ {Q : mbT → Prop}, wp (mb4 n k (nI p) nm (if T = true then nI 2 else nI 1) (atC w (j + 1))) Q → wp (Option.bind (d_43 n w) (fun v15 =>
              jn (fun p16 : Int32 =>
                lt (pI w 145 7 ((w.1 145 7) + 1)) (mb4 n k (nI p) nm p16))
              (fun j106 =>
              if v15 = 212 then
                j106 1
              else
                j106 2))) Q := fun {Q} hQ => by
        refine wpe (e43 hP) (wpj ?_)
        rw [hP.2.2.1, nI_1]
        by_cases e2 : K j = 212
        · rw [show (if T = true then nI 2 else nI 1) = nI 1 by rw [hT, decide_eq_false (show ¬ K j = 213 by omega)]; rfl] at hQ
          exact wpt (by rw [e2]; rfl) (wpl hQ)
        · rw [show (if T = true then nI 2 else nI 1) = nI 2 by rw [hT, decide_eq_true (show K j = 213 by omega)]; rfl] at hQ
          exact wpf (fun z => e2 ((nI_eq (by omega) (by decide)).mp (show _ = nI 212 from z))) (wpl hQ)
      refine wpe (e43 hP) (wpj ?_)
      by_cases e2 : K j = 212
      · exact wpt (by rw [e2]; rfl) (e15 hQ)
      · refine wpf (fun z => e2 ((nI_eq (by omega) (by decide)).mp (show _ = nI 212 from z))) (wpe (e43 hP) (wpt ?_ (e15 hQ)))
        rw [show K j = 213 by omega]
        rfl
    · refine fun Q hQ => hRw (wpj ?_)
      by_cases e2 : K j = 213
      · rw [if_pos e2, ← hv3]
        exact wpf (show ¬ (1 : Int32) = 0 by decide) hQ
      · rw [if_neg e2]
        rw [if_pos (show K j = 200 + 12 by omega), ← hv3] at h12
        exact wpt rfl (wpe h12 (wpf (show ¬ (1 : Int32) = 0 by decide) hQ))
    · exact sx_pI sx_rfl (decide_eq_true (by omega))
    · rw [hv3]
      exact sx_pI sV (decide_eq_true (by omega))
end MEG
