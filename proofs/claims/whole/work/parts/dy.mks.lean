/-! READING MARKS: rows of them, whole -/
section MKS9
variable {n i j N t k rc rr U w oc kc mc cc i0 : Nat} {c d u : cS} {K P : Nat → Nat} {V : Nat → Int64}
def MKZ (K P : Nat → Nat) (V : Nat → Int64) (N : Nat) (c u : cS) (oc kc mc cc rc rr U w i0 : Nat) (r : cS ⊕ cS) (q : cS) : Prop := (∃ d i k, r = .inl d ∧ i0 + 2 * k ≤ i ∧ ¬ K i = 64 ∧ PSI K P V N d q i ∧ RWG d q oc kc rc rr U k w ∧ ENV d q oc kc mc cc ∧ sx (qRc rc U) c d ∧ sx (qRr rr) u q) ∨ (∃ z, r = .inr z ∧ FLR c u z q)
theorem marks_in (hn : 10000 ≤ n) (hr : rc < 2242) (hrr : rr < 1219) (hw : w ≤ 6) (hU : 2 * U ≤ i0) (hP : PSI K P V N c u i0) (hV : ENV c u oc kc mc cc) (h11 : c.1 133 11 = nI U) (h12 : c.1 133 12 = nM) (h13 : c.1 133 13 = nI U) (h144 : c.1 144 rc = nI 0) : jw (d_273 n (nI rc) (nI w) c) (Option.bind (whl (mrR n (nI rr) (nI (aw w)) (bI (decide (w < 4)))) n (pI u 222 rr 0)) (fun x14 : cS => some x14)) (MKZ K P V N c u oc kc mc cc rc rr U w i0) := by
  have s2 : sx (qRr rr) u (pI u 222 rr 0) := sx_pI sx_rfl (decide_eq_true (by omega))
  have hP2 : PSI K P V N c (pI u 222 rr 0) i0 := PSI_sx hP (show sx (fun _ _ => false) _ _ from sx_rfl) (sx_pI (r := fun A j => decide (A = 222)) sx_rfl (by decide)) (fun _ _ _ => rfl) (fun A j z => decide_eq_false (by omega))
  have hV2 : ENV c (pI u 222 rr 0) oc kc mc cc := ENV_sx hV (show sx (fun _ _ => false) _ _ from sx_rfl) (sx_pI (r := fun A j => decide (A = 222)) sx_rfl (by decide)) (fun _ _ _ => rfl) (fun A j z => decide_eq_false (by omega))
  have hS : RWS c (pI u 222 rr 0) rc rr U 0 := by
    refine ⟨h11, h12, h13, by omega, h144, ?_, fun z => absurd z (Nat.not_lt_zero _), fun j hj => absurd hj (Nat.not_lt_zero _), fun j hj => absurd hj (Nat.not_lt_zero _)⟩
    rw [rI, if_pos ⟨rfl, rfl⟩]
    rfl
  rw [d273_s]
  refine jwb (mr_lp hn hr hrr hw hU hP2 hV2 hS) (fun r q hrq => ?_)
  rcases hrq with ⟨d, i, k, rfl, a1, a2, a3, a4, a5, a6, a7⟩ | ⟨z, rfl, hf⟩
  · exact jw_of (a := .inl d) (b := q) rfl rfl (Or.inl ⟨d, i, k, rfl, a1, a2, a3, a4, a5, a6, sx_trans s2 a7⟩)
  · exact jw_of (a := .inr z) (b := q) rfl rfl (Or.inr ⟨z, rfl, FLR_tr hf sx_rfl (qRr_u s2)⟩)
/-- MARKS that may be there -/
theorem marks_go (hn : 10000 ≤ n) (hr : rc < 2242) (hrr : rr < 1219) (hw : w ≤ 6) (hU : 2 * U ≤ i0) (hP : PSI K P V N c u i0) (hV : ENV c u oc kc mc cc) (h11 : c.1 133 11 = nI U) (h12 : c.1 133 12 = nM) (h13 : c.1 133 13 = nI U) (h144 : c.1 144 rc = nI 0) : jw (d_273 n (nI rc) (nI w) c) (d_396 n (nI rr) (nI (aw w)) (bI (decide (w < 4))) 0 u) (MKZ K P V N c u oc kc mc cc rc rr U w i0) := by
  have h := marks_in hn hr hrr hw hU hP hV h11 h12 h13 h144
  rw [d396_s, if_pos (show ib (nI rr) 1219 from ib_n hrr (by decide)), ix_n (show rr < 2147483648 by omega)]
  exact h
/-- MARKS of which one must be there -/
theorem some_go (hn : 10000 ≤ n) (hr : rc < 2242) (hrr : rr < 1219) (hw : w ≤ 6) (hU : 2 * U ≤ i0) (hP : PSI K P V N c u i0) (hV : ENV c u oc kc mc cc) (h11 : c.1 133 11 = nI U) (h12 : c.1 133 12 = nM) (h13 : c.1 133 13 = nI U) (h144 : c.1 144 rc = nI 0) : jw (d_272 n (nI rc) (nI w) c) (d_396 n (nI rr) (nI (aw w)) (bI (decide (w < 4))) 1 u) (MKZ K P V N c u oc kc mc cc rc rr U w i0) := by
  have hkK := PSI_K hP
  have h := marks_in hn hr hrr hw hU hP hV h11 h12 h13 h144
  have hP2 : PSI K P V N c (pI u 222 rr 0) i0 := PSI_sx hP (show sx (fun _ _ => false) _ _ from sx_rfl) (sx_pI (r := fun A j => decide (A = 222)) sx_rfl (by decide)) (fun _ _ _ => rfl) (fun A j z => decide_eq_false (by omega))
  have h101 := e101 (n := n) (b := 64) hP2 (by decide) (by decide)
  have hixr : ix (nI rr) = rr := ix_n (by omega)
  have s2 : sx (qRr rr) u (pI u 222 rr 0) := sx_pI sx_rfl (decide_eq_true (by omega))
  obtain ⟨a, q, a1, a2, a3⟩ := jw_ex h
  by_cases e : K i0 = 64
  · rw [if_pos e] at h101
    refine jw_of (a := a) (b := q) ?_ ?_ a3
    · unfold d_272
      refine eq_wp (wpe (e43 hP) (wpj (wpt (by rw [e]; rfl) (wpe a1 ?_))))
      cases a with
      | inl d => exact wpSl rfl
      | inr z => exact wpSr rfl
    · rw [d396_s]
      refine eq_wp (wpt (ib_n hrr (by decide)) ?_)
      rw [hixr]
      refine wpl (wpj (wpf (by decide) (wpt hP2.2.2.2.2 (wpe h101 (wpf (by decide) (wp_of a2 rfl))))))
  · rw [if_neg e] at h101
    have f1 := (flt_at (u := pI u 222 rr 0) (a := 2) (f := nI (P i0))).1
    refine jw_of (a := .inr (flC c 2 (nI (P i0)))) (b := flt (pI u 222 rr 0) 2 (nI (P i0))) ?_ ?_ (Or.inr ⟨_, rfl, FLR_of sx_rfl (qRr_u s2)⟩)
    · unfold d_272
      exact eq_wp (wpe (e43 hP) (wpj (wpf (fun z => e ((nI_eq (by omega) (by decide)).mp (show _ = nI 64 from z))) (wpe (e42 hP) (wpe e41 rfl)))))
    · rw [d396_s]
      refine eq_wp (wpt (ib_n hrr (by decide)) ?_)
      rw [hixr]
      refine wpl (wpj (wpf (by decide) (wpt hP2.2.2.2.2 (wpe h101 (wpt rfl (wpe (e103 hP2) ?_))))))
      have hw1 : whl (mrR n (nI rr) (nI (aw w)) (bI (decide (w < 4)))) n (flt (pI u 222 rr 0) 2 (nI (P i0))) = some (flt (pI u 222 rr 0) 2 (nI (P i0))) := by
        rw [show n = (n - 1) + 1 by omega]
        refine whl_out ?_
        unfold mrR
        exact eq_wp (wpf (by rw [f1]; decide) rfl)
      exact wpe hw1 rfl
end MKS9
