/-! READING: what is read already stays as it is when more is read -/
section MGR
variable {n i j N k w x y t rr oc kc oc' kc' : Nat} {c u c' u' : cS} {b : Bool} {nm : Int64}
/-- the cells of one ORDER or KIND -/
def SAMT (u u' : cS) (t : Nat) : Prop := (t < 100 → u'.1 190 t = u.1 190 t ∧ u'.1 195 t = u.1 195 t ∧ u'.1 197 t = u.1 197 t ∧ ∀ j, j < 4 → u'.2 191 (4 * t + j) = u.2 191 (4 * t + j) ∧ u'.1 192 (4 * t + j) = u.1 192 (4 * t + j) ∧ u'.1 193 (4 * t + j) = u.1 193 (4 * t + j)) ∧ (100 ≤ t → u'.1 182 (t - 100) = u.1 182 (t - 100) ∧ ∀ e, e < 12 → u'.2 183 (12 * (t - 100) + e) = u.2 183 (12 * (t - 100) + e))
theorem ff_cg2 {p q : Nat → Bool} {m : Nat} (h : ∀ l, l < m → p l = q l) : ff p m = ff q m := ff_congr h
theorem MGD_gr (h : MGD c u x y t b) (hc : ∀ A l, (A = 136 ∧ l = x) ∨ (139 ≤ A ∧ A ≤ 141 ∧ x * 4 ≤ l ∧ l < x * 4 + 4) → c'.1 A l = c.1 A l ∧ c'.2 A l = c.2 A l) (hu : ∀ A l, (A = 225 ∧ l = y) ∨ (226 ≤ A ∧ A ≤ 228 ∧ y * 4 ≤ l ∧ l < y * 4 + 4) → u'.1 A l = u.1 A l ∧ u'.2 A l = u.2 A l) (hk : SAMT u u' t) (hkn : t < 100 → kn u t ≤ 4) (hel : 100 ≤ t → eln u (t - 100) ≤ 12) : MGD c' u' x y t b := by
  rcases h with ⟨h1, h2, h3⟩ | ⟨h1, h2, h3, h4, h5, h6, h7, h8, h9, e, h10⟩ | ⟨h1, h2, p, h3, h4⟩
  · exact Or.inl ⟨h1, by rw [(hc _ _ (by omega)).1]; exact h2, by rw [(hu _ _ (by omega)).1]; exact h3⟩
  · obtain ⟨k1, k2⟩ := hk.2 h2
    have hel := hel h2
    refine Or.inr (Or.inl ⟨h1, h2, ?_, ?_, ?_, ?_, ?_, ?_, ?_, e, ?_⟩)
    · rw [(hc _ _ (by omega)).1]; exact h3
    · rw [(hu _ _ (by omega)).1]; exact h4
    · rw [(hc _ _ (by omega)).2]; exact h5
    · rw [(hu _ _ (by omega)).2]; exact h6
    · rw [(hc _ _ (by omega)).1]; exact h7
    · rw [(hu _ _ (by omega)).1]; exact h8
    · rw [(hc _ _ (by omega)).2, (hu _ _ (by omega)).2]; exact h9
    · rw [(hu _ _ (by omega)).2, show eln u' (t - 100) = eln u (t - 100) by unfold eln; rw [k1]]
      unfold eOp at h10 ⊢
      rw [ff_cg2 (q := fun e => decide (u.2 183 (12 * (t - 100) + e) = u.2 228 (y * 4))) (fun l hl => by rw [k2 l (by omega)])]
      exact h10
  · obtain ⟨k1, k2, k3, k4⟩ := hk.1 h2
    have hkn := hkn h2
    obtain ⟨p1, p2, p3, p4⟩ := h3
    have ekn : kn u' t = kn u t := by
      unfold kn
      rw [k1]
    have etx : ∀ l, l < 4 → txt u' t l = txt u t l := fun l hl => by
      unfold txt
      rw [(k4 l hl).2.1]
    refine Or.inr (Or.inr ⟨h1, h2, p, ⟨p1, by rw [(hc _ _ (by omega)).1]; exact p2, by rw [(hu _ _ (by omega)).1]; exact p3, fun q hq => ?_⟩, fun jj hj => ?_⟩)
    · rw [(hc 139 _ (by omega)).2, (hc 140 _ (by omega)).1, (hc 141 _ (by omega)).2, (hu 226 _ (by omega)).2, (hu 227 _ (by omega)).1, (hu 228 _ (by omega)).2]
      obtain ⟨a1, a2, a3, j', b1, b2, b3, b4⟩ := p4 q hq
      refine ⟨a1, a2, a3, j', by rw [ekn]; exact b1, ?_, by rw [etx j' (by omega)]; exact b3, fun z => b4 ?_⟩
      · rw [(k4 j' (by omega)).1]
        exact b2
      · rw [(k4 j' (by omega)).2.1] at z
        exact z
    · have hj4 : jj < kn u t := by rw [← ekn]; exact hj
      have hm := h4 jj hj4
      unfold msg at hm ⊢
      rw [(k4 jj (by omega)).2.2, (k4 jj (by omega)).1, ff_cg2 (q := fun q => decide (u.2 226 (y * 4 + q) = u.2 191 (4 * t + jj))) (fun l hl => by rw [(hu 226 _ (by omega)).2])]
      exact hm
theorem MIN_gr {l : Nat} (h : MIN c u oc kc rr x (rr * 20 + l) w l) (hc : ∀ A j, ((A = 135 ∨ A = 136 ∨ A = 137) ∧ j = x) ∨ (139 ≤ A ∧ A ≤ 141 ∧ x * 4 ≤ j ∧ j < x * 4 + 4) → c'.1 A j = c.1 A j ∧ c'.2 A j = c.2 A j) (hu : ∀ A j, (223 ≤ A ∧ A ≤ 225 ∧ rr * 20 ≤ j ∧ j ≤ rr * 20 + l) ∨ (226 ≤ A ∧ A ≤ 228 ∧ (rr * 20 + l) * 4 ≤ j ∧ j < (rr * 20 + l) * 4 + 4) → u'.1 A j = u.1 A j ∧ u'.2 A j = u.2 A j) (hk : ∀ t nm, tgt u oc kc nm = some t → tgt u' oc' kc' nm = some t ∧ SAMT u u' t ∧ (t < 100 → kn u t ≤ 4) ∧ (100 ≤ t → eln u (t - 100) ≤ 12)) : MIN c' u' oc' kc' rr x (rr * 20 + l) w l := by
  obtain ⟨t, b, h1, h2, h3, h4, h5, h6, h7, h8⟩ := h
  obtain ⟨z1, z2, z3, z4⟩ := hk t _ h2
  have e23 : ∀ q, q ≤ l → u'.2 223 (rr * 20 + q) = u.2 223 (rr * 20 + q) := fun q hq => (hu _ _ (by omega)).2
  refine ⟨t, b, by rw [(hc _ _ (by omega)).1]; exact h1, ?_, by rw [(hc _ _ (by omega)).1]; exact h3, by rw [(hu _ _ (by omega)).1]; exact h4, h5, MGD_gr h6 (fun A j z => hc A j (by omega)) (fun A j z => hu A j (by omega)) z2 z3 z4, ?_, ?_⟩
  · rw [e23 l (by omega)]
    exact z1
  · rw [e23 l (by omega)]
    unfold dpl mny at h7 ⊢
    rw [hnm_cg (u := u) (fun q hq => e23 q (by omega))]
    by_cases e : t < 100
    · rw [(z2.1 e).2.2.1]
      exact h7
    · rw [decide_eq_false e, Bool.false_and] at h7 ⊢
      exact h7
  · unfold ftW cst kw at h8 ⊢
    by_cases e : t < 100
    · rw [(z2.1 e).2.1]
      exact h8
    · rw [if_neg e] at h8 ⊢
      exact h8
end MGR
