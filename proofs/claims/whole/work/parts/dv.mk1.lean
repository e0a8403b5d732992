/-! READING MARKS: one MARK, both -/
section MK1
variable {n i j N t k k0 rc rr U w oc kc mc cc x y : Nat} {c d u c' u' : cS} {K P : Nat → Nat} {V : Nat → Int64} {b : Bool} {nm : Int64}
theorem ffc {p q : Nat → Bool} {N : Nat} (h : ∀ j, p j = q j) : ff p N = ff q N := by rw [funext h]
theorem tgt_cg (h1 : ∀ l, u'.2 181 l = u.2 181 l) (h2 : ∀ l, u'.2 189 l = u.2 189 l) : tgt u' oc kc nm = tgt u oc kc nm := by
  have e1 : fO u' oc nm = fO u oc nm := ffc (fun l => by rw [h1])
  have e2 : fK u' kc nm = fK u kc nm := ffc (fun l => by rw [h2])
  unfold tgt
  rw [e1, e2]
/-- the cells of ORDERS and KINDS in the reference -/
def SAMK (u u' : cS) : Prop := ∀ A l, 181 ≤ A → A ≤ 197 → u'.1 A l = u.1 A l ∧ u'.2 A l = u.2 A l
theorem msg_cg {p jj : Nat} (hk : SAMK u u') (h6 : ∀ q, q < p → u'.2 226 (y * 4 + q) = u.2 226 (y * 4 + q)) : msg u' y t p jj = msg u y t p jj := by
  unfold msg
  rw [(hk 193 _ (by omega) (by omega)).1, (hk 191 _ (by omega) (by omega)).2]
  congr 2
  cases e : ff (fun q => decide (u.2 226 (y * 4 + q) = u.2 191 (4 * t + jj))) p with
  | some q =>
    obtain ⟨h1, h2, h3⟩ := ff_some e
    refine ff_is h1 ?_ (fun l hl => ?_)
    · rw [h6 q h1]
      exact h2
    · rw [h6 l (by omega)]
      exact h3 l hl
  | none =>
    cases e2 : ff (fun q => decide (u'.2 226 (y * 4 + q) = u.2 191 (4 * t + jj))) p with
    | none => rfl
    | some q =>
      obtain ⟨h1, h2, -⟩ := ff_some e2
      rw [h6 q h1] at h2
      have := ff_none e q h1
      rw [h2] at this
      cases this
theorem MGD_cg (h : MGD c u x y t b) (hc : ∀ A l, (A = 136 ∧ l = x) ∨ (139 ≤ A ∧ A ≤ 141 ∧ x * 4 ≤ l ∧ l < x * 4 + 4) → c'.1 A l = c.1 A l ∧ c'.2 A l = c.2 A l) (hu : ∀ A l, (A = 225 ∧ l = y) ∨ (226 ≤ A ∧ A ≤ 228 ∧ y * 4 ≤ l ∧ l < y * 4 + 4) → u'.1 A l = u.1 A l ∧ u'.2 A l = u.2 A l) (hk : SAMK u u') : MGD c' u' x y t b := by
  rcases h with ⟨h1, h2, h3⟩ | ⟨h1, h2, h3, h4, h5, h6, h7, h8, h9, e, h10⟩ | ⟨h1, h2, p, h3, h4⟩
  · exact Or.inl ⟨h1, by rw [(hc _ _ (by omega)).1]; exact h2, by rw [(hu _ _ (by omega)).1]; exact h3⟩
  · refine Or.inr (Or.inl ⟨h1, h2, ?_, ?_, ?_, ?_, ?_, ?_, ?_, e, ?_⟩)
    · rw [(hc _ _ (by omega)).1]; exact h3
    · rw [(hu _ _ (by omega)).1]; exact h4
    · rw [(hc _ _ (by omega)).2]; exact h5
    · rw [(hu _ _ (by omega)).2]; exact h6
    · rw [(hc _ _ (by omega)).1]; exact h7
    · rw [(hu _ _ (by omega)).1]; exact h8
    · rw [(hc _ _ (by omega)).2, (hu _ _ (by omega)).2]; exact h9
    · rw [(hu _ _ (by omega)).2, show eln u' (t - 100) = eln u (t - 100) by unfold eln; rw [(hk 182 _ (by omega) (by omega)).1]]
      unfold eOp at h10 ⊢
      rw [ffc (q := fun e => decide (u.2 183 (12 * (t - 100) + e) = u.2 228 (y * 4))) (fun l => by rw [(hk 183 _ (by omega) (by omega)).2])]
      exact h10
  · obtain ⟨p1, p2, p3, p4⟩ := h3
    have ekn : kn u' t = kn u t := kn_cg (fun l => (hk 190 _ (by omega) (by omega)).1)
    have etx : ∀ l, txt u' t l = txt u t l := fun l => txt_cg (fun l => (hk 192 _ (by omega) (by omega)).1)
    refine Or.inr (Or.inr ⟨h1, h2, p, ⟨p1, by rw [(hc _ _ (by omega)).1]; exact p2, by rw [(hu _ _ (by omega)).1]; exact p3, fun q hq => ?_⟩, fun jj hj => ?_⟩)
    · rw [(hc 139 _ (by omega)).2, (hc 140 _ (by omega)).1, (hc 141 _ (by omega)).2, (hu 226 _ (by omega)).2, (hu 227 _ (by omega)).1, (hu 228 _ (by omega)).2]
      obtain ⟨a1, a2, a3, j', b1, b2, b3, b4⟩ := p4 q hq
      refine ⟨a1, a2, a3, j', by rw [ekn]; exact b1, ?_, by rw [etx]; exact b3, fun z => b4 ?_⟩
      · rw [(hk 191 _ (by omega) (by omega)).2]
        exact b2
      · rw [(hk 192 _ (by omega) (by omega)).1] at z
        exact z
    · rw [msg_cg hk (fun q hq => (hu _ _ (by omega)).2)]
      exact h4 jj (by rw [← ekn]; exact hj)
/-- MARK j of a row, as both have it -/
def MIN (c u : cS) (oc kc rr x y w j : Nat) : Prop := ∃ t b, c.1 135 x = nI t ∧ tgt u oc kc (u.2 223 y) = some t ∧ c.1 137 x = nI 1 ∧ u.1 224 y = bI b ∧ (b = true → w < 4) ∧ MGD c u x y t b ∧ dpl u rr j t (u.2 223 y) = false ∧ ftW u t w = true
theorem hnm_cg (h : ∀ l, l < k → u'.2 223 (rr * 20 + l) = u.2 223 (rr * 20 + l)) : hnm u' rr k nm = hnm u rr k nm := by
  unfold hnm
  congr 1
  cases e : ff (fun q => decide (u.2 223 (rr * 20 + q) = nm)) k with
  | some q =>
    obtain ⟨h1, h2, h3⟩ := ff_some e
    refine ff_is h1 ?_ (fun l hl => ?_)
    · rw [h q h1]
      exact h2
    · rw [h l (by omega)]
      exact h3 l hl
  | none =>
    cases e2 : ff (fun q => decide (u'.2 223 (rr * 20 + q) = nm)) k with
    | none => rfl
    | some q =>
      obtain ⟨h1, h2, -⟩ := ff_some e2
      rw [h q h1] at h2
      have := ff_none e q h1
      rw [h2] at this
      cases this
theorem MIN_cg {l : Nat} (h : MIN c u oc kc rr x (rr * 20 + l) w l) (hc : ∀ A j, ((A = 135 ∨ A = 136 ∨ A = 137) ∧ j = x) ∨ (139 ≤ A ∧ A ≤ 141 ∧ x * 4 ≤ j ∧ j < x * 4 + 4) → c'.1 A j = c.1 A j ∧ c'.2 A j = c.2 A j) (hu : ∀ A j, (223 ≤ A ∧ A ≤ 225 ∧ rr * 20 ≤ j ∧ j ≤ rr * 20 + l) ∨ (226 ≤ A ∧ A ≤ 228 ∧ (rr * 20 + l) * 4 ≤ j ∧ j < (rr * 20 + l) * 4 + 4) → u'.1 A j = u.1 A j ∧ u'.2 A j = u.2 A j) (hk : SAMK u u') : MIN c' u' oc kc rr x (rr * 20 + l) w l := by
  obtain ⟨t, b, h1, h2, h3, h4, h5, h6, h7, h8⟩ := h
  have e23 : ∀ q, q ≤ l → u'.2 223 (rr * 20 + q) = u.2 223 (rr * 20 + q) := fun q hq => (hu _ _ (by omega)).2
  refine ⟨t, b, by rw [(hc _ _ (by omega)).1]; exact h1, ?_, by rw [(hc _ _ (by omega)).1]; exact h3, by rw [(hu _ _ (by omega)).1]; exact h4, h5, MGD_cg h6 (fun A j z => hc A j (by omega)) (fun A j z => hu A j (by omega)) hk, ?_, ?_⟩
  · rw [e23 l (Nat.le_refl _), tgt_cg (fun l => (hk 181 _ (by omega) (by omega)).2) (fun l => (hk 189 _ (by omega) (by omega)).2)]
    exact h2
  · unfold dpl at h7 ⊢
    rw [e23 l (Nat.le_refl _), hnm_cg (fun q hq => e23 q (by omega)), mny_cg (fun l => (hk 197 _ (by omega) (by omega)).1)]
    exact h7
  · rw [ftW_cg (fun l => (hk 195 _ (by omega) (by omega)).1)]
    exact h8
/-- what the reading of one row may change -/
def qRc (rc U A j : Nat) : Bool := decide ((A = 145 ∧ j = 7) ∨ (A = 133 ∧ (j = 11 ∨ j = 13)) ∨ ((A = 142 ∨ A = 143 ∨ A = 144) ∧ j = rc) ∨ (134 ≤ A ∧ A ≤ 138 ∧ U ≤ j) ∨ (139 ≤ A ∧ A ≤ 141 ∧ U * 4 ≤ j))
def qRr (rr A j : Nat) : Bool := decide ((A = 174 ∧ (j = 67 ∨ j = 68)) ∨ (A = 222 ∧ j = rr) ∨ (223 ≤ A ∧ A ≤ 225 ∧ rr * 20 ≤ j ∧ j < rr * 20 + 20) ∨ (226 ≤ A ∧ A ≤ 228 ∧ rr * 80 ≤ j ∧ j < rr * 80 + 80))
def RWG (c u : cS) (oc kc rc rr U k w : Nat) : Prop := RWS c u rc rr U k ∧ ∀ j, j < k → MIN c u oc kc rr (U + j) (rr * 20 + j) w j
theorem SAMK_sx {r : Nat → Nat → Bool} (h : sx r u u') (hr : ∀ A l, 181 ≤ A → A ≤ 197 → r A l = false) : SAMK u u' := fun A l z1 z2 => ⟨h.1 A l (hr A l z1 z2), h.2 A l (hr A l z1 z2)⟩
theorem PO_cg (h : PO oc c u) (hc : ∀ A l, (18 ≤ A ∧ A ≤ 41) ∨ (A = 7 ∧ l = 2) → c'.1 A l = c.1 A l ∧ c'.2 A l = c.2 A l) (hu : ∀ A l, (181 ≤ A ∧ A ≤ 188) ∨ (A = 174 ∧ l = 15) → u'.1 A l = u.1 A l ∧ u'.2 A l = u.2 A l) : PO oc c' u' := by
  obtain ⟨o1, o2, o3, o4⟩ := h
  refine ⟨o1, by rw [(hc _ _ (by omega)).1]; exact o2, by rw [(hu _ _ (by omega)).1]; exact o3, fun o ho => ?_⟩
  obtain ⟨E, hr⟩ := o4 o ho
  exact ⟨E, RO_cg hr (fun A l z1 z2 => hc A l (by unfold oA at *; omega)) ⟨(hu _ _ (by omega)).1, (hu _ _ (by omega)).1, (hu _ _ (by omega)).1, (hu _ _ (by omega)).2⟩ (fun A l z1 z2 z3 z4 => (hu _ _ (by omega)).1) (fun l z1 z2 => (hu _ _ (by omega)).2)⟩
theorem ENV_sx {r q : Nat → Nat → Bool} (h : ENV c u oc kc mc cc) (hc : sx r c c') (hu : sx q u u') (h1 : ∀ A l, ((A = 7 ∧ (l = 2 ∨ l = 4)) ∨ (18 ≤ A ∧ A ≤ 113)) → r A l = false) (h2 : ∀ A l, (181 ≤ A ∧ A ≤ 197) ∨ (A = 174 ∧ (l = 15 ∨ l = 24)) → q A l = false) : ENV c' u' oc kc mc cc := by
  obtain ⟨e1, e2, e3⟩ := h
  have C : ∀ A l, ((A = 7 ∧ (l = 2 ∨ l = 4)) ∨ (18 ≤ A ∧ A ≤ 113)) → c'.1 A l = c.1 A l ∧ c'.2 A l = c.2 A l := fun A l z => ⟨hc.1 A l (h1 A l z), hc.2 A l (h1 A l z)⟩
  have U : ∀ A l, (181 ≤ A ∧ A ≤ 197) ∨ (A = 174 ∧ (l = 15 ∨ l = 24)) → u'.1 A l = u.1 A l ∧ u'.2 A l = u.2 A l := fun A l z => ⟨hu.1 A l (h2 A l z), hu.2 A l (h2 A l z)⟩
  have b1 := e1.1.1
  have b2 := e1.2.1
  refine ⟨NMQ_cg e1 (fun l _ => (C _ _ (by omega)).1) (fun o _ => (C _ _ (by unfold oA; omega)).2) (fun k _ => (C _ _ (by unfold kA; omega)).2) (fun l _ => (U _ _ (by omega)).1) (fun o _ => (U _ _ (by omega)).2) (fun k _ => (U _ _ (by omega)).2), PO_cg e2 (fun A l z => C A l (by omega)) (fun A l z => U A l (by omega)), fun k hk => RK_cg (e3 k hk) (fun A l z1 z2 => C A l (by unfold kA at *; omega)) (fun A l z1 z2 => U A l (by omega))⟩
end MK1
