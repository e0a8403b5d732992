/-! READING a KIND: its MEMBERS -/
section MBR
variable {n i j N k p oc kc mc cc : Nat} {c d u w v c' u' : cS} {K P : Nat → Nat} {V : Nat → Int64} {nm val : Int64} {T pre : Bool}
/-- MEMBERS as far as they are read -/
def MBD (c u : cS) (k p : Nat) : Prop := p ≤ 4 ∧ c.1 (kA k) 1 = nI p ∧ u.1 190 k = nI p ∧ (∀ j, j < p → c.2 (kA k + 1) j = u.2 191 (4 * k + j) ∧ nb (u.1 192 (4 * k + j)) ∧ c.1 (kA k + 2) j = txt u k j ∧ nb (u.1 193 (4 * k + j)) ∧ c.1 (kA k + 3) j = u.1 193 (4 * k + j) ∧ (u.1 193 (4 * k + j) = nI 1 → c.2 (kA k + 4) j = u.2 194 (4 * k + j) ∧ (u.1 192 (4 * k + j) = nI 0 → iv (u.2 194 (4 * k + j))))) ∧ ∀ j, j < p → ff (fun l => decide (u.2 191 (4 * k + l) = u.2 191 (4 * k + j))) p = some j
def wrC (d : cS) (k p : Nat) (nm : Int64) (s : Int32) (b : Int32) (val : Int64) : cS := pI (pL (pI (pI (pL d (kA k + 4) p val) (kA k + 3) p b) (kA k + 2) p s) (kA k + 1) p nm) (kA k) 1 (nI (p + 1))
theorem wrC_at {s b : Int32} {l : Nat} : (wrC d k p nm s b val).1 (kA k) 1 = nI (p + 1) ∧ (wrC d k p nm s b val).2 (kA k + 1) l = (if l = p then nm else d.2 (kA k + 1) l) ∧ (wrC d k p nm s b val).1 (kA k + 2) l = (if l = p then s else d.1 (kA k + 2) l) ∧ (wrC d k p nm s b val).1 (kA k + 3) l = (if l = p then b else d.1 (kA k + 3) l) ∧ (wrC d k p nm s b val).2 (kA k + 4) l = (if l = p then val else d.2 (kA k + 4) l) := by
  refine ⟨?_, ?_, ?_, ?_, ?_⟩
  · unfold wrC
    rw [rI, if_pos ⟨rfl, rfl⟩]
  · show (pL (pI (pI (pL d (kA k + 4) p val) (kA k + 3) p b) (kA k + 2) p s) (kA k + 1) p nm).2 (kA k + 1) l = _
    rw [rL]
    by_cases e : l = p
    · rw [if_pos ⟨rfl, e⟩, if_pos e]
    · rw [if_neg (fun z => e z.2), if_neg e]
      show (pL d (kA k + 4) p val).2 (kA k + 1) l = _
      rw [rL, if_neg (by omega)]
  · unfold wrC
    rw [rI, if_neg (by omega)]
    show (pI (pI (pL d (kA k + 4) p val) (kA k + 3) p b) (kA k + 2) p s).1 (kA k + 2) l = _
    rw [rI]
    by_cases e : l = p
    · rw [if_pos ⟨rfl, e⟩, if_pos e]
    · rw [if_neg (fun z => e z.2), if_neg e, rI, if_neg (by omega)]
      rfl
  · unfold wrC
    rw [rI, if_neg (by omega)]
    show (pI (pI (pL d (kA k + 4) p val) (kA k + 3) p b) (kA k + 2) p s).1 (kA k + 3) l = _
    rw [rI, if_neg (by omega), rI]
    by_cases e : l = p
    · rw [if_pos ⟨rfl, e⟩, if_pos e]
    · rw [if_neg (fun z => e z.2), if_neg e]
      rfl
  · show (pL (pI (pI (pL d (kA k + 4) p val) (kA k + 3) p b) (kA k + 2) p s) (kA k + 1) p nm).2 (kA k + 4) l = _
    rw [rL, if_neg (by omega)]
    show (pL d (kA k + 4) p val).2 (kA k + 4) l = _
    rw [rL]
    by_cases e : l = p
    · rw [if_pos ⟨rfl, e⟩, if_pos e]
    · rw [if_neg (fun z => e z.2), if_neg e]
def qMBc (k A l : Nat) : Bool := decide ((A = 145 ∧ l = 7) ∨ (A = kA k ∧ l = 1) ∨ (kA k < A ∧ A ≤ kA k + 4))
def qMBu (k A l : Nat) : Bool := decide ((A = 174 ∧ (l = 67 ∨ l = 68)) ∨ (A = 190 ∧ l = k) ∨ (191 ≤ A ∧ A ≤ 194 ∧ 4 * k ≤ l ∧ l < 4 * k + 4))
theorem wrC_sx {s b : Int32} : sx (fun A l => decide ((A = kA k ∧ l = 1) ∨ (kA k < A ∧ A ≤ kA k + 4))) d (wrC d k p nm s b val) := sx_pI (sx_pL (sx_pI (sx_pI (sx_pL sx_rfl (decide_eq_true (by omega))) (decide_eq_true (by omega))) (decide_eq_true (by omega))) (decide_eq_true (by omega))) (decide_eq_true (by omega))
/-- a MEMBER more: u' is u with the new one written -/
theorem MBD_ad {s : Int32} (h : MBD d u k p) (hp : p < 4) (hfr : ff (fun l => decide (u.2 191 (4 * k + l) = nm)) p = none) (h190 : u'.1 190 k = nI (p + 1)) (h191 : ∀ l, l < 4 → u'.2 191 (4 * k + l) = if l = p then nm else u.2 191 (4 * k + l)) (h192 : ∀ l, l < 4 → u'.1 192 (4 * k + l) = if l = p then bI T else u.1 192 (4 * k + l)) (h193 : ∀ l, l < 4 → u'.1 193 (4 * k + l) = if l = p then bI pre else u.1 193 (4 * k + l)) (h194 : ∀ l, l < 4 → l ≠ p → u'.2 194 (4 * k + l) = u.2 194 (4 * k + l)) (h194p : pre = true → u'.2 194 (4 * k + p) = val) (hs : s = if T = true then nI 2 else nI 1) (hiv : pre = true → T = false → iv val) : MBD (wrC d k p nm s (bI pre) val) u' k (p + 1) := by
  obtain ⟨h1, h2, h3, h4, h5⟩ := h
  refine ⟨by omega, (wrC_at (l := 0)).1, h190, fun j hj => ?_, fun j hj => ?_⟩
  · obtain ⟨-, c1, c2, c3, c4⟩ := wrC_at (d := d) (k := k) (p := p) (nm := nm) (s := s) (b := bI pre) (val := val) (l := j)
    rw [c1, c2, c3, c4, h191 j (by omega), h192 j (by omega), h193 j (by omega)]
    unfold txt
    rw [h192 j (by omega)]
    by_cases e : j = p
    · rw [if_pos e, if_pos e, if_pos e, if_pos e, if_pos e, if_pos e, if_pos e]
      refine ⟨rfl, bI_nb, ?_, bI_nb, rfl, fun z => ?_⟩
      · rw [hs]
        cases T
        · rfl
        · rfl
      · have hpre : pre = true := by
          cases pre
          · exact absurd z (by decide)
          · rfl
        rw [e, h194p hpre]
        refine ⟨rfl, fun z2 => hiv hpre ?_⟩
        cases T
        · rfl
        · exact absurd z2 (by decide)
    · rw [if_neg e, if_neg e, if_neg e, if_neg e, if_neg e, if_neg e, if_neg e, h194 j (by omega) e]
      have := h4 j (by omega)
      unfold txt at this
      exact this
  · rw [h191 j (by omega)]
    by_cases e : j = p
    · rw [if_pos e, e]
      refine ff_new (fun l hl => ?_) ?_
      · rw [h191 l (by omega), if_neg (by omega)]
        exact ff_none hfr l hl
      · rw [h191 p (by omega), if_pos rfl]
        exact decide_eq_true rfl
    · rw [if_neg e]
      refine ff_add (h5 j (by omega)) (fun l hl => ?_)
      rw [h191 l (by omega), if_neg (by omega)]
theorem MBD_cg (h : MBD c u k p) (hc : ∀ A l, kA k ≤ A → A ≤ kA k + 4 → c'.1 A l = c.1 A l ∧ c'.2 A l = c.2 A l) (hu : ∀ A l, 190 ≤ A → A ≤ 194 → u'.1 A l = u.1 A l ∧ u'.2 A l = u.2 A l) : MBD c' u' k p := by
  obtain ⟨h1, h2, h3, h4, h5⟩ := h
  refine ⟨h1, by rw [(hc _ _ (by omega) (by omega)).1]; exact h2, by rw [(hu _ _ (by omega) (by omega)).1]; exact h3, fun j hj => ?_, fun j hj => ?_⟩
  · rw [(hc (kA k + 1) _ (by omega) (by omega)).2, (hc (kA k + 2) _ (by omega) (by omega)).1, (hc (kA k + 3) _ (by omega) (by omega)).1, (hc (kA k + 4) _ (by omega) (by omega)).2, (hu 191 _ (by omega) (by omega)).2, (hu 192 _ (by omega) (by omega)).1, (hu 193 _ (by omega) (by omega)).1, (hu 194 _ (by omega) (by omega)).2, txt_cg (u := u) (fun l => (hu 192 _ (by omega) (by omega)).1)]
    exact h4 j hj
  · rw [(hu 191 _ (by omega) (by omega)).2, ffc (q := fun l => decide (u.2 191 (4 * k + l) = u.2 191 (4 * k + j))) (fun l => by rw [(hu 191 _ (by omega) (by omega)).2])]
    exact h5 j hj
end MBR
