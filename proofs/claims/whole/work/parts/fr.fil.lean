/-! A FILE: what it says -/
section FILS
variable {n k a L w : Nat} {b : Nat → Nat}
def fby (b : Nat → Nat) (L lo hi a : Nat) : Option Nat := if a < L ∧ lo ≤ b a ∧ b a ≤ hi then some (b a) else none
/-- the signs of a NAME: r of them are left, k were read -/
def fNl (b : Nat → Nat) (L : Nat) : Nat → Nat → Nat → Int64 → Nat ⊕ (Int64 × Nat)
  | 0, _, a, v => .inr (v, a)
  | r + 1, k, a, v => if a < L ∧ (lxL (b a) = true ∨ (k ≠ 0 ∧ lxD (b a) = true)) then fNl b L r (k + 1) (a + 1) ((v <<< ((8 : Int32).toInt64 &&& 63)) ||| (nI (b a)).toInt64) else .inl a
def fNm (b : Nat → Nat) (L a : Nat) : Nat ⊕ (Int64 × Nat) := match fby b L 1 8 a with
  | none => .inl a
  | some k => fNl b L k 0 (a + 1) 0
def fTl (b : Nat → Nat) (L : Nat) : Nat → Nat → Int64 → Nat ⊕ (Int64 × Nat)
  | 0, a, v => .inr (v, a)
  | r + 1, a, v => if a < L ∧ 32 ≤ b a ∧ b a ≤ 126 ∧ b a ≠ 39 then fTl b L r (a + 1) ((v <<< ((8 : Int32).toInt64 &&& 63)) ||| (nI (b a)).toInt64) else .inl a
def fTx (b : Nat → Nat) (L a : Nat) : Nat ⊕ (Int64 × Nat) := match fby b L 0 8 a with
  | none => .inl a
  | some k => fTl b L k (a + 1) 0
def fIl (b : Nat → Nat) (L : Nat) : Nat → Nat → Int32 → Nat ⊕ (Int32 × Nat)
  | 0, a, v => .inr (v, a)
  | r + 1, a, v => if a < L then fIl b L r (a + 1) ((v <<< (8 &&& 31)) ||| nI (b a)) else .inl a
def fVl (b : Nat → Nat) (L s a : Nat) : Nat ⊕ (Int64 × Nat) := if s = 1 then (match fIl b L 4 a 0 with
  | .inl w => .inl w
  | .inr p => .inr (p.1.toInt64, p.2)) else if s = 2 then fTx b L a else fNm b L a
/-- a PAIR: name, sort, value -/
def fP1 (b : Nat → Nat) (L a : Nat) : Nat ⊕ ((Int64 × Nat × Int64) × Nat) := match fNm b L a with
  | .inl w => .inl w
  | .inr p => match fby b L 1 3 p.2 with
    | none => .inl p.2
    | some s => match fVl b L s (p.2 + 1) with
      | .inl w => .inl w
      | .inr q => .inr ((p.1, s, q.1), q.2)
def fPl (b : Nat → Nat) (L : Nat) : Nat → Nat → List (Int64 × Nat × Int64) → Nat ⊕ (List (Int64 × Nat × Int64) × Nat)
  | 0, a, l => .inr (l, a)
  | r + 1, a, l => match fP1 b L a with
    | .inl w => .inl w
    | .inr p => fPl b L r p.2 (l ++ [p.1])
/-- a MARK: name; PAIRS, or none (a no MARK) -/
def fMkk (b : Nat → Nat) (L a : Nat) : Nat ⊕ ((Int64 × Option (List (Int64 × Nat × Int64))) × Nat) := match fNm b L a with
  | .inl w => .inl w
  | .inr p => if p.2 < L ∧ b p.2 = 255 then .inr ((p.1, none), p.2 + 1) else match fby b L 0 4 p.2 with
    | none => .inl p.2
    | some k => match fPl b L k (p.2 + 1) [] with
      | .inl w => .inl w
      | .inr q => .inr ((p.1, some q.1), q.2)
def fMl (b : Nat → Nat) (L : Nat) : Nat → Nat → List (Int64 × Option (List (Int64 × Nat × Int64))) → Nat ⊕ (List (Int64 × Option (List (Int64 × Nat × Int64))) × Nat)
  | 0, a, l => .inr (l, a)
  | r + 1, a, l => match fMkk b L a with
    | .inl w => .inl w
    | .inr p => fMl b L r p.2 (l ++ [p.1])
def fFl (b : Nat → Nat) (L : Nat) : Nat ⊕ List (Int64 × Option (List (Int64 × Nat × Int64))) := match fby b L 0 20 0 with
  | none => .inl 0
  | some k => match fMl b L k 1 [] with
    | .inl w => .inl w
    | .inr p => if p.2 < L then .inl p.2 else .inr p.1
theorem fby_some {lo hi x : Nat} (h : fby b L lo hi a = some x) : a < L ∧ lo ≤ x ∧ x ≤ hi ∧ x = b a := by
  unfold fby at h
  by_cases e : a < L ∧ lo ≤ b a ∧ b a ≤ hi
  · rw [if_pos e] at h
    cases h
    exact ⟨e.1, e.2.1, e.2.2, rfl⟩
  · rw [if_neg e] at h
    cases h
theorem fNl_b : ∀ {r k a : Nat} {v : Int64}, a ≤ L → (∀ {w}, fNl b L r k a v = .inl w → a ≤ w ∧ w ≤ L) ∧ ∀ {p}, fNl b L r k a v = .inr p → p.2 = a + r ∧ p.2 ≤ L
  | 0, _, a, v, ha => ⟨fun h => (by cases h), fun {p} h => by
    cases h
    exact ⟨rfl, ha⟩⟩
  | r + 1, k, a, v, ha => by
    unfold fNl
    by_cases e : a < L ∧ (lxL (b a) = true ∨ (k ≠ 0 ∧ lxD (b a) = true))
    · rw [if_pos e]
      have ih := fNl_b (r := r) (k := k + 1) (a := a + 1) (v := (v <<< ((8 : Int32).toInt64 &&& 63)) ||| (nI (b a)).toInt64) (by omega)
      exact ⟨fun h => by have := ih.1 h; omega, fun {p} h => by have := ih.2 h; omega⟩
    · rw [if_neg e]
      exact ⟨fun h => by
        cases h
        exact ⟨Nat.le_refl _, ha⟩, fun {p} h => by cases h⟩
theorem fNm_b (ha : a ≤ L) : (∀ {w}, fNm b L a = .inl w → a ≤ w ∧ w ≤ L) ∧ ∀ {p}, fNm b L a = .inr p → a + 2 ≤ p.2 ∧ p.2 ≤ L := by
  unfold fNm
  cases e : fby b L 1 8 a with
  | none => exact ⟨fun h => by
      cases h
      exact ⟨Nat.le_refl _, ha⟩, fun {p} h => by cases h⟩
  | some k =>
    have hk := fby_some e
    have ih := fNl_b (b := b) (r := k) (k := 0) (a := a + 1) (v := 0) (L := L) (by omega)
    exact ⟨fun h => by have := ih.1 h; omega, fun {p} h => by have := ih.2 h; omega⟩
theorem fTl_b : ∀ {r a : Nat} {v : Int64}, a ≤ L → (∀ {w}, fTl b L r a v = .inl w → a ≤ w ∧ w ≤ L) ∧ ∀ {p}, fTl b L r a v = .inr p → a ≤ p.2 ∧ p.2 ≤ L
  | 0, a, v, ha => ⟨fun h => (by cases h), fun {p} h => by
    cases h
    exact ⟨Nat.le_refl _, ha⟩⟩
  | r + 1, a, v, ha => by
    unfold fTl
    by_cases e : a < L ∧ 32 ≤ b a ∧ b a ≤ 126 ∧ b a ≠ 39
    · rw [if_pos e]
      have ih := fTl_b (r := r) (a := a + 1) (v := (v <<< ((8 : Int32).toInt64 &&& 63)) ||| (nI (b a)).toInt64) (by omega)
      exact ⟨fun h => by have := ih.1 h; omega, fun {p} h => by have := ih.2 h; omega⟩
    · rw [if_neg e]
      exact ⟨fun h => by
        cases h
        exact ⟨Nat.le_refl _, ha⟩, fun {p} h => by cases h⟩
theorem fTx_b (ha : a ≤ L) : (∀ {w}, fTx b L a = .inl w → a ≤ w ∧ w ≤ L) ∧ ∀ {p}, fTx b L a = .inr p → a ≤ p.2 ∧ p.2 ≤ L := by
  unfold fTx
  cases e : fby b L 0 8 a with
  | none => exact ⟨fun h => by
      cases h
      exact ⟨Nat.le_refl _, ha⟩, fun {p} h => by cases h⟩
  | some k =>
    have hk := fby_some e
    have ih := fTl_b (b := b) (r := k) (a := a + 1) (v := 0) (L := L) (by omega)
    exact ⟨fun h => by have := ih.1 h; omega, fun {p} h => by have := ih.2 h; omega⟩
theorem fIl_b : ∀ {r a : Nat} {v : Int32}, a ≤ L → (∀ {w}, fIl b L r a v = .inl w → a ≤ w ∧ w ≤ L) ∧ ∀ {p}, fIl b L r a v = .inr p → a ≤ p.2 ∧ p.2 ≤ L
  | 0, a, v, ha => ⟨fun h => (by cases h), fun {p} h => by
    cases h
    exact ⟨Nat.le_refl _, ha⟩⟩
  | r + 1, a, v, ha => by
    unfold fIl
    by_cases e : a < L
    · rw [if_pos e]
      have ih := fIl_b (r := r) (a := a + 1) (v := (v <<< (8 &&& 31)) ||| nI (b a)) (by omega)
      exact ⟨fun h => by have := ih.1 h; omega, fun {p} h => by have := ih.2 h; omega⟩
    · rw [if_neg e]
      exact ⟨fun h => by
        cases h
        exact ⟨Nat.le_refl _, ha⟩, fun {p} h => by cases h⟩
theorem fVl_b {s : Nat} (ha : a ≤ L) : (∀ {w}, fVl b L s a = .inl w → a ≤ w ∧ w ≤ L) ∧ ∀ {p}, fVl b L s a = .inr p → a ≤ p.2 ∧ p.2 ≤ L := by
  unfold fVl
  by_cases e1 : s = 1
  · rw [if_pos e1]
    have ih := fIl_b (b := b) (r := 4) (a := a) (v := 0) (L := L) ha
    cases e : fIl b L 4 a 0 with
    | inl w => exact ⟨fun h => by
        cases h
        exact ih.1 e, fun {p} h => by cases h⟩
    | inr p => exact ⟨fun h => (by cases h), fun {p} h => by
        cases h
        exact ih.2 e⟩
  · rw [if_neg e1]
    by_cases e2 : s = 2
    · rw [if_pos e2]
      exact fTx_b ha
    · rw [if_neg e2]
      have ih := fNm_b (b := b) ha
      exact ⟨fun h => ih.1 h, fun {p} h => by have := ih.2 h; omega⟩
theorem fP1_b (ha : a ≤ L) : (∀ {w}, fP1 b L a = .inl w → a ≤ w ∧ w ≤ L) ∧ ∀ {p}, fP1 b L a = .inr p → a + 3 ≤ p.2 ∧ p.2 ≤ L ∧ 1 ≤ p.1.2.1 ∧ p.1.2.1 ≤ 3 := by
  have h1 := fNm_b (b := b) ha
  unfold fP1
  cases e : fNm b L a with
  | inl w => exact ⟨fun h => by
      cases h
      exact h1.1 e, fun {p} h => by cases h⟩
  | inr q =>
    have hq := h1.2 e
    dsimp only
    cases e2 : fby b L 1 3 q.2 with
    | none => exact ⟨fun h => by
        cases h
        omega, fun {p} h => by cases h⟩
    | some s =>
      have hs := fby_some e2
      have h3 := fVl_b (b := b) (s := s) (a := q.2 + 1) (L := L) (by omega)
      dsimp only
      cases e3 : fVl b L s (q.2 + 1) with
      | inl w => exact ⟨fun h => by
          cases h
          have := h3.1 e3
          omega, fun {p} h => by cases h⟩
      | inr z => exact ⟨fun h => (by cases h), fun {p} h => by
          cases h
          have := h3.2 e3
          dsimp only
          omega⟩
theorem fPl_b : ∀ {r a : Nat} {l : List (Int64 × Nat × Int64)}, a ≤ L → (∀ x ∈ l, 1 ≤ x.2.1 ∧ x.2.1 ≤ 3) → (∀ {w}, fPl b L r a l = .inl w → a ≤ w ∧ w ≤ L) ∧ ∀ {p}, fPl b L r a l = .inr p → a ≤ p.2 ∧ p.2 ≤ L ∧ p.1.length = l.length + r ∧ ∀ x ∈ p.1, 1 ≤ x.2.1 ∧ x.2.1 ≤ 3
  | 0, a, l, ha, hl => ⟨fun h => (by cases h), fun {p} h => by
    cases h
    exact ⟨Nat.le_refl _, ha, rfl, hl⟩⟩
  | r + 1, a, l, ha, hl => by
    have h1 := fP1_b (b := b) ha
    unfold fPl
    cases e : fP1 b L a with
    | inl w => exact ⟨fun h => by
        cases h
        exact h1.1 e, fun {p} h => by cases h⟩
    | inr q =>
      have hq := h1.2 e
      have ih := fPl_b (r := r) (a := q.2) (l := l ++ [q.1]) hq.2.1 (fun x hx => by
        rcases List.mem_append.mp hx with z | z
        · exact hl x z
        · rw [List.mem_singleton.mp z]
          exact hq.2.2)
      refine ⟨fun h => by have := ih.1 h; omega, fun {p} h => ?_⟩
      have := ih.2 h
      rw [List.length_append, List.length_singleton] at this
      exact ⟨by omega, this.2.1, by omega, this.2.2.2⟩
/-- MARKS that may stand in a FILE -/
def fOk (m : Int64 × Option (List (Int64 × Nat × Int64))) : Prop := ∀ l, m.2 = some l → l.length ≤ 4 ∧ ∀ x ∈ l, 1 ≤ x.2.1 ∧ x.2.1 ≤ 3
theorem fMkk_b (ha : a ≤ L) : (∀ {w}, fMkk b L a = .inl w → a ≤ w ∧ w ≤ L) ∧ ∀ {p}, fMkk b L a = .inr p → a + 3 ≤ p.2 ∧ p.2 ≤ L ∧ fOk p.1 := by
  have h1 := fNm_b (b := b) ha
  unfold fMkk
  cases e : fNm b L a with
  | inl w => exact ⟨fun h => by
      cases h
      exact h1.1 e, fun {p} h => by cases h⟩
  | inr q =>
    have hq := h1.2 e
    dsimp only
    by_cases en : q.2 < L ∧ b q.2 = 255
    · rw [if_pos en]
      refine ⟨fun h => (by cases h), fun {p} h => ?_⟩
      cases h
      exact ⟨by dsimp only; omega, by dsimp only; omega, fun l hl => by cases hl⟩
    · rw [if_neg en]
      cases e2 : fby b L 0 4 q.2 with
      | none => exact ⟨fun h => by
          cases h
          omega, fun {p} h => by cases h⟩
      | some k =>
        have hk := fby_some e2
        have h3 := fPl_b (b := b) (r := k) (a := q.2 + 1) (l := []) (L := L) (by omega) (fun x hx => by cases hx)
        dsimp only
        cases e3 : fPl b L k (q.2 + 1) [] with
        | inl w => exact ⟨fun h => by
            cases h
            have := h3.1 e3
            omega, fun {p} h => by cases h⟩
        | inr z =>
          refine ⟨fun h => (by cases h), fun {p} h => ?_⟩
          cases h
          have := h3.2 e3
          refine ⟨by dsimp only; omega, by dsimp only; omega, fun l hl => ?_⟩
          dsimp only at hl
          cases hl
          exact ⟨by have := this.2.2.1; simp at this; omega, this.2.2.2⟩
theorem fMl_b : ∀ {r a : Nat} {l : List (Int64 × Option (List (Int64 × Nat × Int64)))}, a ≤ L → (∀ x ∈ l, fOk x) → (∀ {w}, fMl b L r a l = .inl w → a ≤ w ∧ w ≤ L) ∧ ∀ {p}, fMl b L r a l = .inr p → a + 3 * r ≤ p.2 ∧ p.2 ≤ L ∧ p.1.length = l.length + r ∧ ∀ x ∈ p.1, fOk x
  | 0, a, l, ha, hl => ⟨fun h => (by cases h), fun {p} h => by
    cases h
    exact ⟨Nat.le_refl _, ha, rfl, hl⟩⟩
  | r + 1, a, l, ha, hl => by
    have h1 := fMkk_b (b := b) ha
    unfold fMl
    cases e : fMkk b L a with
    | inl w => exact ⟨fun h => by
        cases h
        exact h1.1 e, fun {p} h => by cases h⟩
    | inr q =>
      have hq := h1.2 e
      have ih := fMl_b (r := r) (a := q.2) (l := l ++ [q.1]) hq.2.1 (fun x hx => by
        rcases List.mem_append.mp hx with z | z
        · exact hl x z
        · rw [List.mem_singleton.mp z]
          exact hq.2.2)
      refine ⟨fun h => by have := ih.1 h; omega, fun {p} h => ?_⟩
      have := ih.2 h
      rw [List.length_append, List.length_singleton] at this
      exact ⟨by omega, this.2.1, by omega, this.2.2.2⟩
/-- a FILE of so many MARKS is so long -/
theorem fFl_b {l : List (Int64 × Option (List (Int64 × Nat × Int64)))} (h : fFl b L = .inr l) : 3 * l.length + 1 ≤ L ∧ l.length ≤ 20 ∧ b 0 = l.length ∧ ∀ x ∈ l, fOk x := by
  unfold fFl at h
  cases e : fby b L 0 20 0 with
  | none =>
    rw [e] at h
    cases h
  | some k =>
    rw [e] at h
    dsimp only at h
    have hk := fby_some e
    have h2 := fMl_b (b := b) (r := k) (a := 1) (l := []) (L := L) (by omega) (fun x hx => by cases hx)
    cases e2 : fMl b L k 1 [] with
    | inl w =>
      rw [e2] at h
      cases h
    | inr p =>
      rw [e2] at h
      dsimp only at h
      by_cases e3 : p.2 < L
      · rw [if_pos e3] at h
        cases h
      · rw [if_neg e3] at h
        cases h
        have := h2.2 e2
        simp at this
        exact ⟨by omega, by omega, by omega, fun x hx => this.2.2.2 x.1 x.2 hx⟩
end FILS
