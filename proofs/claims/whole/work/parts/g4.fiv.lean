/-! a FILE's values of sort 1 are ints -/
section FIVS
variable {L a : Nat} {b : Nat → Nat}
theorem iv_32 {x : Int32} : iv x.toInt64 := by
  unfold iv
  rw [Int32.toInt32_toInt64]
theorem fP1_iv {p : (Int64 × Nat × Int64) × Nat} (h : fP1 b L a = .inr p) : p.1.2.1 = 1 → iv p.1.2.2 := by
  unfold fP1 at h
  cases e : fNm b L a with
  | inl w =>
    rw [e] at h
    cases h
  | inr q =>
    rw [e] at h
    dsimp only at h
    cases e2 : fby b L 1 3 q.2 with
    | none =>
      rw [e2] at h
      cases h
    | some s =>
      rw [e2] at h
      dsimp only at h
      cases e3 : fVl b L s (q.2 + 1) with
      | inl w =>
        rw [e3] at h
        cases h
      | inr z =>
        rw [e3] at h
        cases h
        intro h1
        have h1 : s = 1 := h1
        unfold fVl at e3
        rw [if_pos h1] at e3
        cases e4 : fIl b L 4 (q.2 + 1) 0 with
        | inl w =>
          rw [e4] at e3
          cases e3
        | inr y =>
          rw [e4] at e3
          cases e3
          exact iv_32
theorem fPl_iv : ∀ (r a : Nat) (l : List (Int64 × Nat × Int64)) {p : List (Int64 × Nat × Int64) × Nat}, (∀ e, e ∈ l → e.2.1 = 1 → iv e.2.2) → fPl b L r a l = .inr p → ∀ e, e ∈ p.1 → e.2.1 = 1 → iv e.2.2
  | 0, a, l, p, hl, h => by
    cases h
    exact hl
  | r + 1, a, l, p, hl, h => by
    unfold fPl at h
    cases e : fP1 b L a with
    | inl w =>
      rw [e] at h
      cases h
    | inr q =>
      rw [e] at h
      refine fPl_iv r q.2 (l ++ [q.1]) (fun z hz => ?_) h
      rcases List.mem_append.mp hz with y | y
      · exact hl z y
      · rw [List.mem_singleton.mp y]
        exact fP1_iv e
theorem fMkk_iv {p : (Int64 × Option (List (Int64 × Nat × Int64))) × Nat} (h : fMkk b L a = .inr p) : fIv p.1 := by
  unfold fMkk at h
  cases e : fNm b L a with
  | inl w =>
    rw [e] at h
    cases h
  | inr q =>
    rw [e] at h
    dsimp only at h
    by_cases e1 : q.2 < L ∧ b q.2 = 255
    · rw [if_pos e1] at h
      cases h
      intro l hl
      cases hl
    · rw [if_neg e1] at h
      cases e2 : fby b L 0 4 q.2 with
      | none =>
        rw [e2] at h
        cases h
      | some k =>
        rw [e2] at h
        dsimp only at h
        cases e3 : fPl b L k (q.2 + 1) [] with
        | inl w =>
          rw [e3] at h
          cases h
        | inr z =>
          rw [e3] at h
          cases h
          intro l hl
          cases hl
          exact fPl_iv k (q.2 + 1) [] (fun z hz => absurd hz List.not_mem_nil) e3
theorem fMl_iv : ∀ (r a : Nat) (l : List (Int64 × Option (List (Int64 × Nat × Int64)))) {p : List (Int64 × Option (List (Int64 × Nat × Int64))) × Nat}, (∀ e, e ∈ l → fIv e) → fMl b L r a l = .inr p → ∀ e, e ∈ p.1 → fIv e
  | 0, a, l, p, hl, h => by
    cases h
    exact hl
  | r + 1, a, l, p, hl, h => by
    unfold fMl at h
    cases e : fMkk b L a with
    | inl w =>
      rw [e] at h
      cases h
    | inr q =>
      rw [e] at h
      refine fMl_iv r q.2 (l ++ [q.1]) (fun z hz => ?_) h
      rcases List.mem_append.mp hz with y | y
      · exact hl z y
      · rw [List.mem_singleton.mp y]
        exact fMkk_iv e
theorem fFl_iv {l : List (Int64 × Option (List (Int64 × Nat × Int64)))} (h : fFl b L = .inr l) : ∀ k, k ∈ l → fIv k := by
  unfold fFl at h
  cases e : fby b L 0 20 0 with
  | none =>
    rw [e] at h
    cases h
  | some k =>
    rw [e] at h
    dsimp only at h
    cases e2 : fMl b L k 1 [] with
    | inl w =>
      rw [e2] at h
      cases h
    | inr p =>
      rw [e2] at h
      dsimp only at h
      by_cases e3 : p.2 < L
      · rw [if_pos e3] at h
        cases h
      · rw [if_neg e3] at h
        cases h
        exact fMl_iv k 1 [] (fun z hz => absurd hz List.not_mem_nil) e2
end FIVS
