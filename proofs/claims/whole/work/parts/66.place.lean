/-! CLASSES and PLACES -/
def fM (m : cS) (k : Nat) : Nat := ix (m.1 202 k)
def qM (m : cS) (k : Nat) : Nat := ix (m.1 203 k)
def pM (m : cS) (j : Nat) : Nat := ix (m.1 207 j)
/-- how many CLASSES, FIELDS, METHODS, PARAMETERS -/
def PC (cc : Nat) (c m : cS) : Prop := cc ≤ 12 ∧ c.1 7 10 = nI cc ∧ m.1 174 37 = nI cc ∧
  (∀ k, k < cc → fM m k ≤ 8 ∧ c.1 14 k = nI (fM m k) ∧ m.1 202 k = nI (fM m k)) ∧
  (∀ k, k < cc → qM m k ≤ 8 ∧ c.1 17 k = nI (qM m k) ∧ m.1 203 k = nI (qM m k)) ∧
  (∀ k j, k < cc → j < qM m k → pM m (8 * k + j) ≤ 4 ∧ c.1 116 (8 * k + j) = nI (pM m (8 * k + j)) ∧ m.1 207 (8 * k + j) = nI (pM m (8 * k + j)))
/-- the sort of a PLACE -/
def srt (cc : Nat) (m : cS) (p : Nat) : Option Nat :=
  if cc ≤ p / 100 then none else if p % 100 = 0 then some 0 else if p % 100 < 20 then (if p % 100 ≤ fM m (p / 100) then some 1 else none)
  else if qM m (p / 100) ≤ (p % 100 - 20) / 10 ∨ pM m (8 * (p / 100) + (p % 100 - 20) / 10) < p % 10 then none else some (if p % 10 = 0 then 2 else 3)
theorem i100 {p : Nat} (h : p < 2 ^ 31) : nI p / 100 = nI (p / 100) := pk_div (d := 100) h (by decide) (by decide)
theorem r100 {p : Nat} (h : p < 2 ^ 31) : nI p - nI p / 100 * 100 = nI (p % 100) := pk_rem (d := 100) h (by decide) (by decide)
theorem r10 {p : Nat} (h : p < 2 ^ 31) : nI p - nI p / 10 * 10 = nI (p % 10) := pk_rem (d := 10) h (by decide) (by decide)
theorem s20 {r : Nat} (h : 20 ≤ r) : nI r - 20 = nI (r - 20) := pk_sub (b := 20) h
theorem d10 {r : Nat} (h : r < 2 ^ 31) : nI r / 10 = nI (r / 10) := pk_div (d := 10) h (by decide) (by decide)
theorem e22 {n p : Nat} (h : p < 2 ^ 31) (h20 : 20 ≤ p % 100) : d_22 n (nI p) = some (nI (8 * (p / 100) + (p % 100 - 20) / 10)) := by
  unfold d_22
  rw [r100 h, i100 h, s20 h20, d10 (by omega), show (8 : Int32) = nI 8 from rfl, pk_mul, nI_add, Nat.mul_comm]
theorem e421 {n p : Nat} (h : p < 2 ^ 31) (h20 : 20 ≤ p % 100) : d_421 n (nI p) = some (nI (8 * (p / 100) + (p % 100 - 20) / 10)) := by
  unfold d_421
  rw [r100 h, i100 h, s20 h20, d10 (by omega), show (8 : Int32) = nI 8 from rfl, pk_mul, nI_add]
theorem m10 (p : Nat) : p % 100 % 10 = p % 10 := by omega
theorem e21 {n cc p : Nat} {c m : cS} (hp : p < 2 ^ 31) (h0 : c.1 7 0 = 1) (h : PC cc c m) : d_21 n (nI p) c = some (match srt cc m p with | some s => nI s | none => -1) := by
  obtain ⟨h1, h2, -, h4, h5, h6⟩ := h
  unfold d_21
  simp only [jn, lt]
  rw [r100 hp, i100 hp, if_neg (by rw [h0]; exact ne10), if_neg (nI_pos hp), h2]
  unfold srt
  by_cases g1 : cc ≤ p / 100
  · rw [if_neg (nI_nlt g1 (by omega)), if_pos g1]
  have g1' : p / 100 < cc := by omega
  rw [if_pos (nI_lt g1' (by omega)), if_neg g1]
  have hr : p % 100 < 100 := Nat.mod_lt _ (by decide)
  by_cases g2 : p % 100 = 0
  · rw [if_pos (by rw [g2]; rfl), if_pos g2]
    rfl
  rw [if_neg (nI_ne0 (by omega) (by omega)), if_neg g2]
  obtain ⟨f1, f2, -⟩ := h4 _ g1'
  obtain ⟨q1, q2, -⟩ := h5 _ g1'
  by_cases g3 : p % 100 < 20
  · rw [if_neg (show ¬ (20 : Int32) ≤ nI (p % 100) from nI_ge (b := 20) g3 (by decide)), if_pos g3, if_pos (ib_n (by omega) (by decide)), ix_n (by omega), f2]
    by_cases g4 : p % 100 ≤ fM m (p / 100)
    · rw [if_neg (nI_nlt g4 (by omega)), if_pos g4]
      rfl
    · rw [if_pos (nI_lt (by omega) (by omega)), if_neg g4]
  have g3' : 20 ≤ p % 100 := by omega
  rw [if_pos (show (20 : Int32) ≤ nI (p % 100) from nI_le (a := 20) g3' (by omega)), if_neg g3, if_pos (ib_n (by omega) (by decide)), ix_n (by omega), q2, s20 g3', d10 (by omega), r10 (by omega), m10]
  by_cases g5 : qM m (p / 100) ≤ (p % 100 - 20) / 10
  · rw [if_pos (nI_le g5 (by omega)), if_pos (Or.inl g5)]
  rw [if_neg (nI_ge (by omega) (by omega)), e22 hp g3']
  obtain ⟨p1, p2, -⟩ := h6 _ ((p % 100 - 20) / 10) g1' (by omega)
  show (if ib (nI (8 * (p / 100) + (p % 100 - 20) / 10)) 96 then _ else none) = _
  rw [if_pos (ib_n (by omega) (by decide)), ix_n (by omega), p2]
  by_cases g6 : pM m (8 * (p / 100) + (p % 100 - 20) / 10) < p % 10
  · rw [if_neg (nI_ge g6 (by omega)), if_pos (Or.inr g6)]
  · have g7 : ¬ (qM m (p / 100) ≤ (p % 100 - 20) / 10 ∨ pM m (8 * (p / 100) + (p % 100 - 20) / 10) < p % 10) := by omega
    rw [if_pos (nI_le (by omega) (by omega)), if_neg g7]
    by_cases g8 : p % 10 = 0
    · rw [if_pos (by rw [g8]; rfl), if_pos g8]
      rfl
    · rw [if_neg (nI_ne0 (by omega) (by omega)), if_neg g8]
      rfl
theorem e109 {n cc p : Nat} {c m : cS} (hp : p < 2 ^ 31) (h0 : m.1 174 14 = 1) (h : PC cc c m) : d_109 n (nI p) m = some (if (srt cc m p).isSome then 1 else 0) := by
  obtain ⟨h1, -, h3, h4, h5, h6⟩ := h
  unfold d_109
  simp only [jn, lt]
  rw [r100 hp, i100 hp, if_neg (by rw [h0]; exact ne10), if_neg (nI_pos hp), h3]
  unfold srt
  by_cases g1 : cc ≤ p / 100
  · rw [if_neg (nI_nlt g1 (by omega)), if_pos g1]
    rfl
  have g1' : p / 100 < cc := by omega
  rw [if_pos (nI_lt g1' (by omega)), if_neg g1]
  have hr : p % 100 < 100 := Nat.mod_lt _ (by decide)
  by_cases g2 : p % 100 = 0
  · rw [if_pos (by rw [g2]; rfl), if_pos g2]
    rfl
  rw [if_neg (nI_ne0 (by omega) (by omega)), if_neg g2]
  obtain ⟨f1, -, f2⟩ := h4 _ g1'
  obtain ⟨q1, -, q2⟩ := h5 _ g1'
  by_cases g9 : p % 100 ≤ 8
  · rw [if_neg (show ¬ (8 : Int32) < nI (p % 100) from nI_nlt (b := p % 100) (a := 8) g9 (by decide)), if_pos (show p % 100 < 20 by omega), if_pos (ib_n (by omega) (by decide)), ix_n (by omega), f2, show nI (p % 100) - 1 = nI (p % 100 - 1) from pk_sub (b := 1) (by omega)]
    by_cases g4 : p % 100 ≤ fM m (p / 100)
    · rw [if_neg (nI_ge (by omega) (by omega)), if_pos g4]
      rfl
    · rw [if_pos (nI_le (by omega) (by omega)), if_neg g4]
      rfl
  rw [if_pos (show (8 : Int32) < nI (p % 100) from nI_lt (a := 8) (by omega) (by omega))]
  by_cases g3 : p % 100 < 20
  · rw [if_neg (show ¬ (20 : Int32) ≤ nI (p % 100) from nI_ge (b := 20) g3 (by decide)), if_pos g3, if_neg (show ¬ p % 100 ≤ fM m (p / 100) by omega)]
    rfl
  have g3' : 20 ≤ p % 100 := by omega
  rw [if_pos (show (20 : Int32) ≤ nI (p % 100) from nI_le (a := 20) g3' (by omega)), if_neg g3, s20 g3', r10 (by omega), d10 (by omega), if_pos (ib_n (by omega) (by decide)), ix_n (by omega), q2]
  have e10 : (p % 100 - 20) % 10 = p % 10 := by omega
  rw [e10]
  by_cases g5 : qM m (p / 100) ≤ (p % 100 - 20) / 10
  · rw [if_pos (nI_le g5 (by omega)), if_pos (Or.inl g5)]
    rfl
  rw [if_neg (nI_ge (by omega) (by omega)), show (8 : Int32) = nI 8 from rfl, pk_mul, nI_add]
  obtain ⟨p1, -, p2⟩ := h6 _ ((p % 100 - 20) / 10) g1' (by omega)
  rw [if_pos (ib_n (by omega) (by decide)), ix_n (by omega), p2]
  by_cases g6 : pM m (8 * (p / 100) + (p % 100 - 20) / 10) < p % 10
  · rw [if_pos (nI_lt g6 (by omega)), if_pos (Or.inr g6)]
    rfl
  · have g7 : ¬ (qM m (p / 100) ≤ (p % 100 - 20) / 10 ∨ pM m (8 * (p / 100) + (p % 100 - 20) / 10) < p % 10) := by omega
    rw [if_neg (nI_nlt (by omega) (by omega)), if_neg g7]
    rfl
theorem e110 {n p : Nat} (hp : p < 2 ^ 31) : d_110 n (nI p) = some (if p % 100 = 0 then 1 else if p % 100 < 20 then 2 else if p % 10 = 0 then 4 else 8) := by
  unfold d_110
  simp only [jn, lt]
  rw [r100 hp]
  have hr : p % 100 < 100 := Nat.mod_lt _ (by decide)
  by_cases g2 : p % 100 = 0
  · rw [if_pos (by rw [g2]; rfl), if_pos g2]
  rw [if_neg (nI_ne0 (by omega) (by omega)), if_neg g2]
  by_cases g3 : p % 100 < 20
  · rw [if_neg (show ¬ (20 : Int32) ≤ nI (p % 100) from nI_ge (b := 20) g3 (by decide)), if_pos g3]
  have g3' : 20 ≤ p % 100 := by omega
  rw [if_pos (show (20 : Int32) ≤ nI (p % 100) from nI_le (a := 20) g3' (by omega)), if_neg g3, s20 g3', r10 (by omega)]
  have e10 : (p % 100 - 20) % 10 = p % 10 := by omega
  rw [e10]
  by_cases g8 : p % 10 = 0
  · rw [if_pos (by rw [g8]; rfl), if_pos g8]
  · rw [if_neg (nI_ne0 (by omega) (by omega)), if_neg g8]
/-- a PLACE in both, or in none -/
theorem plc {n cc : Nat} {a : Int32} {c m : cS} (h0 : c.1 7 0 = 1) (h0' : m.1 174 14 = 1) (h : PC cc c m) :
    (d_21 n a c = some (-1) ∧ d_109 n a m = some 0) ∨ ∃ p s, p < 1200 ∧ a = nI p ∧ srt cc m p = some s ∧ s < 4 ∧ d_21 n a c = some (nI s) ∧ d_109 n a m = some 1 ∧ d_110 n a = some (nI (2 ^ s)) := by
  rcases pk_ix a (n := 2 ^ 31 - 1) (by decide) with q | q | ⟨p, hp, rfl⟩
  · refine Or.inl ⟨?_, ?_⟩
    · unfold d_21
      simp only [jn, lt]
      rw [if_neg (by rw [h0]; exact ne10), if_pos q]
    · unfold d_109
      simp only [jn, lt]
      rw [if_neg (by rw [h0']; exact ne10), if_pos q]
  · have e : a = nI (2 ^ 31 - 1) := by
      apply Int32.toInt_inj.mp
      have h1 := Int32.le_iff_toInt_le.mp q
      rw [nI_toInt (by decide)] at h1 ⊢
      have h2 := Int32.toInt_lt a
      omega
    subst e
    have hs : srt cc m (2 ^ 31 - 1) = none := by
      unfold srt
      rw [if_pos (by have := h.1; omega)]
    refine Or.inl ⟨?_, ?_⟩
    · rw [e21 (by decide) h0 h, hs]
    · rw [e109 (by decide) h0' h, hs]
      rfl
  have hp' : p < 2 ^ 31 := by omega
  cases hs : srt cc m p with
  | none =>
    refine Or.inl ⟨?_, ?_⟩
    · rw [e21 hp' h0 h, hs]
    · rw [e109 hp' h0' h, hs]
      rfl
  | some s =>
    have h12 := h.1
    refine Or.inr ⟨p, s, ?_, rfl, hs, ?_, ?_, ?_, ?_⟩
    · unfold srt at hs
      split at hs
      · cases hs
      · omega
    · unfold srt at hs
      split at hs
      · cases hs
      split at hs
      · cases hs; omega
      split at hs
      · split at hs
        · cases hs; omega
        · cases hs
      split at hs
      · cases hs
      · cases hs
        split <;> omega
    · rw [e21 hp' h0 h, hs]
    · rw [e109 hp' h0' h, hs]
      rfl
    · rw [e110 hp']
      unfold srt at hs
      split at hs
      · cases hs
      split at hs
      · rename_i g
        cases hs
        rw [if_pos g]
        rfl
      rename_i g
      rw [if_neg g]
      split at hs
      · rename_i g2
        rw [if_pos g2]
        split at hs
        · cases hs
          rfl
        · cases hs
      rename_i g2
      rw [if_neg g2]
      split at hs
      · cases hs
      · cases hs
        by_cases g3 : p % 10 = 0
        · rw [if_pos g3, if_pos g3]
          rfl
        · rw [if_neg g3, if_neg g3]
          rfl
