/-! READING an ORDER: what is BELOW what, as pure words -/
section OCL
variable {n m a b d e x k : Nat} {R : Nat → Nat → Bool}
/-- closed over middles under m -/
def wcl (R : Nat → Nat → Bool) : Nat → Nat → Nat → Bool
  | 0 => R
  | m + 1 => fun a b => wcl R m a b || (wcl R m a m && wcl R m m b)
theorem wcl_up (h : wcl R m a b = true) : wcl R (m + 1) a b = true := by
  show (_ || _) = true
  rw [h]
  rfl
theorem wcl_mono (h : wcl R m a b = true) : ∀ k, wcl R (m + k) a b = true
  | 0 => h
  | k + 1 => wcl_up (wcl_mono h k)
theorem wcl_R (h : R a b = true) (m : Nat) : wcl R m a b = true := by
  have := wcl_mono (m := 0) (R := R) (a := a) (b := b) h m
  rw [Nat.zero_add] at this
  exact this
theorem wcl_s : wcl R (m + 1) a b = true ↔ wcl R m a b = true ∨ (wcl R m a m = true ∧ wcl R m m b = true) := by
  show (_ || _) = true ↔ _
  rw [Bool.or_eq_true, Bool.and_eq_true]
theorem wcl_row : wcl R (m + 1) m b = wcl R m m b := by
  show (wcl R m m b || (wcl R m m m && wcl R m m b)) = wcl R m m b
  cases wcl R m m b <;> cases wcl R m m m <;> rfl
theorem wcl_col : wcl R (m + 1) a m = wcl R m a m := by
  show (wcl R m a m || (wcl R m a m && wcl R m m m)) = wcl R m a m
  cases wcl R m a m <;> cases wcl R m m m <;> rfl
theorem wcl_tr : ∀ m x, x < m → ∀ a b, wcl R m a x = true → wcl R m x b = true → wcl R m a b = true
  | 0, x, hx, _, _, _, _ => absurd hx (Nat.not_lt_zero _)
  | m + 1, x, hx, a, b, h1, h2 => by
    by_cases e : x = m
    · subst e
      rw [wcl_col] at h1
      rw [wcl_row] at h2
      exact wcl_s.mpr (Or.inr ⟨h1, h2⟩)
    · have ih := wcl_tr m x (by omega)
      rcases wcl_s.mp h1 with h1 | ⟨h1, h1'⟩
      · rcases wcl_s.mp h2 with h2 | ⟨h2, h2'⟩
        · exact wcl_up (ih a b h1 h2)
        · exact wcl_s.mpr (Or.inr ⟨ih a m h1 h2, h2'⟩)
      · rcases wcl_s.mp h2 with h2 | ⟨h2, h2'⟩
        · exact wcl_s.mpr (Or.inr ⟨h1, ih m b h1' h2⟩)
        · exact wcl_s.mpr (Or.inr ⟨h1, h2'⟩)
/-- all under n -/
def allN (p : Nat → Bool) : Nat → Bool
  | 0 => true
  | k + 1 => allN p k && p k
theorem allN_iff {p : Nat → Bool} : ∀ {n : Nat}, allN p n = true ↔ ∀ i, i < n → p i = true
  | 0 => ⟨fun _ i hi => absurd hi (Nat.not_lt_zero _), fun _ => rfl⟩
  | n + 1 => by
    show (allN p n && p n) = true ↔ _
    rw [Bool.and_eq_true, allN_iff]
    constructor
    · rintro ⟨h1, h2⟩ i hi
      by_cases e : i = n
      · rw [e]
        exact h2
      · exact h1 i (by omega)
    · intro h
      exact ⟨fun i hi => h i (by omega), h n (by omega)⟩
/-- the least of those above a and b; W turned round: the greatest of those below -/
def lbB (W : Nat → Nat → Bool) (n a b e : Nat) : Bool := W a e && W b e && allN (fun d => !(W a d && W b d) || W e d) n
def lbO (W : Nat → Nat → Bool) (n a b : Nat) : Option Nat := ff (lbB W n a b) n
theorem lbB_iff {W : Nat → Nat → Bool} : lbB W n a b e = true ↔ W a e = true ∧ W b e = true ∧ ∀ d, d < n → W a d = true → W b d = true → W e d = true := by
  unfold lbB
  rw [Bool.and_eq_true, Bool.and_eq_true, allN_iff]
  constructor
  · rintro ⟨⟨h1, h2⟩, h3⟩
    refine ⟨h1, h2, fun d hd g1 g2 => ?_⟩
    have := h3 d hd
    rw [g1, g2] at this
    exact this
  · rintro ⟨h1, h2, h3⟩
    refine ⟨⟨h1, h2⟩, fun d hd => ?_⟩
    cases g1 : W a d with
    | false => rfl
    | true =>
      cases g2 : W b d with
      | false => rfl
      | true => exact h3 d hd g1 g2
def trn (W : Nat → Nat → Bool) : Nat → Nat → Bool := fun a b => W b a
/-- a pair of ELEMENTS is as an ORDER wants it -/
def gdP (W : Nat → Nat → Bool) (n a b : Nat) : Bool := (decide (a = b) || !(W a b) || !(W b a)) && (lbO W n a b).isSome && (lbO (trn W) n a b).isSome
def isOr (W : Nat → Nat → Bool) (n : Nat) : Bool := allN (fun a => allN (fun b => gdP W n a b) n) n
theorem isOr_at {W : Nat → Nat → Bool} (h : isOr W n = true) (ha : a < n) (hb : b < n) : (W a b = true → W b a = true → a = b) ∧ (∃ j, j < n ∧ lbO W n a b = some j ∧ W a j = true ∧ W b j = true ∧ ∀ d, d < n → W a d = true → W b d = true → W j d = true) ∧ (∃ j, j < n ∧ lbO (trn W) n a b = some j ∧ W j a = true ∧ W j b = true ∧ ∀ d, d < n → W d a = true → W d b = true → W d j = true) := by
  have h1 := allN_iff.mp (allN_iff.mp h a ha) b hb
  unfold gdP at h1
  rw [Bool.and_eq_true, Bool.and_eq_true] at h1
  obtain ⟨⟨g1, g2⟩, g3⟩ := h1
  refine ⟨fun z1 z2 => ?_, ?_, ?_⟩
  · rw [z1, z2] at g1
    simpa using g1
  · obtain ⟨j, hj⟩ := Option.isSome_iff_exists.mp g2
    obtain ⟨f1, f2, -⟩ := ff_some hj
    obtain ⟨l1, l2, l3⟩ := lbB_iff.mp f2
    exact ⟨j, f1, hj, l1, l2, l3⟩
  · obtain ⟨j, hj⟩ := Option.isSome_iff_exists.mp g3
    obtain ⟨f1, f2, -⟩ := ff_some hj
    obtain ⟨l1, l2, l3⟩ := lbB_iff.mp f2
    exact ⟨j, f1, hj, l1, l2, l3⟩
/-- the top as the class finds it: joins one behind another -/
def tpF (W : Nat → Nat → Bool) (n : Nat) : Nat → Nat
  | 0 => 0
  | k + 1 => (lbO W n (tpF W n k) (k + 1)).getD 0
theorem tpF_ok {W : Nat → Nat → Bool} (h : isOr W n = true) (hr : ∀ a, a < n → W a a = true) (ht : ∀ a b d, a < n → b < n → d < n → W a b = true → W b d = true → W a d = true) : ∀ k, k < n → tpF W n k < n ∧ ∀ d, d ≤ k → W d (tpF W n k) = true
  | 0, hk => ⟨hk, fun d hd => by
    have : d = 0 := by omega
    rw [this]
    exact hr 0 hk⟩
  | k + 1, hk => by
    obtain ⟨h1, h2⟩ := tpF_ok h hr ht k (by omega)
    obtain ⟨-, ⟨j, j1, j2, j3, j4, -⟩, -⟩ := isOr_at h h1 hk
    have e : tpF W n (k + 1) = j := by
      show (lbO W n (tpF W n k) (k + 1)).getD 0 = j
      rw [j2]
      rfl
    rw [e]
    refine ⟨j1, fun d hd => ?_⟩
    by_cases e2 : d = k + 1
    · rw [e2]
      exact j4
    · exact ht d (tpF W n k) j (by omega) h1 j1 (h2 d (by omega)) j3
theorem isOr_trn {W : Nat → Nat → Bool} (h : isOr W n = true) : isOr (trn W) n = true := by
  refine allN_iff.mpr (fun a ha => allN_iff.mpr (fun b hb => ?_))
  have h1 := allN_iff.mp (allN_iff.mp h a ha) b hb
  unfold gdP at h1 ⊢
  rw [Bool.and_eq_true, Bool.and_eq_true] at h1 ⊢
  obtain ⟨⟨g1, g2⟩, g3⟩ := h1
  refine ⟨⟨?_, g3⟩, g2⟩
  show (decide (a = b) || !(W b a) || !(W a b)) = true
  cases h1 : W a b <;> cases h2 : W b a <;> simp_all
end OCL
