/-! FLOW: steps of the class -/
def cb (N : Nat) : Nat := cntN (fun i => N.testBit i) 40
theorem cb_0 : cb 0 = 0 := by decide +kernel
theorem cb_one {j : Nat} (hj : j < 40) : cb (2 ^ j) = 1 := by
  have : ∀ q : Fin 40, cb (2 ^ q.1) = 1 := by decide +kernel
  exact this ⟨j, hj⟩
theorem cntN_or {p q r : Nat → Bool} (h : ∀ i, r i = true → p i = true ∨ q i = true) : ∀ t, cntN r t ≤ cntN p t + cntN q t
  | 0 => Nat.le_refl _
  | t + 1 => by
    have := cntN_or (p := p) (q := q) (r := r) h t
    rw [cntN_s, cntN_s, cntN_s]
    by_cases hr : r t = true
    · rw [if_pos hr]
      rcases h t hr with hp | hp
      · rw [if_pos hp]
        omega
      · rw [if_pos hp]
        omega
    · rw [if_neg hr]
      omega
theorem cb_or (a b : Nat) : cb (a ||| b) ≤ cb a + cb b := cntN_or (fun i hi => by rw [Nat.testBit_or, Bool.or_eq_true] at hi; exact hi) 40
theorem cb_cut {N t : Nat} (h : low N t) (ht : t < 40) : cb (N &&& (N - 1)) < cb N := by
  refine cntN_slt 40 ht (fun i _ hi => ?_) ?_ h.1
  · rw [low_cut h, Bool.and_eq_true] at hi
    exact hi.1
  · rw [low_cut h, decide_eq_false (fun z => z rfl), Bool.and_false]
def sumP (f : Nat → Nat) : Nat → Nat
  | 0 => 0
  | k + 1 => sumP f k + f k
theorem sumP_le {f : Nat → Nat} {B : Nat} (h : ∀ i, f i ≤ B) : ∀ k, sumP f k ≤ B * k
  | 0 => Nat.le_refl _
  | k + 1 => by
    have := sumP_le h k
    have := h k
    unfold sumP
    rw [Nat.mul_add]
    omega
theorem sumP_up {f g : Nat → Nat} {j : Nat} (h : ∀ i, i ≠ j → g i = f i) : ∀ k, sumP g k + (if j < k then f j else 0) = sumP f k + (if j < k then g j else 0)
  | 0 => rfl
  | k + 1 => by
    have ih := sumP_up (f := f) (g := g) (j := j) h k
    unfold sumP
    by_cases e : j = k
    · subst e
      rw [if_neg (by omega), if_neg (by omega)] at ih
      rw [if_pos (by omega), if_pos (by omega)]
      omega
    · rw [h k (fun z => e z.symm)]
      by_cases h2 : j < k
      · rw [if_pos h2, if_pos h2] at ih
        rw [if_pos (by omega), if_pos (by omega)]
        omega
      · rw [if_neg h2, if_neg h2] at ih
        rw [if_neg (by omega), if_neg (by omega)]
        omega
section STP
variable {m : cS} {o M l bt : Nat} {K ent : Nat → Nat} {S S' S2 : Nat → Int64} {B B2 : Nat}
def totP (m : cS) (o M : Nat) (S : Nat → Int64) : Nat := sumP (fun i => pot m o (S i)) (acn m M)
/-- STATES grow; B says where -/
def STEP (m : cS) (o M l bt : Nat) (K ent : Nat → Nat) (S S' : Nat → Int64) (B : Nat) : Prop := GD m o M l S' ∧ LSs m o M l bt K ent S' ∧ (∀ k, k < acn m M → S k ≠ -1 → S' k ≠ -1 ∧ lfF m o (8 + dpn m (40 * M + k)) (av l bt (S k)) (av l bt (S' k))) ∧ (∀ k, k < acn m M → S' k ≠ S k → B.testBit k = true) ∧ (∀ k, B.testBit k = true → k < acn m M ∧ S' k ≠ -1) ∧ B < 2 ^ 40 ∧ 2 * totP m o M S' + cb B ≤ 2 * totP m o M S
theorem STEP_rfl (hL : LA o (eln m o) m) (hbt : bt < eln m o) (hG : GD m o M l S) (hS : LSs m o M l bt K ent S) : STEP m o M l bt K ent S S 0 := by
  refine ⟨hG, hS, fun k hk hne => ⟨hne, fun s hs => ?_⟩, fun k hk hne => absurd rfl hne, fun k hk => by simp at hk, by decide, by rw [cb_0]; omega⟩
  rcases hG k hk with h | ⟨h1, h2⟩
  · exact absurd h hne
  · exact LA_refl hL (av_ok h2 h1.2.2.1 hbt s hs)
theorem STEP_tr (hL : LA o (eln m o) m) (hbt : bt < eln m o) (hG : GD m o M l S) (h1 : STEP m o M l bt K ent S S' B) (h2 : STEP m o M l bt K ent S' S2 B2) : STEP m o M l bt K ent S S2 (B ||| B2) := by
  obtain ⟨a1, a2, a3, a4, a5, a6, a7⟩ := h1
  obtain ⟨b1, b2, b3, b4, b5, b6, b7⟩ := h2
  refine ⟨b1, b2, fun k hk hne => ?_, fun k hk hne => ?_, fun k hk => ?_, Nat.or_lt_two_pow a6 b6, ?_⟩
  · obtain ⟨c1, c2⟩ := a3 k hk hne
    obtain ⟨d1, d2⟩ := b3 k hk c1
    refine ⟨d1, fun s hs => ?_⟩
    rcases hG k hk with g | ⟨g1, g2⟩
    · exact absurd g hne
    rcases a1 k hk with g | ⟨g3, g4⟩
    · exact absurd g c1
    rcases b1 k hk with g | ⟨g5, g6⟩
    · exact absurd g d1
    exact LA_tr hL (av_ok g2 g1.2.2.1 hbt s hs) (av_ok g4 g3.2.2.1 hbt s hs) (av_ok g6 g5.2.2.1 hbt s hs) (c2 s hs) (d2 s hs)
  · rw [Nat.testBit_or, Bool.or_eq_true]
    by_cases e : S' k = S k
    · rw [← e] at hne
      exact Or.inr (b4 k hk hne)
    · exact Or.inl (a4 k hk e)
  · rw [Nat.testBit_or, Bool.or_eq_true] at hk
    rcases hk with h | h
    · exact ⟨(a5 k h).1, (b3 k (a5 k h).1 (a5 k h).2).1⟩
    · exact b5 k h
  · have := cb_or B B2
    omega
theorem STEP_up {j : Nat} {r : Int64} (hL : LA o (eln m o) m) (hbt : bt < eln m o) (hn : acn m M ≤ 40) (hG : GD m o M l S) (hj : j < acn m M) (hG' : GD m o M l (upS S j r)) (hL' : LSs m o M l bt K ent (upS S j r)) (hrn : r ≠ -1) (hup : S j ≠ -1 → lfF m o (8 + dpn m (40 * M + j)) (av l bt (S j)) (av l bt r)) (hp : pot m o r ≤ pot m o (S j)) (hp' : r ≠ S j → pot m o r < pot m o (S j)) : STEP m o M l bt K ent S (upS S j r) (if r = S j then 0 else 2 ^ j) := by
  have hS' : ∀ k, upS S j r k = if k = j then r else S k := fun k => rfl
  have htot : totP m o M (upS S j r) + pot m o (S j) = totP m o M S + pot m o r := by
    have := sumP_up (f := fun i => pot m o (S i)) (g := fun i => pot m o (upS S j r i)) (j := j) (fun i hi => by show pot m o (upS S j r i) = _; rw [hS', if_neg hi]) (acn m M)
    rw [if_pos hj, if_pos hj] at this
    have h2 : pot m o (upS S j r j) = pot m o r := by rw [hS', if_pos rfl]
    unfold totP
    omega
  refine ⟨hG', hL', fun k hk hne => ?_, fun k hk hne => ?_, fun k hk => ?_, ?_, ?_⟩
  · rw [hS']
    by_cases e : k = j
    · rw [if_pos e, e]
      rw [e] at hne
      exact ⟨hrn, hup hne⟩
    · rw [if_neg e]
      refine ⟨hne, fun s hs => ?_⟩
      rcases hG k hk with h | ⟨h1, h2⟩
      · exact absurd h hne
      · exact LA_refl hL (av_ok h2 h1.2.2.1 hbt s hs)
  · rw [hS'] at hne
    by_cases e : k = j
    · rw [if_pos e, e] at hne
      rw [if_neg hne, e]
      simp
    · rw [if_neg e] at hne
      exact absurd rfl hne
  · by_cases e : r = S j
    · rw [if_pos e] at hk
      simp at hk
    · rw [if_neg e] at hk
      have hkj : k = j := by
        rw [Nat.testBit_two_pow] at hk
        exact (of_decide_eq_true hk).symm
      rw [hkj, hS', if_pos rfl]
      exact ⟨hj, hrn⟩
  · split
    · decide
    · exact Nat.pow_lt_pow_right (by decide) (by omega)
  · by_cases e : r = S j
    · rw [if_pos e, cb_0, ← e] at *
      omega
    · rw [if_neg e, cb_one (by omega)]
      have := hp' e
      omega
/-- what stands: but for open ACTS all is led on -/
def FLI (m : cS) (o M l bt : Nat) (K ent : Nat → Nat) (S : Nat → Int64) (N : Nat) : Prop := GD m o M l S ∧ LSs m o M l bt K ent S ∧ EN m o l bt ent S ∧ (∀ i, i < acn m M → S i ≠ -1 → N.testBit i = false → ED1 m o M l bt K S i (av l bt (S i)) ∧ ED2 m o M l bt K S i (av l bt (S i))) ∧ ∀ i, N.testBit i = true → i < acn m M ∧ S i ≠ -1
end STP
