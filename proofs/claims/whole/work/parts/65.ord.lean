/-! ORDERS: the class's and the reference's -/
/-- the low n bits of x say where P holds; it has no others -/
def BR (x : Int32) (n : Nat) (P : Nat → Prop) : Prop := ∃ u, u < 2 ^ n ∧ x = nI u ∧ ∀ b, b < n → (u.testBit b = true ↔ P b)
def mB (m : cS) (o a b : Nat) : Prop := m.1 184 ((12 * o + a) * 12 + b) = 1
def mJ (m : cS) (o a b : Nat) : Int32 := m.1 185 ((12 * o + a) * 12 + b)
def mM (m : cS) (o a b : Nat) : Int32 := m.1 186 ((12 * o + a) * 12 + b)
/-- an ORDER of n ELEMENTS, as the reference has it -/
def LA (o n : Nat) (m : cS) : Prop :=
  (1 ≤ n ∧ n ≤ 12) ∧ m.1 182 o = nI n ∧ (∀ a b, a < n → b < n → nb (m.1 184 ((12 * o + a) * 12 + b))) ∧
  (∀ a, a < n → mB m o a a) ∧ (∀ a b, a < n → b < n → mB m o a b → mB m o b a → a = b) ∧ (∀ a b d, a < n → b < n → d < n → mB m o a b → mB m o b d → mB m o a d) ∧
  (∀ a b, a < n → b < n → ∃ j, j < n ∧ mJ m o a b = nI j ∧ mB m o a j ∧ mB m o b j ∧ ∀ d, d < n → mB m o a d → mB m o b d → mB m o j d) ∧
  (∀ a b, a < n → b < n → ∃ j, j < n ∧ mM m o a b = nI j ∧ mB m o j a ∧ mB m o j b ∧ ∀ d, d < n → mB m o d a → mB m o d b → mB m o d j) ∧
  (∃ t, t < n ∧ m.1 187 o = nI t ∧ ∀ d, d < n → mB m o d t) ∧ (∃ t, t < n ∧ m.1 188 o = nI t ∧ ∀ d, d < n → mB m o t d)
/-- the class's ORDER is the reference's -/
def RO (o n : Nat) (c m : cS) : Prop :=
  LA o n m ∧ c.1 (oA o) 1 = nI n ∧ c.2 (oA o) 0 = m.2 181 o ∧ (∀ e, e < n → c.2 (oA o + 1) e = m.2 183 (12 * o + e)) ∧
  (∀ a, a < n → BR (c.1 (oA o + 2) a) n (fun b => mB m o a b)) ∧ (∀ b, b < n → BR (c.1 (oA o + 3) b) n (fun a => mB m o a b)) ∧
  (∀ a b, a < n → b < n → c.1 (oA o + 4) (a * 12 + b) = mJ m o a b) ∧ (∀ a b, a < n → b < n → c.1 (oA o + 5) (a * 12 + b) = mM m o a b) ∧
  c.1 (oA o) 2 = m.1 187 o ∧ c.1 (oA o) 3 = m.1 188 o
def PO (oc : Nat) (c m : cS) : Prop := oc ≤ 4 ∧ c.1 7 2 = nI oc ∧ m.1 174 15 = nI oc ∧ ∀ o, o < oc → ∃ n, RO o n c m
theorem shn {b : Nat} (h : b < 32) : ((nI b &&& 31).toBitVec.smod 32).toNat = b := by
  have : ∀ j : Fin 32, ((nI j.1 &&& 31).toBitVec.smod 32).toNat = j.1 := by decide +kernel
  exact this ⟨b, h⟩
theorem bit_n {u b : Nat} (hu : u < 2 ^ 31) (hb : b < 32) : ((nI u >>> (nI b &&& 31)) &&& 1 = 0) ↔ u.testBit b = false := by
  rw [pk_shrN hu _ b (shn hb), pk_andN (Nat.lt_of_le_of_lt (Nat.div_le_self _ _) (by omega)) 1 (by decide)]
  rw [Nat.testBit_eq_decide_div_mod_eq]
  have h2 : u / 2 ^ b % 2 < 2 := Nat.mod_lt _ (by decide)
  show nI (u / 2 ^ b % 2 ^ 1) = nI 0 ↔ _
  rw [nI_eq (by omega) (by decide)]
  constructor
  · intro h
    exact decide_eq_false (by omega)
  · intro h
    have := of_decide_eq_false h
    omega
theorem e237 {n o a b u : Nat} {c : cS} (ha : a < 12) (hb : b < 32) (hu : u < 2 ^ 31) (h : c.1 (oA o + 2) a = nI u) : d_237 n o (nI a) (nI b) c = some (if u.testBit b then 1 else 0) := by
  unfold d_237
  rw [if_pos (ib_n ha (by decide)), ix_n (by omega), h]
  simp only [jn]
  by_cases hq : u.testBit b = true
  · have hn : ¬ (nI u >>> (nI b &&& 31)) &&& 1 = 0 := fun z => by rw [(bit_n hu hb).mp z] at hq; cases hq
    rw [if_neg hn, if_pos hq]
    rfl
  · have hq' : u.testBit b = false := by cases hx : u.testBit b <;> simp_all
    rw [if_pos ((bit_n hu hb).mpr hq'), if_neg hq]
    rfl
theorem idx12 {a b : Nat} : nI a * 12 + nI b = nI (a * 12 + b) := by
  rw [show (12 : Int32) = nI 12 from rfl, pk_mul, nI_add]
theorem e238 {n o a b : Nat} {c : cS} (ha : a < 12) (hb : b < 12) : d_238 n o (nI a) (nI b) c = some (c.1 (oA o + 4) (a * 12 + b)) := by
  unfold d_238
  rw [idx12, if_pos (ib_n (by omega) (by decide)), ix_n (by omega)]
theorem e239 {n o a b : Nat} {c : cS} (ha : a < 12) (hb : b < 12) : d_239 n o (nI a) (nI b) c = some (c.1 (oA o + 5) (a * 12 + b)) := by
  unfold d_239
  rw [idx12, if_pos (ib_n (by omega) (by decide)), ix_n (by omega)]
theorem e385 {n o a b : Nat} : d_385 n (nI o) (nI a) (nI b) = some (nI ((12 * o + a) * 12 + b)) := by
  unfold d_385
  rw [show (12 : Int32) = nI 12 from rfl, pk_mul, nI_add, pk_mul, nI_add]
theorem e387 {n o a b : Nat} {m : cS} (ho : o < 4) (ha : a < 12) (hb : b < 12) (h : nb (m.1 184 ((12 * o + a) * 12 + b))) : d_387 n (nI o) (nI a) (nI b) m = some (m.1 184 ((12 * o + a) * 12 + b)) := by
  unfold d_387
  rw [e385]
  show (if ib (nI ((12 * o + a) * 12 + b)) 576 then _ else none) = _
  rw [if_pos (ib_n (by omega) (by decide)), ix_n (by omega), if_pos h]
theorem e390 {n o a b : Nat} {m : cS} (ho : o < 4) (ha : a < 12) (hb : b < 12) : d_390 n (nI o) (nI a) (nI b) m = some (mJ m o a b) := by
  unfold d_390
  rw [e385]
  show (if ib (nI ((12 * o + a) * 12 + b)) 576 then _ else none) = _
  rw [if_pos (ib_n (by omega) (by decide)), ix_n (by omega)]
  rfl
theorem e391 {n o a b : Nat} {m : cS} (ho : o < 4) (ha : a < 12) (hb : b < 12) : d_391 n (nI o) (nI a) (nI b) m = some (mM m o a b) := by
  unfold d_391
  rw [e385]
  show (if ib (nI ((12 * o + a) * 12 + b)) 576 then _ else none) = _
  rw [if_pos (ib_n (by omega) (by decide)), ix_n (by omega)]
  rfl
theorem e37 {n : Nat} {a : Int32} {c : cS} : d_37 n a c = some (if c.1 7 0 = 0 ∨ a < 0 ∨ c.1 7 2 ≤ a then 0 else 1) := by
  unfold d_37
  simp only [jn]
  by_cases h1 : c.1 7 0 = 0
  · rw [if_pos h1, if_pos (Or.inl h1)]
    rfl
  rw [if_neg h1]
  by_cases h2 : a < 0
  · rw [if_pos h2, if_pos (Or.inr (Or.inl h2))]
    rfl
  rw [if_neg h2]
  by_cases h3 : c.1 7 2 ≤ a
  · rw [if_pos h3, if_pos (Or.inr (Or.inr h3))]
    rfl
  have hh : ¬ (c.1 7 0 = 0 ∨ a < 0 ∨ c.1 7 2 ≤ a) := by
    rintro (z | z | z)
    · exact h1 z
    · exact h2 z
    · exact h3 z
  rw [if_neg h3, if_neg hh]
  rfl
theorem e119 {n : Nat} {a : Int32} {m : cS} : d_119 n a m = some (if m.1 174 14 = 0 ∨ a < 0 ∨ m.1 174 15 ≤ a then 0 else 1) := by
  unfold d_119
  simp only [jn]
  by_cases h1 : m.1 174 14 = 0
  · rw [if_pos h1, if_pos (Or.inl h1)]
    rfl
  rw [if_neg h1]
  by_cases h2 : a < 0
  · rw [if_pos h2, if_pos (Or.inr (Or.inl h2))]
    rfl
  rw [if_neg h2]
  by_cases h3 : m.1 174 15 ≤ a
  · rw [if_pos h3, if_pos (Or.inr (Or.inr h3))]
    rfl
  have hh : ¬ (m.1 174 14 = 0 ∨ a < 0 ∨ m.1 174 15 ≤ a) := by
    rintro (z | z | z)
    · exact h1 z
    · exact h2 z
    · exact h3 z
  rw [if_neg h3, if_neg hh]
  rfl
theorem wpe {α β : Type} {K : β → Prop} {x : Option α} {a : α} {f : α → Option β} (e : x = some a) (h : wp (f a) K) : wp (x.bind f) K := by
  rw [e]
  exact h
/-- there is a program in both, or in none -/
def TH (c m : cS) (P : Prop) : Prop := (c.1 7 0 = 0 ∧ m.1 174 14 = 0) ∨ (c.1 7 0 = 1 ∧ m.1 174 14 = 1 ∧ P)
theorem ne10 : ¬ (1 : Int32) = 0 := by decide
theorem c_order {n : Nat} {a1 a2 a3 a4 : Int32} {c m : cS} (h : TH c (pI m 174 0 0) (∃ oc, PO oc c (pI m 174 0 0))) : br (d_63 n a1 a2 a3 a4 c) (d_120 n a1 a2 a3 a4 m) (fun m' => m' = pI m 174 0 0) := by
  unfold br d_63 d_120
  generalize pI m 174 0 0 = k at h ⊢
  refine wpe e37 ?_
  rcases h with ⟨h1, h2⟩ | ⟨h1, h2, oc, ho, h3, h4, h5⟩
  · rw [if_pos (Or.inl h1)]
    refine wpt rfl (wpl (wpe e119 ?_))
    rw [if_pos (Or.inl h2)]
    exact wpj (wpt rfl ⟨rfl, rfl⟩)
  by_cases g : a1 < 0 ∨ nI oc ≤ a1
  · rw [if_pos (Or.inr (by rw [h3]; exact g))]
    refine wpt rfl (wpl (wpe e119 ?_))
    rw [if_pos (Or.inr (by rw [h4]; exact g))]
    exact wpj (wpt rfl ⟨rfl, rfl⟩)
  have hh1 : ¬ (c.1 7 0 = 0 ∨ a1 < 0 ∨ c.1 7 2 ≤ a1) := by
    rw [h1, h3]
    rintro (z | z)
    · exact ne10 z
    · exact g z
  have hh2 : ¬ (k.1 174 14 = 0 ∨ a1 < 0 ∨ k.1 174 15 ≤ a1) := by
    rw [h2, h4]
    rintro (z | z)
    · exact ne10 z
    · exact g z
  rw [if_neg hh1]
  refine wpf ne10 ?_
  rcases pk_ix a1 (n := oc) (by omega) with q | q | ⟨o, hoc, rfl⟩
  · exact absurd (Or.inl q) g
  · exact absurd (Or.inr q) g
  obtain ⟨N, hL, r1, r2, r3, r4, r5, r6, r7, r8, r9⟩ := h5 o hoc
  obtain ⟨⟨l0, l1⟩, l2, l3, l4, l5, l6, l7, l8, l9, l10⟩ := id hL
  refine wpg (ib_n (by omega) (by decide)) ?_
  rw [ix_n (by omega), r1]
  refine wpj (wpi (fun g1 => ?_) (fun g1 => ?_))
  · refine wpl (wpe e119 ?_)
    rw [if_neg hh2]
    exact wpj (wpf ne10 (wpt g1 ⟨rfl, rfl⟩))
  refine wpi (fun g2 => ?_) (fun g2 => ?_)
  · refine wpl (wpe e119 ?_)
    rw [if_neg hh2]
    refine wpj (wpf ne10 (wpf g1 (wpg (ib_n (by omega) (by decide)) ?_)))
    exact wpt (by rw [l2]; exact g2) ⟨rfl, rfl⟩
  refine wpi (fun g3 => ?_) (fun g3 => ?_)
  · refine wpl (wpe e119 ?_)
    rw [if_neg hh2]
    refine wpj (wpf ne10 (wpf g1 (wpg (ib_n (by omega) (by decide)) ?_)))
    exact wpf (by rw [l2]; exact g2) (wpt g3 ⟨rfl, rfl⟩)
  refine wpi (fun g4 => ?_) (fun g4 => ?_)
  rotate_left
  · refine wpl (wpe e119 ?_)
    rw [if_neg hh2]
    refine wpj (wpf ne10 (wpf g1 (wpg (ib_n (by omega) (by decide)) ?_)))
    refine wpf (by rw [l2]; exact g2) (wpf g3 (wpg (ib_n (by omega) (by decide)) ?_))
    exact wpf (by rw [l2]; exact g4) ⟨rfl, rfl⟩
  rcases pk_ix a2 (n := N) (by omega) with q | q | ⟨a, ha, rfl⟩
  · exact absurd q g1
  · exact absurd q g2
  rcases pk_ix a3 (n := N) (by omega) with q | q | ⟨b, hb, rfl⟩
  · exact absurd q g3
  · exact (Int32.lt_irrefl (Int32.lt_of_lt_of_le g4 q)).elim
  have M : ∀ (r : Int32) {K : Int32 × cS → Prop}, K (r, k) → wp (jn (fun p7 : Int32 => some (p7, k)) (fun j99 => if a4 = 0 then Option.bind (d_387 n (nI o) (nI a) (nI b) k) (fun v10 => if v10 = 0 then j99 0 else j99 1)
      else if a4 = 1 then Option.bind (d_390 n (nI o) (nI a) (nI b) k) (fun v9 => j99 v9) else if a4 = 2 then Option.bind (d_391 n (nI o) (nI a) (nI b) k) (fun v8 => j99 v8) else j99 (-1))) (fun q => q = (r, k)) → wp (Option.bind (d_119 n (nI o) k) (fun v3 =>
      jn (fun p4 : Unit => some ((-1), k)) (fun j41 => if v3 = 0 then j41 () else if nI a < 0 then j41 () else
      if ib (nI o) 4 then if (k.1 182 o) ≤ nI a then j41 () else if nI b < 0 then j41 () else
      if ib (nI o) 4 then if nI b < (k.1 182 o) then
      jn (fun p7 : Int32 => some (p7, k)) (fun j99 => if a4 = 0 then Option.bind (d_387 n (nI o) (nI a) (nI b) k) (fun v10 => if v10 = 0 then j99 0 else j99 1)
      else if a4 = 1 then Option.bind (d_390 n (nI o) (nI a) (nI b) k) (fun v9 => j99 v9) else if a4 = 2 then Option.bind (d_391 n (nI o) (nI a) (nI b) k) (fun v8 => j99 v8) else j99 (-1))
      else j41 () else none else none))) K := by
    intro r K hK hx
    refine wpe e119 ?_
    rw [if_neg hh2]
    refine wpj (wpf ne10 (wpf g1 (wpg (ib_n (by omega) (by decide)) ?_)))
    refine wpf (by rw [l2]; exact g2) (wpf g3 (wpg (ib_n (by omega) (by decide)) ?_))
    refine wpt (by rw [l2]; exact g4) ?_
    exact wp_mono hx (fun q e => by rw [e]; exact hK)
  refine wpi (fun g5 => ?_) (fun g5 => ?_)
  · obtain ⟨u, u1, u2, u3⟩ := r4 a ha
    have hu : u < 2 ^ 31 := Nat.lt_of_lt_of_le u1 (Nat.pow_le_pow_right (by decide) (by omega))
    refine wpe (e237 (by omega) (by omega) hu u2) ?_
    refine wpj ?_
    have hnb := l3 a b ha hb
    by_cases ht : u.testBit b = true
    · rw [if_pos ht]
      refine wpf ne10 (wpl (M 1 ⟨rfl, rfl⟩ ?_))
      refine wpj (wpt g5 (wpe (e387 (by omega) (by omega) (by omega) hnb) ?_))
      have e1 : k.1 184 ((12 * o + a) * 12 + b) = 1 := (u3 b hb).mp ht
      exact wpf (by rw [e1]; exact ne10) rfl
    · rw [if_neg ht]
      refine wpt rfl (wpl (M 0 ⟨rfl, rfl⟩ ?_))
      refine wpj (wpt g5 (wpe (e387 (by omega) (by omega) (by omega) hnb) ?_))
      have e1 : k.1 184 ((12 * o + a) * 12 + b) = 0 := hnb.resolve_right (fun z => ht ((u3 b hb).mpr z))
      exact wpt e1 rfl
  refine wpi (fun g6 => ?_) (fun g6 => ?_)
  · refine wpe (e238 (by omega) (by omega)) ?_
    refine wpl (M _ ⟨rfl, rfl⟩ ?_)
    refine wpj (wpf g5 (wpt g6 (wpe (e390 (by omega) (by omega) (by omega)) ?_)))
    exact congrArg (fun z => (z, k)) (r6 a b ha hb).symm
  refine wpi (fun g7 => ?_) (fun g7 => ?_)
  · refine wpe (e239 (by omega) (by omega)) ?_
    refine wpl (M _ ⟨rfl, rfl⟩ ?_)
    refine wpj (wpf g5 (wpf g6 (wpt g7 (wpe (e391 (by omega) (by omega) (by omega)) ?_))))
    exact congrArg (fun z => (z, k)) (r7 a b ha hb).symm
  · exact wpl (M _ ⟨rfl, rfl⟩ (wpj (wpf g5 (wpf g6 (wpf g7 rfl)))))
