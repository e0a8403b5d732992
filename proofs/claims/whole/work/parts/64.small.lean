/-! out, fault, argument, input -/
def qO (a i : Nat) : Bool := (Nat.beq a 172 && Nat.beq i 1) || Nat.beq a 173
def pO (a i : Nat) : Bool := (Nat.beq a 174 && Nat.beq i 4) || Nat.beq a 176
def p0 (a i : Nat) : Bool := Nat.beq a 174 && Nat.beq i 0
/-- THE OUT -/
def JO (c m : cS) : Prop := ∃ L, L ≤ 8000 ∧ c.1 172 1 = nI L ∧ m.1 174 4 = nI L ∧ ∀ i, i < L → c.1 173 i &&& 255 = m.1 176 i
/-- a reading call of the class beside a call of the reference -/
def br (x : Option Int32) (y : Option (Int32 × cS)) (P : cS → Prop) : Prop := wp x (fun r => wp y (fun q => r = q.1 ∧ P q.2))
theorem c_out {n : Nat} {a : Int32} {c m : cS} (h : JO c m) : br (d_58 n a c) (d_96 n a m) (fun m' => sx p0 m m') := by
  obtain ⟨L, hL, h1, h2, h3⟩ := h
  have h2' : (pI m 174 0 0).1 174 4 = nI L := by rw [rI, if_neg (by omega)]; exact h2
  have hs : sx p0 m (pI m 174 0 0) := sx_pI sx_rfl rfl
  unfold br d_58 d_96
  refine wpj (wpi (fun g1 => ?_) (fun g1 => ?_))
  · exact wpl (wpj (wpj (wpt g1 ⟨rfl, hs⟩)))
  refine wpi (fun g2 => ?_) (fun g2 => ?_)
  · rcases pk_ix a (n := L) (by omega) with q | q | ⟨j, hj, rfl⟩
    · exact absurd q g1
    · rw [h1] at g2
      exact (Int32.lt_irrefl (Int32.lt_of_lt_of_le g2 q)).elim
    · refine wpg (ib_n (by omega) (by decide)) ?_
      refine wpl (wpj (wpj (wpf g1 ?_)))
      refine wpf (by rw [h2']; exact nI_ge hj (by omega)) ?_
      refine wpg (ib_n (by omega) (by decide)) ?_
      refine ⟨?_, hs⟩
      show c.1 173 (ix (nI j)) &&& 255 = (pI m 174 0 0).1 176 (ix (nI j))
      rw [rI, if_neg (by omega), ix_n (by omega)]
      exact h3 j hj
  · refine wpl (wpj (wpj (wpf g1 ?_)))
    refine wpt ?_ ⟨rfl, hs⟩
    rw [h2', ← h1]
    exact Int32.not_lt.mp g2
def qF (a i : Nat) : Bool := Nat.beq a 145 && (Nat.beq i 4 || Nat.beq i 5)
def pF (a i : Nat) : Bool := Nat.beq a 174 && (Nat.beq i 11 || Nat.beq i 12)
/-- what was wrong with the latest text -/
def JF (c m : cS) : Prop := c.1 145 4 = m.1 174 11 ∧ c.1 145 5 = m.1 174 12
theorem c_fault {n : Nat} {a : Int32} {c m : cS} (h : JF c m) : br (d_60 n a c) (d_107 n a m) (fun m' => sx p0 m m') := by
  have hs : sx p0 m (pI m 174 0 0) := sx_pI sx_rfl rfl
  unfold br d_60 d_107
  refine wpi (fun g1 => ?_) (fun g1 => ?_)
  · refine wpl (wpj (wpt g1 ⟨?_, hs⟩))
    show c.1 145 4 = (pI m 174 0 0).1 174 11
    rw [rI, if_neg (by omega)]
    exact h.1
  refine wpj (wpi (fun g2 => ?_) (fun g2 => ?_))
  · refine wpl (wpj (wpf g1 (wpt g2 ⟨?_, hs⟩)))
    show c.1 145 5 = (pI m 174 0 0).1 174 12
    rw [rI, if_neg (by omega)]
    exact h.2
  · exact wpl (wpj (wpf g1 (wpf g2 ⟨rfl, hs⟩)))
def qA (a i : Nat) : Bool := Nat.beq a 160 || (Nat.beq a 159 && Nat.beq i 5) || Nat.beq a 161
def pA (a i : Nat) : Bool := Nat.beq a 251 || (Nat.beq a 174 && (Nat.beq i 0 || Nat.beq i 110)) || Nat.beq a 252
/-- arguments and inputs -/
def JA (c m : cS) : Prop := (∀ i, i < 4 → c.1 160 i = m.1 251 i) ∧ ∃ q, q ≤ 64 ∧ c.1 159 5 = nI q ∧ m.1 174 110 = nI q ∧ ∀ i, i < q → c.1 161 i = m.1 252 i
theorem JA_0 {c m : cS} (h : JA c m) : JA c (pI m 174 0 0) := by
  obtain ⟨h1, q, h2, h3, h4, h5⟩ := h
  refine ⟨fun i hi => ?_, q, h2, h3, ?_, fun i hi => ?_⟩
  · rw [rI, if_neg (by omega)]
    exact h1 i hi
  · rw [rI, if_neg (by omega)]
    exact h4
  · rw [rI, if_neg (by omega)]
    exact h5 i hi
theorem c_argument {n : Nat} {k v : Int32} {c m : cS} (h : JA c m) : bo (d_82 n k v c) (d_136 n k v m) (fun c' m' => JA c' m' ∧ sx qA c c' ∧ sx pA m m') := by
  have h0 := JA_0 h
  have same : JA c (pI m 174 0 0) ∧ sx qA c c ∧ sx pA m (pI m 174 0 0) := ⟨h0, sx_rfl, sx_pI sx_rfl rfl⟩
  unfold bo d_82 d_136
  refine wpj (wpi (fun g1 => ?_) (fun g1 => ?_))
  · exact wpl (wpj (wpt g1 ⟨rfl, same⟩))
  refine wpi (fun g2 => ?_) (fun g2 => ?_)
  · rcases pk_ix k (n := 4) (by decide) with q | q | ⟨j, hj, rfl⟩
    · exact absurd q g1
    · exact (Int32.lt_irrefl (Int32.lt_of_lt_of_le g2 q)).elim
    · refine wpg (ib_n hj (by decide)) (wpl ?_)
      refine wpl (wpj (wpf g1 (wpt (nI_le (b := 3) (by omega) (by decide)) ?_)))
      refine wpg (ib_n hj (by decide)) (wpl ?_)
      rw [ix_n (by omega)]
      obtain ⟨u1, q, u2, u3, u4, u5⟩ := h0
      refine ⟨rfl, ⟨fun i hi => ?_, q, u2, ?_, ?_, fun i hi => ?_⟩, sx_pI sx_rfl rfl, sx_pI (sx_pI sx_rfl rfl) rfl⟩
      · show (pI c 160 j v).1 160 i = (pI (pI m 174 0 0) 251 j v).1 251 i
        rw [rI, rI]
        by_cases hij : i = j
        · rw [if_pos ⟨rfl, hij⟩, if_pos ⟨rfl, hij⟩]
        · rw [if_neg (fun z => hij z.2), if_neg (fun z => hij z.2)]
          exact u1 i hi
      · show (pI c 160 j v).1 159 5 = _
        rw [rI, if_neg (by omega)]
        exact u3
      · show (pI (pI m 174 0 0) 251 j v).1 174 110 = _
        rw [rI, if_neg (by omega)]
        exact u4
      · show (pI c 160 j v).1 161 i = (pI (pI m 174 0 0) 251 j v).1 252 i
        rw [rI, if_neg (by omega), rI, if_neg (by omega)]
        exact u5 i hi
  · refine wpl (wpj (wpf g1 (wpf (fun z => g2 ?_) ⟨rfl, same⟩)))
    exact Int32.lt_of_le_of_lt z (by decide)
theorem in_spec {n : Nat} {v : Int32} {c : cS} {q : Nat} (hq : q ≤ 64) (h : c.1 159 5 = nI q) : wp (d_47 n v c) (fun r => if q = 64 then r = ((-1 : Int32), c) else r = (nI (q + 1), pI (pI c 159 5 (nI (q + 1))) 161 q v)) := by
  unfold d_47
  by_cases h6 : q = 64
  · refine wpf (by rw [h, h6]; exact nI_nlt (Nat.le_refl _) (by decide)) ?_
    show if q = 64 then _ else _
    rw [if_pos h6]
  · refine wpt (by rw [h]; exact nI_lt (b := 64) (by omega) (by decide)) (wpl (wpg (by rw [h]; exact ib_n (by omega) (by decide)) (wpl ?_)))
    show if q = 64 then _ else _
    rw [if_neg h6, h, nI_1, ix_n (by omega), rI, if_neg (by omega), rI, if_pos ⟨rfl, rfl⟩]
theorem c_input {n : Nat} {v : Int32} {c m : cS} (h : JA c m) : bo (d_83 n v c) (d_137 n v m) (fun c' m' => JA c' m' ∧ sx qA c c' ∧ sx pA m m') := by
  have h0 := JA_0 h
  obtain ⟨u1, q, u2, u3, u4, u5⟩ := id h0
  unfold bo d_83 d_137
  refine wpc (in_spec u2 u3) (fun r hr => ?_)
  by_cases hq : q = 64
  · rw [if_pos hq] at hr
    subst hr
    refine wpl (wpt (by rw [u4, hq]; rfl) ?_)
    exact ⟨rfl, h0, sx_rfl, sx_pI sx_rfl rfl⟩
  · rw [if_neg hq] at hr
    subst hr
    refine wpl (wpf (by rw [u4]; exact fun z => hq ((nI_eq (a := q) (b := 64) (by omega) (by decide)).mp z)) ?_)
    refine wpg (by rw [u4]; exact ib_n (by omega) (by decide)) (wpl (wpl ?_))
    rw [u4, ix_n (by omega)]
    have e1 : (pI (pI m 174 0 0) 252 q v).1 174 110 + 1 = nI (q + 1) := by
      rw [rI, if_neg (by omega), u4, nI_1]
    rw [e1]
    refine ⟨?_, ⟨fun i hi => ?_, q + 1, by omega, ?_, ?_, fun i hi => ?_⟩, sx_pI (sx_pI sx_rfl rfl) rfl, sx_pI (sx_pI (sx_pI sx_rfl rfl) rfl) rfl⟩
    · show nI (q + 1) = (pI (pI (pI m 174 0 0) 252 q v) 174 110 (nI (q + 1))).1 174 110
      rw [rI, if_pos ⟨rfl, rfl⟩]
    · show (pI (pI c 159 5 (nI (q + 1))) 161 q v).1 160 i = (pI (pI (pI m 174 0 0) 252 q v) 174 110 (nI (q + 1))).1 251 i
      rw [rI, if_neg (by omega), rI, if_neg (by omega), rI, if_neg (by omega), rI, if_neg (by omega)]
      exact u1 i hi
    · show (pI (pI c 159 5 (nI (q + 1))) 161 q v).1 159 5 = _
      rw [rI, if_neg (by omega), rI, if_pos ⟨rfl, rfl⟩]
    · show (pI (pI (pI m 174 0 0) 252 q v) 174 110 (nI (q + 1))).1 174 110 = _
      rw [rI, if_pos ⟨rfl, rfl⟩]
    · show (pI (pI c 159 5 (nI (q + 1))) 161 q v).1 161 i = (pI (pI (pI m 174 0 0) 252 q v) 174 110 (nI (q + 1))).1 252 i
      rw [rI, rI (b := 252), if_neg (by omega : ¬ (252 = 174 ∧ i = 110)), rI (b := 252)]
      by_cases hij : i = q
      · rw [if_pos ⟨rfl, hij⟩, if_pos ⟨rfl, hij⟩]
      · rw [if_neg (fun z => hij z.2), if_neg (fun z => hij z.2), rI, if_neg (by omega)]
        exact u5 i (by omega)
