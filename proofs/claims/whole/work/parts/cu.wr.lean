/-! WIRING: one want in both -/
section WR1
variable {n t p s k : Nat} {c w m u v : cS} {S : Nat → Nat}
def qWc (A i : Nat) : Bool := decide ((A = 146 ∧ 3 ≤ i ∧ i ≤ 5) ∨ (168 ≤ A ∧ A ≤ 171) ∨ (A = 167 ∧ 7 ≤ i ∧ i ≤ 9))
def qWs (A i : Nat) : Bool := decide ((A = 174 ∧ ((73 ≤ i ∧ i ≤ 79) ∨ (131 ≤ i ∧ i ≤ 134))) ∨ A = 232 ∨ A = 233 ∨ (261 ≤ A ∧ A ≤ 265))
theorem nC_Wc : nC qWc := ⟨fun a i h1 h2 h3 => decide_eq_false (by omega), fun i h => decide_eq_false (by omega)⟩
theorem nP_Ws : nP qWs := by
  refine ⟨fun a i h => ?_, fun i h => ?_, fun i h => ?_, fun a i h1 h2 h3 => ?_, fun a i h1 h2 h3 => ?_⟩
  · have := PA_of h
    exact decide_eq_false (by omega)
  · have := PF_of h
    exact decide_eq_false (by omega)
  · exact decide_eq_false (by omega)
  · exact decide_eq_false (by omega)
  · exact decide_eq_false (by omega)
/-- parts, stages, what is made, what is wrong: alike in both -/
def WR (m w v : cS) (S : Nat → Nat) (k : Nat) : Prop := (∀ x, x < ccn m → S x ≤ 2 ∧ w.1 168 x = (if prt m x = true then nI 1 else nI 0) ∧ w.2 169 x = lab m x ∧ w.1 170 x = nI (S x) ∧ v.1 264 x = (if prt m x = true then nI 1 else nI 0) ∧ (prt m x = true → v.2 265 x = lab m x) ∧ v.1 263 x = (if S x = 1 then nI 1 else nI 0) ∧ v.1 262 x = (if S x = 2 then nI 1 else nI 0)) ∧ w.1 167 7 = nI k ∧ v.1 174 134 = nI k ∧ k = cntN (fun x => decide (S x = 2)) (ccn m) ∧ (∀ i, i < k → w.1 171 i = v.1 261 i) ∧ w.1 167 8 = v.1 174 132 ∧ w.1 167 9 = v.1 174 133
/-- regions that keep it -/
theorem WR_sx {w' v' : cS} {r q : Nat → Nat → Bool} (h : WR m w v S k) (hw : sx r w w') (hv : sx q v v') (h1 : ∀ A i, (168 ≤ A ∧ A ≤ 171) ∨ (A = 167 ∧ 7 ≤ i ∧ i ≤ 9) → r A i = false) (h2 : ∀ A i, (261 ≤ A ∧ A ≤ 265) ∨ (A = 174 ∧ 132 ≤ i ∧ i ≤ 134) → q A i = false) : WR m w' v' S k := by
  obtain ⟨a1, a2, a3, a4, a5, a6, a7⟩ := h
  refine ⟨fun x hx => ?_, (hw.1 167 7 (h1 _ _ (by omega))).trans a2, (hv.1 174 134 (h2 _ _ (by omega))).trans a3, a4, fun i hi => ?_, ?_, ?_⟩
  · rw [hw.1 168 x (h1 _ _ (by omega)), hw.2 169 x (h1 _ _ (by omega)), hw.1 170 x (h1 _ _ (by omega)), hv.1 264 x (h2 _ _ (by omega)), hv.2 265 x (h2 _ _ (by omega)), hv.1 263 x (h2 _ _ (by omega)), hv.1 262 x (h2 _ _ (by omega))]
    exact a1 x hx
  · rw [hw.1 171 i (h1 _ _ (by omega)), hv.1 261 i (h2 _ _ (by omega))]
    exact a5 i hi
  · rw [hw.1 167 8 (h1 _ _ (by omega)), hv.1 174 132 (h2 _ _ (by omega))]
    exact a6
  · rw [hw.1 167 9 (h1 _ _ (by omega)), hv.1 174 133 (h2 _ _ (by omega))]
    exact a7
/-- a want: 0 it is met, 1 its part is being made, 2 it is to be made, 3 none fits, 4 too many -/
def wstF (F : Nat × Option Nat) (l : Bool) (S : Nat → Nat) : Nat :=
  if F.1 = 0 then 3 else if F.1 ≠ 1 then 4 else if l = true then 0 else
  match F.2 with
  | none => 0
  | some x => if S x = 2 then 0 else if S x = 1 then 1 else 2
def wst (m : cS) (t : Nat) (S : Nat → Nat) (p : Nat) : Nat :=
  if (eff m t 13 p 0).1 = 0 then 0 else wstF (ftC (ftB m (wof m t p) (wlb m t p)) (ccn m)) (wlt m t p) S
def wtx (m : cS) (t p : Nat) : Nat := ((ftC (ftB m (wof m t p) (wlb m t p)) (ccn m)).2).getD 0
/-- something is wrong: noted in both -/
theorem WR_note {a b : Int32} (h : WR m w v S k) : WR m (pI (pI w 167 8 a) 167 9 b) (pI (pI v 174 132 a) 174 133 b) S k := by
  obtain ⟨a1, a2, a3, a4, a5, a6, a7⟩ := h
  have W : ∀ A i, A ≠ 167 → (pI (pI w 167 8 a) 167 9 b).1 A i = w.1 A i := fun A i z => by rw [rI, if_neg (by omega), rI, if_neg (by omega)]
  have V : ∀ A i, A ≠ 174 → (pI (pI v 174 132 a) 174 133 b).1 A i = v.1 A i := fun A i z => by rw [rI, if_neg (by omega), rI, if_neg (by omega)]
  refine ⟨fun x hx => ?_, by rw [rI, if_neg (by omega), rI, if_neg (by omega)]; exact a2, by rw [rI, if_neg (by omega), rI, if_neg (by omega)]; exact a3, a4, fun i hi => ?_, ?_, ?_⟩
  · rw [W 168 x (by omega), W 170 x (by omega), V 264 x (by omega), V 263 x (by omega), V 262 x (by omega)]
    exact a1 x hx
  · rw [W 171 i (by omega), V 261 i (by omega)]
    exact a5 i hi
  · rw [rI, if_neg (by omega), rI, if_pos ⟨rfl, rfl⟩, rI, if_neg (by omega), rI, if_pos ⟨rfl, rfl⟩]
  · rw [rI, if_pos ⟨rfl, rfl⟩, rI, if_pos ⟨rfl, rfl⟩]
end WR1
