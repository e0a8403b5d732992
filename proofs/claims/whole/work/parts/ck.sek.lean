/-! WIRING: parts are sought -/
section SEK
variable {n : Nat} {c d m u : cS}
theorem w43 {n : Nat} (hn : 1000 ≤ n) : d_351 n 43 = some 2002873972 := by
  rw [e351 hn (by decide +kernel) (by decide +kernel)]
  exact congrArg some (by decide +kernel)
theorem w44 {n : Nat} (hn : 1000 ≤ n) : d_351 n 44 = some 1885434484 := by
  rw [e351 hn (by decide +kernel) (by decide +kernel)]
  exact congrArg some (by decide +kernel)
theorem w45 {n : Nat} (hn : 1000 ≤ n) : d_351 n 45 = some 465490306412 := by
  rw [e351 hn (by decide +kernel) (by decide +kernel)]
  exact congrArg some (by decide +kernel)
theorem w46 {n : Nat} (hn : 1000 ≤ n) : d_351 n 46 = some 28518 := by
  rw [e351 hn (by decide +kernel) (by decide +kernel)]
  exact congrArg some (by decide +kernel)
theorem w47 {n : Nat} (hn : 1000 ≤ n) : d_351 n 47 = some 1818326117 := by
  rw [e351 hn (by decide +kernel) (by decide +kernel)]
  exact congrArg some (by decide +kernel)
def prt (m : cS) (x : Nat) : Bool := match kOf m 1885434484 with
  | none => false
  | some t => decide (0 < (eff m t 13 (100 * x) 0).1)
def lab (m : cS) (x : Nat) : Int64 := match kOf m 1885434484 with
  | none => 0
  | some t => if 0 < (eff m t 13 (100 * x) 0).1 then mvx m t (100 * x) 2 465490306412 else 0
theorem prt_n (h : kOf m 1885434484 = none) {x : Nat} : prt m x = false ∧ lab m x = 0 := by
  unfold prt lab
  rw [h]
  exact ⟨rfl, rfl⟩
theorem prt_s {t x : Nat} (h : kOf m 1885434484 = some t) : prt m x = decide (0 < (eff m t 13 (100 * x) 0).1) ∧ lab m x = if 0 < (eff m t 13 (100 * x) 0).1 then mvx m t (100 * x) 2 465490306412 else 0 := by
  unfold prt lab
  rw [h]
  exact ⟨rfl, rfl⟩
def q44 (A i : Nat) : Bool := decide ((A = 146 ∧ 3 ≤ i ∧ i ≤ 5) ∨ A = 168 ∨ A = 169 ∨ A = 170)
theorem nC_44 : nC q44 := ⟨fun a i h1 h2 h3 => decide_eq_false (by omega), fun i h => decide_eq_false (by omega)⟩
/-- what the class found -/
def PTc (m c : cS) (N : Nat) : Prop := ∀ x, x < N → c.1 168 x = (if prt m x = true then nI 1 else nI 0) ∧ c.2 169 x = lab m x ∧ c.1 170 x = nI 0
/-- the row of one CLASS is written -/
theorem PT_set {w y : cS} {k : Nat} {b : Int32} {l : Int64} (h : PTc m w k) (hy : sx qS w y) (hb : b = if prt m k = true then nI 1 else nI 0) (hl : l = lab m k) : PTc m (pI (pL (pI y 168 k b) 169 k l) 170 k 0) (k + 1) := by
  intro x hx
  have e1 : ∀ z, (pI (pL (pI y 168 k b) 169 k l) 170 k 0).1 168 z = if z = k then b else w.1 168 z := fun z => by
    rw [rI, if_neg (by omega)]
    show (pI y 168 k b).1 168 z = _
    rw [rI]
    by_cases e : z = k
    · rw [if_pos ⟨rfl, e⟩, if_pos e]
    · rw [if_neg (fun q => e q.2), if_neg e]
      exact hy.1 168 z (decide_eq_false (by omega))
  have e2 : ∀ z, (pI (pL (pI y 168 k b) 169 k l) 170 k 0).2 169 z = if z = k then l else w.2 169 z := fun z => by
    show (pL (pI y 168 k b) 169 k l).2 169 z = _
    rw [rL]
    by_cases e : z = k
    · rw [if_pos ⟨rfl, e⟩, if_pos e]
    · rw [if_neg (fun q => e q.2), if_neg e]
      exact hy.2 169 z (decide_eq_false (by omega))
  have e3 : ∀ z, (pI (pL (pI y 168 k b) 169 k l) 170 k 0).1 170 z = if z = k then nI 0 else w.1 170 z := fun z => by
    rw [rI]
    by_cases e : z = k
    · rw [if_pos ⟨rfl, e⟩, if_pos e]
      rfl
    · rw [if_neg (fun q => e q.2), if_neg e]
      show (pI y 168 k b).1 170 z = _
      rw [rI, if_neg (by omega)]
      exact hy.1 170 z (decide_eq_false (by omega))
  rw [e1, e2, e3]
  by_cases e : x = k
  · rw [if_pos e, if_pos e, if_pos e, e]
    exact ⟨hb, hl, rfl⟩
  · rw [if_neg e, if_neg e, if_neg e]
    exact h x (by omega)
end SEK
