/-! PROVING THINGS OF PURE PROGRAMS -/
section WI
variable {α β S R : Type} {K : β → Prop}
theorem wpb {x : Option α} {f : α → Option β} (h : wp x (fun a => wp (f a) K)) : wp (x.bind f) K := by
  cases x <;> exact h
theorem wpl {a : α} {f : α → Option β} (h : wp (f a) K) : wp (lt a f) K := h
theorem wpj {k : α → Option β} {f : (α → Option β) → Option β} (h : wp (f k) K) : wp (jn k f) K := h
theorem wpg {p : Prop} [Decidable p] {x : Option β} (g : p) (h : wp x K) : wp (if p then x else none) K := by
  rw [if_pos g]
  exact h
theorem wpt {p : Prop} [Decidable p] {x y : Option β} (g : p) (h : wp x K) : wp (if p then x else y) K := by
  rw [if_pos g]
  exact h
theorem wpf {p : Prop} [Decidable p] {x y : Option β} (g : ¬ p) (h : wp y K) : wp (if p then x else y) K := by
  rw [if_neg g]
  exact h
theorem wpi {p : Prop} [Decidable p] {x y : Option β} (h1 : p → wp x K) (h2 : ¬ p → wp y K) : wp (if p then x else y) K := by
  by_cases hp : p
  · exact wpt hp (h1 hp)
  · exact wpf hp (h2 hp)
theorem wpc {x : Option α} {f : α → Option β} {K' : α → Prop} (h : wp x K') (hk : ∀ a, K' a → wp (f a) K) : wp (x.bind f) K := wpb (wp_mono h hk)
theorem wp_ex {x : Option β} (h : wp x K) : ∃ a, x = some a ∧ K a := by
  cases x with
  | none => exact h.elim
  | some a => exact ⟨a, rfl, h⟩
theorem wp_of {x : Option β} {a : β} (e : x = some a) (h : K a) : wp x K := by
  rw [e]
  exact h
/-- a loop that goes on while a number falls -/
theorem whl_run {f : S → Option (S ⊕ R)} {X : R → Prop} (I : Nat → S → Prop) (h : ∀ m s, I m s → wp (f s) (Sum.elim (fun s' => ∃ m', m' < m ∧ I m' s') X)) : ∀ (n m : Nat) (s : S), m < n → I m s → wp (whl f n s) X
  | 0, _, _, hm, _ => absurd hm (Nat.not_lt_zero _)
  | n + 1, m, s, hm, hi => by
    refine wpc (h m s hi) (fun r hr => ?_)
    cases r with
    | inl s' =>
      obtain ⟨m', hm', hi'⟩ := hr
      exact whl_run I h n m' s' (by omega) hi'
    | inr r => exact hr
theorem whl_one {f : S → Option (S ⊕ R)} {X : R → Prop} {n : Nat} {s : S} (h : wp (f s) (Sum.elim (fun s' => wp (whl f n s') X) X)) : wp (whl f (n + 1) s) X := by
  refine wpc h (fun r hr => ?_)
  cases r with
  | inl s' => exact hr
  | inr r => exact hr
end WI
/-- c' is c, but for places of r -/
def sx (r : Nat → Nat → Bool) (c c' : cS) : Prop := (∀ a i, r a i = false → c'.1 a i = c.1 a i) ∧ ∀ a i, r a i = false → c'.2 a i = c.2 a i
/-- the places of r alone -/
def mk (r : Nat → Nat → Bool) (c : cS) : cS := (fun a i => cond (r a i) (c.1 a i) 0, fun a i => cond (r a i) (c.2 a i) 0)
section SX
variable {r q : Nat → Nat → Bool} {c c1 c2 : cS}
theorem sx_rfl : sx r c c := ⟨fun _ _ _ => rfl, fun _ _ _ => rfl⟩
theorem sx_trans (h : sx r c c1) (g : sx r c1 c2) : sx r c c2 := ⟨fun a i e => (g.1 a i e).trans (h.1 a i e), fun a i e => (g.2 a i e).trans (h.2 a i e)⟩
theorem sx_wide (h : sx r c c1) (hq : ∀ a i, q a i = false → r a i = false) : sx q c c1 := ⟨fun a i e => h.1 a i (hq a i e), fun a i e => h.2 a i (hq a i e)⟩
theorem sx_mk (h : sx r c c1) (hd : ∀ a i, q a i = true → r a i = false) : mk q c1 = mk q c := by
  unfold mk
  congr 1
  · funext a i
    cases e : q a i with
    | false => rfl
    | true => exact h.1 a i (hd a i e)
  · funext a i
    cases e : q a i with
    | false => rfl
    | true => exact h.2 a i (hd a i e)
theorem sx_pI {a i : Nat} {v : Int32} (h : sx r c c1) (hr : r a i = true) : sx r c (pI c1 a i v) := by
  refine ⟨fun b j e => ?_, h.2⟩
  rw [← h.1 b j e]
  show (if b = a then upd (c1.1 a) i v else c1.1 b) j = c1.1 b j
  by_cases hb : b = a
  · subst hb
    rw [if_pos rfl]
    have hj : j ≠ i := fun z => by rw [z, hr] at e; cases e
    show (if j = i then v else c1.1 b j) = _
    rw [if_neg hj]
  · rw [if_neg hb]
theorem sx_pL {a i : Nat} {v : Int64} (h : sx r c c1) (hr : r a i = true) : sx r c (pL c1 a i v) := by
  refine ⟨h.1, fun b j e => ?_⟩
  rw [← h.2 b j e]
  show (if b = a then vp_updL (c1.2 a) i v else c1.2 b) j = c1.2 b j
  by_cases hb : b = a
  · subst hb
    rw [if_pos rfl]
    have hj : j ≠ i := fun z => by rw [z, hr] at e; cases e
    show (if j = i then v else c1.2 b j) = _
    rw [if_neg hj]
  · rw [if_neg hb]
/-- reading behind a store -/
theorem rI {a i b j : Nat} {v : Int32} : (pI c a i v).1 b j = if b = a ∧ j = i then v else c.1 b j := by
  show (if b = a then upd (c.1 a) i v else c.1 b) j = _
  by_cases hb : b = a
  · subst hb
    rw [if_pos rfl]
    show (if j = i then v else c.1 b j) = _
    by_cases hj : j = i
    · rw [if_pos hj, if_pos ⟨rfl, hj⟩]
    · rw [if_neg hj, if_neg (fun z => hj z.2)]
  · rw [if_neg hb, if_neg (fun z => hb z.1)]
theorem rL {a i b j : Nat} {v : Int64} : (pL c a i v).2 b j = if b = a ∧ j = i then v else c.2 b j := by
  show (if b = a then vp_updL (c.2 a) i v else c.2 b) j = _
  by_cases hb : b = a
  · subst hb
    rw [if_pos rfl]
    show (if j = i then v else c.2 b j) = _
    by_cases hj : j = i
    · rw [if_pos hj, if_pos ⟨rfl, hj⟩]
    · rw [if_neg hj, if_neg (fun z => hj z.2)]
  · rw [if_neg hb, if_neg (fun z => hb z.1)]
theorem rI2 {a i : Nat} {v : Int32} : (pI c a i v).2 = c.2 := rfl
theorem rL1 {a i : Nat} {v : Int64} : (pL c a i v).1 = c.1 := rfl
end SX
theorem ib_n {k n : Nat} (h : k < n) (hn : n < 2 ^ 31) : ib (nI k) n := nI_in h hn
theorem ix_n {k : Nat} (h : k < 2 ^ 31) : ix (nI k) = k := nI_clamp h
theorem nI_lit (k : Nat) : (OfNat.ofNat k : Int32) = nI k := rfl
