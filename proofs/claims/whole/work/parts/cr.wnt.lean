/-! WIRING: what a want asks -/
section WNT
variable {n t p s : Nat} {c d w m u v : cS}
/-- CLASSES have names -/
def CN (m : cS) : Prop := ∀ k, k < ccn m → m.2 200 k ≠ 0
theorem cOf_0 (h : CN m) : cOf m 0 = none := by
  cases e : cOf m 0 with
  | none => rfl
  | some k => exact absurd (of_decide_eq_true (ff_some e).2.1) (h k (ff_some e).1)
/-- the CLASS that is asked for, and the label, and whether late -/
def wof (m : cS) (t p : Nat) : Option Nat := cOf m (mvx m t p 2 28518)
def wlb (m : cS) (t p : Nat) : Int64 := mvx m t p 2 465490306412
def wlt (m : cS) (t p : Nat) : Bool := decide (mvx m t p 1 1818326117 ≠ 0)
theorem wof_lt {y : Nat} (h : wof m t p = some y) : y < ccn m := (ff_some h).1
theorem wof_f (hN : CN m) (h : mht m t p 28518 = false) : wof m t p = none := by
  unfold wof
  rw [mht_f h]
  exact cOf_0 hN
end WNT
