/-! THE ROWS OF MARKS: cells of their own; those that are free -/
section ALOS
variable {n r r0 V F x : Nat} {c d w : cS} {sz : Nat → Nat} {X : Nat → Nat → Nat} {Y : Nat → Nat} {nm : Int64}
/-- not more things than places -/
theorem pig : ∀ (U a : Nat) (f : Nat → Nat), (∀ i, i < a → f i < U) → (∀ i j, i < a → j < a → f i = f j → i = j) → a ≤ U
  | 0, a, f, h1, _ => by
    by_cases e : a = 0
    · omega
    · exact absurd (h1 0 (by omega)) (Nat.not_lt_zero _)
  | U + 1, a, f, h1, h2 => by
    by_cases e : ∃ i, i < a ∧ f i = U
    · obtain ⟨i0, hi0, hf0⟩ := e
      have := pig U (a - 1) (fun i => if i = i0 then f (a - 1) else f i) (fun i hi => by
        by_cases e1 : i = i0
        · rw [if_pos e1]
          have h3 := h1 (a - 1) (by omega)
          by_cases e2 : f (a - 1) = U
          · have := h2 (a - 1) i0 (by omega) hi0 (by rw [e2, hf0])
            omega
          · omega
        · rw [if_neg e1]
          have h3 := h1 i (by omega)
          by_cases e2 : f i = U
          · exact absurd (h2 i i0 (by omega) hi0 (by rw [e2, hf0])) e1
          · omega) (fun i j hi hj hij => by
        by_cases e1 : i = i0
        · by_cases e2 : j = i0
          · omega
          · rw [if_pos e1, if_neg e2] at hij
            have := h2 (a - 1) j (by omega) (by omega) hij
            omega
        · by_cases e2 : j = i0
          · rw [if_neg e1, if_pos e2] at hij
            have := h2 i (a - 1) (by omega) (by omega) hij
            omega
          · rw [if_neg e1, if_neg e2] at hij
            exact h2 i j (by omega) (by omega) hij)
      omega
    · have := pig U a f (fun i hi => by
        have h3 := h1 i hi
        by_cases e2 : f i = U
        · exact absurd ⟨i, hi, e2⟩ e
        · omega) h2
      omega
def ALO (c : cS) (V F : Nat) (sz : Nat → Nat) (X : Nat → Nat → Nat) (Y : Nat → Nat) : Prop :=
  V + F ≤ 4096 ∧ c.1 133 11 = nI (V + F) ∧ c.1 133 13 = nI V ∧
  (∀ r, r < 2242 → c.1 144 r = nI (sz r)) ∧
  (∀ r, r < 2242 → 0 < sz r → c.1 142 r = nI (X r 0) ∧ c.1 143 r = nI (X r (sz r - 1))) ∧
  (∀ r i, r < 2242 → i < sz r → X r i < V + F) ∧
  (∀ r i, r < 2242 → i + 1 < sz r → c.1 138 (X r i) = nI (X r (i + 1))) ∧
  (∀ r i r' i', r < 2242 → i < sz r → r' < 2242 → i' < sz r' → X r i = X r' i' → r = r' ∧ i = i') ∧
  c.1 133 12 = (if F = 0 then nM else nI (Y 0)) ∧
  (∀ k, k < F → Y k < V + F ∧ c.1 138 (Y k) = if k + 1 = F then nM else nI (Y (k + 1))) ∧
  (∀ k k', k < F → k' < F → Y k = Y k' → k = k') ∧
  (∀ k r i, k < F → r < 2242 → i < sz r → Y k ≠ X r i)
theorem ALO_sz (h : ALO c V F sz X Y) (hr : r < 2242) : sz r ≤ V := by
  obtain ⟨-, -, -, -, -, h6, -, h8, -, h10, h11, h12⟩ := h
  have := pig (V + F) (sz r + F) (fun j => if j < sz r then X r j else Y (j - sz r)) (fun j hj => by
    by_cases e : j < sz r
    · rw [if_pos e]
      exact h6 r j hr e
    · rw [if_neg e]
      exact (h10 (j - sz r) (by omega)).1) (fun i j hi hj hij => by
    by_cases e1 : i < sz r
    · by_cases e2 : j < sz r
      · rw [if_pos e1, if_pos e2] at hij
        exact (h8 r i r j hr e1 hr e2 hij).2
      · rw [if_pos e1, if_neg e2] at hij
        exact absurd hij.symm (h12 (j - sz r) r i (by omega) hr e1)
    · by_cases e2 : j < sz r
      · rw [if_neg e1, if_pos e2] at hij
        exact absurd hij (h12 (i - sz r) r j (by omega) hr e2)
      · rw [if_neg e1, if_neg e2] at hij
        have := h11 _ _ (by omega) (by omega) hij
        omega)
  omega
theorem ALO_ch (h : ALO c V F sz X Y) (hr : r < 2242) : ∀ i, i < sz r → ch c r i = nI (X r i) ∧ mi c r i = X r i := by
  obtain ⟨h1, -, -, -, h5, h6, h7, -⟩ := h
  intro i
  induction i with
  | zero =>
    intro hi
    have e : ch c r 0 = nI (X r 0) := (h5 r hr hi).1
    refine ⟨e, ?_⟩
    unfold mi
    rw [e, ix_n (by have := h6 r 0 hr hi; omega)]
  | succ i ih =>
    intro hi
    have e : ch c r (i + 1) = nI (X r (i + 1)) := by
      show c.1 138 (ix (ch c r i)) = _
      rw [(ih (by omega)).1, ix_n (by have := h6 r i hr (by omega); omega)]
      exact h7 r i hr hi
    refine ⟨e, ?_⟩
    unfold mi
    rw [e, ix_n (by have := h6 r (i + 1) hr hi; omega)]
theorem ALO_cg (h : ALO c V F sz X Y) (hc : ∀ A l, (A = 133 ∧ 11 ≤ l ∧ l ≤ 13) ∨ A = 138 ∨ (142 ≤ A ∧ A ≤ 144) → d.1 A l = c.1 A l) : ALO d V F sz X Y := by
  obtain ⟨h1, h2, h3, h4, h5, h6, h7, h8, h9, h10, h11, h12⟩ := h
  exact ⟨h1, by rw [hc _ _ (by omega)]; exact h2, by rw [hc _ _ (by omega)]; exact h3, fun r hr => by rw [hc _ _ (by omega)]; exact h4 r hr, fun r hr z => by rw [hc _ _ (by omega), hc _ _ (by omega)]; exact h5 r hr z, h6, fun r i hr hi => by rw [hc _ _ (by omega)]; exact h7 r i hr hi, h8, by rw [hc _ _ (by omega)]; exact h9, fun k hk => by rw [hc _ _ (by omega)]; exact h10 k hk, h11, h12⟩
/-- the cell that comes next -/
def nxC (V F : Nat) (Y : Nat → Nat) : Nat := if F = 0 then V else Y 0
def qApp (r x la A l : Nat) : Bool := decide ((A = 133 ∧ 11 ≤ l ∧ l ≤ 13) ∨ (A = 138 ∧ (l = x ∨ l = la)) ∨ (142 ≤ A ∧ A ≤ 144 ∧ l = r) ∨ (134 ≤ A ∧ A ≤ 137 ∧ l = x))
def upZ (sz : Nat → Nat) (r v : Nat) : Nat → Nat := fun q => if q = r then v else sz q
def upX (X : Nat → Nat → Nat) (r s x : Nat) : Nat → Nat → Nat := fun q i => if q = r ∧ i = s then x else X q i
set_option maxHeartbeats 8000000 in
theorem al_224 (h : ALO c V F sz X Y) (hr : r < 2242) (hV : V < 4096) : ∃ d, d_224 n (nI r) nm c = some (nI (nxC V F Y), d) ∧ ALO d (V + 1) (F - 1) (upZ sz r (sz r + 1)) (upX X r (sz r) (nxC V F Y)) (fun k => Y (k + 1)) ∧ nxC V F Y < 4096 ∧ (∀ r' i, r' < 2242 → i < sz r' → X r' i ≠ nxC V F Y) ∧ d.2 134 (nxC V F Y) = nm ∧ d.1 135 (nxC V F Y) = nM ∧ d.1 136 (nxC V F Y) = nI 0 ∧ d.1 137 (nxC V F Y) = nI 1 ∧ sx (qApp r (nxC V F Y) (X r (sz r - 1))) c d := by
  have hsz := ALO_sz h hr
  obtain ⟨h1, h2, h3, h4, h5, h6, h7, h8, h9, h10, h11, h12⟩ := h
  obtain ⟨x, hx⟩ : ∃ x, x = nxC V F Y := ⟨_, rfl⟩
  rw [← hx]
  have hx1 : x < 4096 := by
    rw [hx]
    unfold nxC
    by_cases e : F = 0
    · rw [if_pos e]
      exact hV
    · rw [if_neg e]
      have := (h10 0 (by omega)).1
      omega
  have hxn : ∀ r' i, r' < 2242 → i < sz r' → X r' i ≠ x := fun r' i hr' hi => by
    rw [hx]
    unfold nxC
    by_cases e : F = 0
    · rw [if_pos e]
      have := h6 r' i hr' hi
      omega
    · rw [if_neg e]
      exact fun z => h12 0 r' i (by omega) hr' hi z.symm
  obtain ⟨s, hs⟩ : ∃ s, s = sz r := ⟨_, rfl⟩
  rw [← hs]
  rw [← hs] at hsz
  obtain ⟨la, hla⟩ : ∃ la, la = X r (s - 1) := ⟨_, rfl⟩
  rw [← hla]
  obtain ⟨y, hy⟩ : ∃ y, y = c.1 138 x := ⟨_, rfl⟩
  have hir : ib (nI r) 2242 := ib_n hr (by decide)
  have er : ix (nI r) = r := ix_n (by omega)
  have hix : ib (nI x) 4096 := ib_n hx1 (by decide)
  have ex : ix (nI x) = x := ix_n (by omega)
  have hla4 : 0 < s → la < 4096 := fun z => by
    have := h6 r (s - 1) hr (by omega)
    omega
  have hlx : 0 < s → la ≠ x := fun z => by
    rw [hla]
    exact hxn r (s - 1) hr (by omega)
  -- the program
  obtain ⟨c1, hc1⟩ : ∃ c1, c1 = if F = 0 then pI c 133 11 (nI (V + 1)) else pI c 133 12 y := ⟨_, rfl⟩
  have C1 : ∀ A l, ¬ (A = 133 ∧ (l = 11 ∨ l = 12)) → c1.1 A l = c.1 A l := fun A l z => by
    rw [hc1]
    split
    · rw [rI, if_neg (by omega)]
    · rw [rI, if_neg (by omega)]
  have C12 : c1.2 = c.2 := by
    rw [hc1]
    split <;> rfl
  obtain ⟨c2, hc2⟩ : ∃ c2, c2 = if s = 0 then pI c1 142 r (nI x) else pI c1 138 la (nI x) := ⟨_, rfl⟩
  have C2 : ∀ A l, ¬ (A = 142 ∧ l = r) → ¬ (A = 138 ∧ l = la ∧ 0 < s) → c2.1 A l = c1.1 A l := fun A l z z' => by
    rw [hc2]
    by_cases e : s = 0
    · rw [if_pos e, rI, if_neg (by omega)]
    · rw [if_neg e, rI, if_neg (by omega)]
  have C22 : c2.2 = c1.2 := by
    rw [hc2]
    split <;> rfl
  obtain ⟨d, hd⟩ : ∃ d, d = pI (pI (pI (pL (pI (pI (pI (pI c2 143 r (nI x)) 144 r (nI (s + 1))) 133 13 (nI (V + 1))) 138 x (-1)) 134 x nm) 135 x (-1)) 136 x 0) 137 x (nI 1) := ⟨_, rfl⟩
  have c144 : c1.1 144 r = nI s := by
    rw [C1 _ _ (by omega), hs]
    exact h4 r hr
  have c143 : 0 < s → c1.1 143 r = nI la := fun z => by
    rw [C1 _ _ (by omega), hla, hs]
    exact (h5 r hr (by omega)).2
  have hprog : d_224 n (nI r) nm c = some (nI x, d) := by
    have body : wp (if ib (nI r) 2242 then
          lt (pI c2 143 (ix (nI r)) (nI x)) (fun c7 =>
          if ib (nI r) 2242 then
          if ib (nI r) 2242 then
          lt (pI c7 144 (ix (nI r)) ((c7.1 144 (ix (nI r))) + 1)) (fun c11 =>
          lt (pI c11 133 13 ((c11.1 133 13) + 1)) (fun c13 =>
          if ib (nI x) 4096 then
          lt (pI c13 138 (ix (nI x)) (-1)) (fun c16 =>
          if ib (nI x) 4096 then
          lt (pL c16 134 (ix (nI x)) nm) (fun c19 =>
          if ib (nI x) 4096 then
          lt (pI c19 135 (ix (nI x)) (-1)) (fun c22 =>
          if ib (nI x) 4096 then
          lt (pI c22 136 (ix (nI x)) 0) (fun c25 =>
          if ib (nI x) 4096 then
          lt (pI c25 137 (ix (nI x)) (vp_nar .boolean 1)) (fun c28 =>
          some (nI x, c28))
          else none)
          else none)
          else none)
          else none)
          else none))
          else none
          else none)
          else none) (fun q => q = (nI x, d)) := by
      rw [er, ex]
      refine wpt hir (wpl (wpt hir (wpt hir ?_)))
      rw [show (pI c2 143 r (nI x)).1 144 r = nI s by rw [rI, if_neg (by omega), C2 _ _ (by omega) (by omega)]; exact c144, nI_1]
      refine wpl ?_
      rw [show (pI (pI c2 143 r (nI x)) 144 r (nI (s + 1))).1 133 13 = nI V by rw [rI, if_neg (by omega), rI, if_neg (by omega), C2 _ _ (by omega) (by omega), C1 _ _ (by omega)]; exact h3, nI_1]
      refine wpl (wpt hix (wpl (wpt hix (wpl (wpt hix (wpl (wpt hix (wpl (wpt hix (wpl ?_))))))))))
      rw [hd]
      rfl
    have mid : wp (if ib (nI r) 2242 then
        jn (fun p5 : cS => if ib (nI r) 2242 then
          lt (pI p5 143 (ix (nI r)) (nI x)) (fun c7 =>
          if ib (nI r) 2242 then
          if ib (nI r) 2242 then
          lt (pI c7 144 (ix (nI r)) ((c7.1 144 (ix (nI r))) + 1)) (fun c11 =>
          lt (pI c11 133 13 ((c11.1 133 13) + 1)) (fun c13 =>
          if ib (nI x) 4096 then
          lt (pI c13 138 (ix (nI x)) (-1)) (fun c16 =>
          if ib (nI x) 4096 then
          lt (pL c16 134 (ix (nI x)) nm) (fun c19 =>
          if ib (nI x) 4096 then
          lt (pI c19 135 (ix (nI x)) (-1)) (fun c22 =>
          if ib (nI x) 4096 then
          lt (pI c22 136 (ix (nI x)) 0) (fun c25 =>
          if ib (nI x) 4096 then
          lt (pI c25 137 (ix (nI x)) (vp_nar .boolean 1)) (fun c28 =>
          some (nI x, c28))
          else none)
          else none)
          else none)
          else none)
          else none))
          else none
          else none)
          else none)
        (fun j94 =>
        if (c1.1 144 (ix (nI r))) = 0 then
          if ib (nI r) 2242 then
          lt (pI c1 142 (ix (nI r)) (nI x)) (fun c35 =>
          j94 c35)
          else none
        else
          if ib (nI r) 2242 then
          if ib (c1.1 143 (ix (nI r))) 4096 then
          lt (pI c1 138 (ix (c1.1 143 (ix (nI r)))) (nI x)) (fun c32 =>
          j94 c32)
          else none
          else none)
        else none) (fun q => q = (nI x, d)) := by
      refine wpt hir (wpj ?_)
      by_cases e : s = 0
      · refine wpt (by rw [er, c144, e]; rfl) (wpt hir (wpl ?_))
        rw [if_pos e] at hc2
        rw [er, ← hc2]
        rw [er] at body
        exact body
      · have hl := hla4 (by omega)
        have hne : ¬ nI s = 0 := fun z => e ((nI_eq (by omega) (by decide)).mp (show _ = nI 0 from z))
        rw [er, c144, c143 (by omega), show ix (nI la) = la from ix_n (by omega)]
        refine wpf hne (wpt hir (wpt (ib_n hl (by decide)) (wpl ?_)))
        rw [if_neg e] at hc2
        rw [← hc2]
        rw [er] at body
        exact body
    unfold d_224
    refine eq_wp (wpj ?_)
    rw [h9, h2]
    by_cases e : F = 0
    · rw [if_pos e, e, Nat.add_zero, nI_1]
      have hxV : x = V := by
        rw [hx]
        unfold nxC
        rw [if_pos e]
      rw [hxV] at mid ⊢
      refine wpt (by decide) (wpt (nI_lt (b := 4096) hV (by decide)) (wpj (wpt (by decide) (wpl ?_))))
      rw [if_pos e] at hc1
      rw [← hc1]
      exact mid
    · have hxY : x = Y 0 := by
        rw [hx]
        unfold nxC
        rw [if_neg e]
      have hY := (h10 0 (by omega)).1
      rw [if_neg e, ← hxY]
      refine wpf (nI_pos (by omega)) (wpt (nI_lt (b := 4096) hx1 (by decide)) (wpj (wpf (nI_pos (by omega)) (wpt hix ?_))))
      rw [show c.1 138 (ix (nI x)) = y by rw [ex, ← hy]]
      refine wpl ?_
      rw [if_neg e] at hc1
      rw [← hc1]
      exact mid
  have R : ∀ A l, ¬ (A = 143 ∧ l = r) → ¬ (A = 144 ∧ l = r) → ¬ (A = 133 ∧ l = 13) → ¬ ((A = 138 ∨ A = 135 ∨ A = 136 ∨ A = 137) ∧ l = x) → d.1 A l = c2.1 A l := fun A l z1 z2 z3 z4 => by
    rw [hd, rI, if_neg (by omega), rI, if_neg (by omega), rI, if_neg (by omega)]
    show (pI (pI (pI (pI c2 143 r (nI x)) 144 r (nI (s + 1))) 133 13 (nI (V + 1))) 138 x (-1)).1 A l = _
    rw [rI, if_neg (by omega), rI, if_neg (by omega), rI, if_neg (by omega), rI, if_neg (by omega)]
  have R0 : ∀ A l, ¬ (A = 143 ∧ l = r) → ¬ (A = 144 ∧ l = r) → ¬ (A = 133 ∧ (l = 11 ∨ l = 12 ∨ l = 13)) → ¬ ((A = 138 ∨ A = 135 ∨ A = 136 ∨ A = 137) ∧ l = x) → ¬ (A = 142 ∧ l = r) → ¬ (A = 138 ∧ l = la ∧ 0 < s) → d.1 A l = c.1 A l := fun A l z1 z2 z3 z4 z5 z6 => by
    rw [R A l z1 z2 (by omega) z4, C2 A l z5 z6, C1 A l (by omega)]
  have R138 : ∀ l, l ≠ x → l ≠ la → d.1 138 l = c.1 138 l := fun l z1 z2 => R0 138 l (by omega) (by omega) (by omega) (by omega) (by omega) (by omega)
  refine ⟨d, hprog, ⟨by omega, ?_, ?_, fun q hq => ?_, fun q hq hq0 => ?_, fun q i hq hi => ?_, fun q i hq hi => ?_, fun q i q' i' hq hi hq' hi' he => ?_, ?_, fun k hk => ?_, fun k k' hk hk' he => ?_, fun k q i hk hq hi => ?_⟩, hx1, hxn, ?_, ?_, ?_, ?_, ?_⟩
  · rw [R _ _ (by omega) (by omega) (by omega) (by omega), C2 _ _ (by omega) (by omega), hc1]
    by_cases e : F = 0
    · rw [if_pos e, rI, if_pos ⟨rfl, rfl⟩]
      exact congrArg nI (by omega)
    · rw [if_neg e, rI, if_neg (by omega), h2]
      exact congrArg nI (by omega)
  · rw [hd, rI, if_neg (by omega), rI, if_neg (by omega), rI, if_neg (by omega)]
    show (pI (pI (pI (pI c2 143 r (nI x)) 144 r (nI (s + 1))) 133 13 (nI (V + 1))) 138 x (-1)).1 133 13 = _
    rw [rI, if_neg (by omega), rI, if_pos ⟨rfl, rfl⟩]
  · unfold upZ
    by_cases e : q = r
    · rw [if_pos e, e, hd, rI, if_neg (by omega), rI, if_neg (by omega), rI, if_neg (by omega)]
      show (pI (pI (pI (pI c2 143 r (nI x)) 144 r (nI (s + 1))) 133 13 (nI (V + 1))) 138 x (-1)).1 144 r = _
      rw [rI, if_neg (by omega), rI, if_neg (by omega), rI, if_pos ⟨rfl, rfl⟩]
    · rw [if_neg e, R0 _ _ (by omega) (by omega) (by omega) (by omega) (by omega) (by omega)]
      exact h4 q hq
  · unfold upZ at hq0 ⊢
    unfold upX
    by_cases e : q = r
    · rw [if_pos e, e]
      refine ⟨?_, ?_⟩
      · rw [R _ _ (by omega) (by omega) (by omega) (by omega), hc2]
        by_cases e2 : s = 0
        · rw [if_pos e2, rI, if_pos ⟨rfl, rfl⟩, if_pos ⟨rfl, e2.symm⟩]
        · rw [if_neg e2, rI, if_neg (by omega), C1 _ _ (by omega), if_neg (by omega)]
          exact (h5 r hr (by omega)).1
      · rw [hd, rI, if_neg (by omega), rI, if_neg (by omega), rI, if_neg (by omega)]
        show (pI (pI (pI (pI c2 143 r (nI x)) 144 r (nI (s + 1))) 133 13 (nI (V + 1))) 138 x (-1)).1 143 r = _
        rw [rI, if_neg (by omega), rI, if_neg (by omega), rI, if_neg (by omega), rI, if_pos ⟨rfl, rfl⟩, if_pos ⟨rfl, by omega⟩]
    · rw [if_neg e] at hq0 ⊢
      rw [if_neg (fun z => e z.1), if_neg (fun z => e z.1), R0 _ _ (by omega) (by omega) (by omega) (by omega) (by omega) (by omega), R0 _ _ (by omega) (by omega) (by omega) (by omega) (by omega) (by omega)]
      exact h5 q hq hq0
  · unfold upZ at hi
    unfold upX
    have hxV : x < V + 1 + (F - 1) := by
      rw [hx]
      unfold nxC
      by_cases e : F = 0
      · rw [if_pos e]
        omega
      · rw [if_neg e]
        have := (h10 0 (by omega)).1
        omega
    by_cases e : q = r ∧ i = s
    · rw [if_pos e]
      exact hxV
    · rw [if_neg e]
      have : i < sz q := by
        by_cases e2 : q = r
        · rw [if_pos e2] at hi
          rw [e2, ← hs]
          omega
        · rw [if_neg e2] at hi
          exact hi
      have := h6 q i hq this
      omega
  · unfold upZ at hi
    unfold upX
    by_cases e : q = r
    · subst e
      rw [if_pos rfl] at hi
      rw [if_neg (by omega)]
      by_cases e2 : i + 1 = s
      · rw [if_pos ⟨rfl, e2⟩, show i = s - 1 by omega, ← hla, R _ _ (by omega) (by omega) (by omega) (by have := hlx (by omega); omega), hc2, if_neg (by omega), rI, if_pos ⟨rfl, rfl⟩]
      · rw [if_neg (by omega), R138 _ (hxn q i hq (by omega)) (fun z => by
          rw [hla] at z
          have := (h8 q i q (s - 1) hq (by omega) hq (by omega) z).2
          omega)]
        exact h7 q i hq (by omega)
    · rw [if_neg e] at hi
      rw [if_neg (fun z => e z.1), if_neg (fun z => e z.1)]
      by_cases e3 : 0 < s
      · rw [R138 _ (hxn q i hq (by omega)) (fun z => by
          rw [hla] at z
          exact e (h8 q i r (s - 1) hq (by omega) hr (by omega) z).1)]
        exact h7 q i hq hi
      · rw [R0 _ _ (by omega) (by omega) (by omega) (by have := hxn q i hq (by omega); omega) (by omega) (by omega)]
        exact h7 q i hq hi
  · unfold upZ at hi hi'
    unfold upX at he
    have hin : ∀ {q i : Nat}, q < 2242 → i < (if q = r then s + 1 else sz q) → ¬ (q = r ∧ i = s) → i < sz q := fun {q i} hq hi z => by
      by_cases e2 : q = r
      · rw [if_pos e2] at hi
        rw [e2, ← hs]
        omega
      · rw [if_neg e2] at hi
        exact hi
    by_cases e1 : q = r ∧ i = s
    · by_cases e2 : q' = r ∧ i' = s
      · exact ⟨e1.1.trans e2.1.symm, e1.2.trans e2.2.symm⟩
      · rw [if_pos e1, if_neg e2] at he
        exact absurd he.symm (hxn q' i' hq' (hin hq' hi' e2))
    · by_cases e2 : q' = r ∧ i' = s
      · rw [if_neg e1, if_pos e2] at he
        exact absurd he (hxn q i hq (hin hq hi e1))
      · rw [if_neg e1, if_neg e2] at he
        exact h8 q i q' i' hq (hin hq hi e1) hq' (hin hq' hi' e2) he
  · rw [R _ _ (by omega) (by omega) (by omega) (by omega), C2 _ _ (by omega) (by omega), hc1]
    by_cases e : F = 0
    · rw [if_pos e, rI, if_neg (by omega), h9, if_pos e, if_pos (by omega)]
    · rw [if_neg e, rI, if_pos ⟨rfl, rfl⟩, hy, hx]
      unfold nxC
      rw [if_neg e, (h10 0 (by omega)).2]
      by_cases e2 : 0 + 1 = F
      · rw [if_pos e2, if_pos (by omega)]
      · rw [if_neg e2, if_neg (by omega)]
  · have hF : F ≠ 0 := by omega
    have hk1 := h10 (k + 1) (by omega)
    have hYx : Y (k + 1) ≠ x := fun z => by
      rw [hx] at z
      unfold nxC at z
      rw [if_neg hF] at z
      have := h11 (k + 1) 0 (by omega) (by omega) z
      omega
    refine ⟨show Y (k + 1) < _ by have := hk1.1; omega, ?_⟩
    show d.1 138 (Y (k + 1)) = if k + 1 = F - 1 then nM else nI (Y (k + 1 + 1))
    rw [R0 _ _ (by omega) (by omega) (by omega) (by omega) (by omega) (fun z => by
      obtain ⟨-, z2, z3⟩ := z
      rw [hla] at z2
      exact h12 (k + 1) r (s - 1) (by omega) hr (by omega) z2), hk1.2]
    by_cases e : k + 1 + 1 = F
    · rw [if_pos e, if_pos (by omega)]
    · rw [if_neg e, if_neg (by omega)]
  · have := h11 (k + 1) (k' + 1) (by omega) (by omega) he
    omega
  · unfold upZ at hi
    unfold upX
    by_cases e : q = r ∧ i = s
    · rw [if_pos e]
      intro z
      rw [hx] at z
      unfold nxC at z
      rw [if_neg (by omega)] at z
      have := h11 (k + 1) 0 (by omega) (by omega) z
      omega
    · rw [if_neg e]
      refine h12 (k + 1) q i (by omega) hq ?_
      by_cases e2 : q = r
      · rw [if_pos e2] at hi
        rw [e2, ← hs]
        omega
      · rw [if_neg e2] at hi
        exact hi
  · rw [hd]
    show (pL (pI (pI (pI (pI c2 143 r (nI x)) 144 r (nI (s + 1))) 133 13 (nI (V + 1))) 138 x (-1)) 134 x nm).2 134 x = _
    rw [rL, if_pos ⟨rfl, rfl⟩]
  · rw [hd, rI, if_neg (by omega), rI, if_neg (by omega), rI, if_pos ⟨rfl, rfl⟩]
    rfl
  · rw [hd, rI, if_neg (by omega), rI, if_pos ⟨rfl, rfl⟩]
    rfl
  · rw [hd, rI, if_pos ⟨rfl, rfl⟩]
  · have s1 : sx (qApp r x la) c c1 := by
      rw [hc1]
      split
      · exact sx_pI sx_rfl (decide_eq_true (by omega))
      · exact sx_pI sx_rfl (decide_eq_true (by omega))
    have s2 : sx (qApp r x la) c c2 := by
      rw [hc2]
      split
      · exact sx_pI s1 (decide_eq_true (by omega))
      · exact sx_pI s1 (decide_eq_true (by omega))
    rw [hd]
    exact sx_pI (sx_pI (sx_pI (sx_pL (sx_pI (sx_pI (sx_pI (sx_pI s2 (decide_eq_true (by omega))) (decide_eq_true (by omega))) (decide_eq_true (by omega))) (decide_eq_true (by omega))) (decide_eq_true (by omega))) (decide_eq_true (by omega))) (decide_eq_true (by omega))) (decide_eq_true (by omega))
end ALOS
