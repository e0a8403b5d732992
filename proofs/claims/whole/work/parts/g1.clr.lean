/-! THE ROWS OF MARKS: a row is cleared -/
section CLRS
variable {n r V F x : Nat} {c d w : cS} {sz : Nat → Nat} {X : Nat → Nat → Nat} {Y : Nat → Nat}
def qCl (r A l : Nat) : Bool := decide ((A = 133 ∧ (l = 12 ∨ l = 13)) ∨ A = 138 ∨ (A = 144 ∧ l = r))
theorem al_222 (h : ALO c V F sz X Y) (hr : r < 2242) : ∃ d Y', d_222 n (nI r) c = some d ∧ ALO d (V - sz r) (F + sz r) (upZ sz r 0) X Y' ∧ sx (qCl r) c d := by
  have hsz := ALO_sz h hr
  obtain ⟨h1, h2, h3, h4, h5, h6, h7, h8, h9, h10, h11, h12⟩ := id h
  have hir : ib (nI r) 2242 := ib_n hr (by decide)
  have er : ix (nI r) = r := ix_n (by omega)
  obtain ⟨s, hs⟩ : ∃ s, s = sz r := ⟨_, rfl⟩
  rw [← hs]
  rw [← hs] at hsz
  have c144 : c.1 144 r = nI s := by
    rw [hs]
    exact h4 r hr
  by_cases e : s = 0
  · refine ⟨c, Y, ?_, ?_, sx_rfl⟩
    · unfold d_222
      rw [er, c144, e]
      exact eq_wp (wpt hir (wpj (wpt (by decide) rfl)))
    · have : upZ sz r 0 = sz := by
        funext q
        unfold upZ
        by_cases e2 : q = r
        · rw [if_pos e2, e2, ← hs, e]
        · rw [if_neg e2]
      rw [this, e]
      exact h
  have hs0 : 0 < s := by omega
  obtain ⟨la, hla⟩ : ∃ la, la = X r (s - 1) := ⟨_, rfl⟩
  have hla4 : la < 4096 := by
    have := h6 r (s - 1) hr (by omega)
    omega
  obtain ⟨c142, c143⟩ := h5 r hr (by omega)
  rw [← hs, ← hla] at c143
  have ela : ix (nI la) = la := ix_n (by omega)
  obtain ⟨d, hd⟩ : ∃ d, d = pI (pI (pI (pI c 138 la (c.1 133 12)) 133 12 (nI (X r 0))) 133 13 (nI (V - s))) 144 r 0 := ⟨_, rfl⟩
  have R : ∀ A l, ¬ (A = 138 ∧ l = la) → ¬ (A = 133 ∧ (l = 12 ∨ l = 13)) → ¬ (A = 144 ∧ l = r) → d.1 A l = c.1 A l := fun A l z1 z2 z3 => by rw [hd, rI, if_neg z3, rI, if_neg (by omega), rI, if_neg (by omega), rI, if_neg z1]
  have hprog : d_222 n (nI r) c = some d := by
    unfold d_222
    rw [er, c144, c143, ela]
    refine eq_wp (wpt hir (wpj (wpf (nI_ge (a := 0) (by omega) (by omega)) (wpt hir (wpt (ib_n hla4 (by decide)) (wpl (wpt hir ?_)))))))
    rw [show (pI c 138 la (c.1 133 12)).1 142 r = nI (X r 0) by rw [rI, if_neg (by omega)]; exact c142]
    refine wpl (wpt hir ?_)
    rw [show (pI (pI c 138 la (c.1 133 12)) 133 12 (nI (X r 0))).1 133 13 = nI V by rw [rI, if_neg (by omega), rI, if_neg (by omega)]; exact h3, show (pI (pI c 138 la (c.1 133 12)) 133 12 (nI (X r 0))).1 144 r = nI s by rw [rI, if_neg (by omega), rI, if_neg (by omega)]; exact c144, show nI V - nI s = nI (V - s) from pk_sub hsz]
    refine wpl (wpt hir (wpl ?_))
    rw [hd]
    rfl
  have last : ∀ q i, q < 2242 → i < sz q → X q i = la → q = r ∧ i = s - 1 := fun q i hq hi z => by
    rw [hla] at z
    exact h8 q i r (s - 1) hq hi hr (by omega) z
  have hup : ∀ q, 0 < upZ sz r 0 q → q ≠ r ∧ upZ sz r 0 q = sz q := fun q z => by
    unfold upZ at z ⊢
    by_cases e2 : q = r
    · rw [if_pos e2] at z
      omega
    · rw [if_neg e2]
      exact ⟨e2, rfl⟩
  refine ⟨d, fun k => if k < s then X r k else Y (k - s), hprog, ⟨by omega, ?_, ?_, fun q hq => ?_, fun q hq hq0 => ?_, fun q i hq hi => ?_, fun q i hq hi => ?_, fun q i q' i' hq hi hq' hi' he => ?_, ?_, fun k hk => ?_, fun k k' hk hk' he => ?_, fun k q i hk hq hi => ?_⟩, ?_⟩
  · rw [R _ _ (by omega) (by omega) (by omega), h2]
    exact congrArg nI (by omega)
  · rw [hd, rI, if_neg (by omega), rI, if_pos ⟨rfl, rfl⟩]
  · unfold upZ
    by_cases e2 : q = r
    · rw [if_pos e2, e2, hd, rI, if_pos ⟨rfl, rfl⟩]
      rfl
    · rw [if_neg e2, R _ _ (by omega) (by omega) (by omega)]
      exact h4 q hq
  · obtain ⟨z1, z2⟩ := hup q hq0
    rw [z2] at hq0 ⊢
    rw [R _ _ (by omega) (by omega) (by omega), R _ _ (by omega) (by omega) (by omega)]
    exact h5 q hq hq0
  · obtain ⟨z1, z2⟩ := hup q (by omega)
    rw [z2] at hi
    have := h6 q i hq hi
    omega
  · obtain ⟨z1, z2⟩ := hup q (by omega)
    rw [z2] at hi
    rw [R _ _ (fun y => z1 (last q i hq (by omega) y.2).1) (by omega) (by omega)]
    exact h7 q i hq hi
  · obtain ⟨z1, z2⟩ := hup q (by omega)
    obtain ⟨z3, z4⟩ := hup q' (by omega)
    rw [z2] at hi
    rw [z4] at hi'
    exact h8 q i q' i' hq hi hq' hi' he
  · rw [if_neg (by omega), hd, rI, if_neg (by omega), rI, if_neg (by omega), rI, if_pos ⟨rfl, rfl⟩]
    dsimp only
    rw [if_pos hs0]
  · dsimp only
    by_cases e2 : k < s
    · rw [if_pos e2]
      refine ⟨by have := h6 r k hr (by omega); omega, ?_⟩
      by_cases e3 : k + 1 < s
      · rw [if_pos e3, if_neg (by omega), R _ _ (fun y => by have := (last r k hr (by omega) y.2).2; omega) (by omega) (by omega)]
        exact h7 r k hr (by omega)
      · have ek : k = s - 1 := by omega
        rw [ek, ← hla, hd, rI, if_neg (by omega), rI, if_neg (by omega), rI, if_neg (by omega), rI, if_pos ⟨rfl, rfl⟩, h9]
        by_cases e4 : F = 0
        · rw [if_pos e4, if_pos (by omega)]
        · rw [if_neg e4, if_neg (by omega), if_neg (by omega)]
          exact congrArg (fun i => nI (Y i)) (by omega)
    · rw [if_neg e2, if_neg (show ¬ k + 1 < s by omega)]
      obtain ⟨y1, y2⟩ := h10 (k - s) (by omega)
      refine ⟨by omega, ?_⟩
      rw [R _ _ (fun y => h12 (k - s) r (s - 1) (by omega) hr (by omega) (by rw [y.2, hla])) (by omega) (by omega), y2]
      by_cases e4 : k - s + 1 = F
      · rw [if_pos e4, if_pos (by omega)]
      · rw [if_neg e4, if_neg (by omega)]
        exact congrArg (fun i => nI (Y i)) (by omega)
  · dsimp only at he
    by_cases e2 : k < s
    · by_cases e3 : k' < s
      · rw [if_pos e2, if_pos e3] at he
        exact (h8 r k r k' hr (by omega) hr (by omega) he).2
      · rw [if_pos e2, if_neg e3] at he
        exact absurd he.symm (h12 (k' - s) r k (by omega) hr (by omega))
    · by_cases e3 : k' < s
      · rw [if_neg e2, if_pos e3] at he
        exact absurd he (h12 (k - s) r k' (by omega) hr (by omega))
      · rw [if_neg e2, if_neg e3] at he
        have := h11 (k - s) (k' - s) (by omega) (by omega) he
        omega
  · obtain ⟨z1, z2⟩ := hup q (by omega)
    rw [z2] at hi
    dsimp only
    by_cases e2 : k < s
    · rw [if_pos e2]
      exact fun z => z1 (h8 r k q i hr (by omega) hq hi z).1.symm
    · rw [if_neg e2]
      exact h12 (k - s) q i (by omega) hq hi
  · rw [hd]
    exact sx_pI (sx_pI (sx_pI (sx_pI sx_rfl (decide_eq_true (by omega))) (decide_eq_true (by omega))) (decide_eq_true (by omega))) (decide_eq_true (by omega))
end CLRS
