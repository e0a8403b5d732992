/-! READING a VALUE -/
section VAL
variable {n i N : Nat} {c d u w : cS} {K P : Nat → Nat} {V : Nat → Int64} {t : Bool}
theorem iv_num {x : Nat} : iv (nI x).toInt64 := by
  unfold iv
  rw [Int32.toInt32_toInt64]
theorem iv_neg {x : Nat} (hx : x < 1000000000) : iv (-(nI x).toInt64) := by
  have h : -(nI x).toInt64 = (-(nI x)).toInt64 := by
    apply Int64.toInt_inj.mp
    rw [Int32.toInt_toInt64, Int64.toInt_neg, Int32.toInt_neg, Int32.toInt_toInt64, nI_toInt (by omega)]
    rw [Int.bmod_eq_of_le (by omega) (by omega), Int.bmod_eq_of_le (by omega) (by omega)]
  rw [h]
  unfold iv
  rw [Int32.toInt32_toInt64]
def q678 (A j : Nat) : Bool := decide (A = 174 ∧ (j = 67 ∨ j = 68))
def VLP (K P : Nat → Nat) (V : Nat → Int64) (N : Nat) (c u : cS) (i : Nat) (t : Bool) (r : (Int64 × cS) ⊕ cS) (q : cS) : Prop := (∃ v j d, r = .inl (v, d) ∧ i < j ∧ PSI K P V N d q j ∧ q.2 174 68 = v ∧ (t = false → iv v) ∧ sx q145 c d ∧ sx q678 u q) ∨ (∃ z, r = .inr z ∧ FLR c u z q)
/-- what the reference does where a VALUE begins -/
theorem e382_go {x : Int32} {Q : cS → Prop} (h : PSI K P V N c u i) (hx : x = bI t)
  (k1 : ¬ (K i = 3 ∨ K i = 2 ∨ K i = 45) → Q (flt u 2 (nI (P i)))) (k2 : (K i = 3 ∨ K i = 2 ∨ K i = 45) → decide (K i = 3) ≠ t → Q (flt u 7 (nI (P i))))
  (k3 : decide (K i = 3) = t → (K i = 3 ∨ K i = 2) → Q (pI (pL u 174 68 (V i)) 174 67 (nI (i + 1)))) (k4 : t = false → K i = 45 → ¬ K (i + 1) = 2 → Q (flt (atR u (i + 1)) 2 (nI (P (i + 1))))) (k5 : t = false → K i = 45 → K (i + 1) = 2 → Q (pI (pL (atR u (i + 1)) 174 68 (-(V (i + 1)))) 174 67 (nI (i + 1 + 1)))) : wp (d_382 n x 1 u) Q := by
  have hk := PSI_K h
  have hib : ib (nI i) 4001 := ib_n (by omega) (by decide)
  have h178 : (u.1 178 i = 2 ↔ K i = 3) ∧ (u.1 178 i = 1 ↔ K i = 2) ∧ (K i = 3 ∨ K i = 2 → u.2 180 i = V i) := by
    have ht := (h.1.2.2.1 i h.2.1).2.2.2.2
    unfold TKO at ht
    rcases ht with ⟨t1, -, t2⟩ | ⟨t1, t2, -⟩ | ⟨t1, t2, -, t4, -⟩ | ⟨t1, t2, -, t4⟩ | ⟨t1, t3, t2, -⟩ | ⟨t1, t3, t2, -⟩
    · rw [t2]; exact ⟨⟨fun z => absurd z (by decide), fun z => by omega⟩, ⟨fun z => absurd z (by decide), fun z => by omega⟩, fun z => by omega⟩
    · rw [t2]; exact ⟨⟨fun z => absurd z (by decide), fun z => by omega⟩, ⟨fun z => absurd z (by decide), fun z => by omega⟩, fun z => by omega⟩
    · rw [t2]; exact ⟨⟨fun z => absurd z (by decide), fun z => by omega⟩, ⟨fun _ => t1, fun _ => rfl⟩, fun _ => t4⟩
    · rw [t2]; exact ⟨⟨fun _ => t1, fun _ => rfl⟩, ⟨fun z => absurd z (by decide), fun z => by omega⟩, fun _ => t4⟩
    · rw [t2]; exact ⟨⟨fun z => absurd z (by decide), fun z => by omega⟩, ⟨fun z => absurd z (by decide), fun z => by omega⟩, fun z => by omega⟩
    · rw [t2]; exact ⟨⟨fun z => absurd z (by decide), fun z => by omega⟩, ⟨fun z => absurd z (by decide), fun z => by omega⟩, fun z => by omega⟩
  obtain ⟨g1, g2, g3⟩ := h178
  unfold d_382
  refine wpt h.2.2.2.2 ?_
  rw [h.2.2.2.1]
  refine wpl (wpt hib (wpjQ (fun p : Int32 => p = bI (decide (K i = 3))) ?_ ?_))
  rotate_left
  · intro Q' k' hk'
    rw [ix_n (by omega)]
    by_cases e : K i = 3
    · exact wpt (g1.mpr e) (hk' 1 (by rw [decide_eq_true e]; rfl))
    · exact wpf (fun z => e (g1.mp z)) (hk' 0 (by rw [decide_eq_false e]; rfl))
  rintro p rfl
  refine wpt hib (wpjQ (fun p : Int32 => p = bI (decide (K i = 2 ∨ K i = 45))) ?_ ?_)
  rotate_left
  · intro Q' k' hk'
    rw [ix_n (by omega)]
    have h101 := e101 (n := n) (b := 45) h (by decide) (by decide)
    refine wpj ?_
    by_cases e : K i = 2
    · exact wpt (g2.mpr e) (hk' 1 (by rw [decide_eq_true (Or.inl e)]; rfl))
    · refine wpf (fun z => e (g2.mp z)) (wpe h101 ?_)
      by_cases e2 : K i = 45
      · rw [if_pos e2]
        exact wpf (by decide) (hk' 1 (by rw [decide_eq_true (Or.inr e2)]; rfl))
      · rw [if_neg e2]
        exact wpt rfl (hk' 0 (by rw [decide_eq_false (by omega)]; rfl))
  rintro p rfl
  refine wpj (wpj ?_)
  -- behind the first looks
  have hrest : (K i = 3 ∨ K i = 2 ∨ K i = 45) → ∀ {X : Option cS}, (decide (K i = 3) = t → wp X Q) → wp (if (1 : Int32) = 0 then X else if bI (decide (K i = 3)) = x then X else if ib (nI i) 4001 then Option.bind (d_97 n 7 (u.1 179 (ix (nI i))) u) (fun r28 => some r28) else none) Q := fun hK {X} hX => by
    refine wpf (by decide) ?_
    subst hx
    by_cases e : decide (K i = 3) = t
    · exact wpt (by rw [e]) (hX e)
    · refine wpf (fun z => e ?_) (wpt hib ?_)
      · cases h1 : decide (K i = 3) <;> cases h2 : t <;> rw [h1, h2] at z <;> first | rfl | exact absurd z (by decide)
      · rw [ix_n (by omega), (h.1.2.2.1 i h.2.1).2.2.1]
        exact wpe (e97 h.2.2.2.2) (k2 hK e)
  have hval : ∀ {r : Int32 × cS} {v : Int64} {j : Nat}, r.2.1 174 67 = nI j → j ≤ 4000 → r.2.2 180 j = v → (r.1 = 0 → Q (pI (pL r.2 174 68 v) 174 67 (nI (j + 1)))) → (¬ r.1 = 0 → Q (pI (pL r.2 174 68 (-v)) 174 67 (nI (j + 1)))) → wp (jn (fun p18 : Int64 =>
                  lt (pL r.2 174 68 p18) (fun c19 =>
                  lt (pI c19 174 67 ((c19.1 174 67) + 1)) (fun c21 =>
                  some c21)))
                (fun j168 =>
                if r.1 = 0 then
                  if ib (r.2.1 174 67) 4001 then
                  j168 (r.2.2 180 (ix (r.2.1 174 67)))
                  else none
                else
                  if ib (r.2.1 174 67) 4001 then
                  j168 (-(r.2.2 180 (ix (r.2.1 174 67))))
                  else none)) Q := fun {r v j} y1 y2 y3 y4 y5 => by
    have hj : ib (nI j) 4001 := ib_n (by omega) (by decide)
    refine wpj ?_
    rw [y1, ix_n (by omega), y3]
    have y6 : ∀ z : Int64, (pL r.2 174 68 z).1 174 67 = nI j := fun z => y1
    by_cases e : r.1 = 0
    · refine wpt e (wpt hj (wpl ?_))
      rw [y6, nI_1]
      exact wpl (y4 e)
    · refine wpf e (wpt hj (wpl ?_))
      rw [y6, nI_1]
      exact wpl (y5 e)
  have h379 := e379 (n := n) (b := 45) h (by decide) (by decide)
  -- the VALUE itself
  have hmain : decide (K i = 3) = t → (K i = 3 ∨ K i = 2 ∨ K i = 45) → wp (Option.bind (d_379 n 45 u) (fun r15 =>
              jn (fun p17 : Unit =>
                jn (fun p18 : Int64 =>
                  lt (pL r15.2 174 68 p18) (fun c19 =>
                  lt (pI c19 174 67 ((c19.1 174 67) + 1)) (fun c21 =>
                  some c21)))
                (fun j168 =>
                if r15.1 = 0 then
                  if ib (r15.2.1 174 67) 4001 then
                  j168 (r15.2.2 180 (ix (r15.2.1 174 67)))
                  else none
                else
                  if ib (r15.2.1 174 67) 4001 then
                  j168 (-(r15.2.2 180 (ix (r15.2.1 174 67))))
                  else none))
              (fun j140 =>
              if x = 0 then
                if ib (r15.2.1 174 67) 4001 then
                if (r15.2.1 178 (ix (r15.2.1 174 67))) = 1 then
                  j140 ()
                else
                  Option.bind (d_103 n r15.2) (fun r26 =>
                  some r26)
                else none
              else
                j140 ()))) Q := fun hT hK => by
    subst hx
    by_cases e45 : K i = 45
    · rw [if_pos e45] at h379
      have ht : t = false := by rw [← hT]; exact decide_eq_false (by omega)
      have hp := PSI_s h (by omega)
      have hkp := PSI_K hp
      have h3p := (hp.1.2.2.1 (i + 1) hp.2.1).2.2.2.2
      refine wpe h379 (wpj (wpt (by rw [ht]; rfl) ?_))
      dsimp only
      rw [hp.2.2.2.1]
      refine wpt (ib_n (by omega) (by decide)) ?_
      rw [ix_n (by omega)]
      by_cases e2 : K (i + 1) = 2
      · have h1v : (atR u (i + 1)).1 178 (i + 1) = 1 ∧ (atR u (i + 1)).2 180 (i + 1) = V (i + 1) := by
          unfold TKO at h3p
          rcases h3p with b | b | b | b | b | b
          · omega
          · omega
          · exact ⟨b.2.1, b.2.2.2.1⟩
          · omega
          · omega
          · omega
        refine wpt h1v.1 ?_
        have := hval (r := (1, atR u (i + 1))) (v := V (i + 1)) (j := i + 1) hp.2.2.2.1 (by omega) h1v.2 (fun z => absurd (show (1 : Int32) = 0 from z) (by decide)) (fun _ => k5 ht e45 e2)
        dsimp only at this
        rw [hp.2.2.2.1, ix_n (by omega)] at this
        exact this
      · refine wpf (fun z => e2 ?_) (wpe (e103 hp) (k4 ht e45 e2))
        unfold TKO at h3p
        rcases h3p with ⟨t1, -, t2⟩ | ⟨t1, t2, -⟩ | ⟨t1, t2, -⟩ | ⟨t1, t2, -⟩ | ⟨t1, t3, t2, -⟩ | ⟨t1, t3, t2, -⟩
        · rw [t2] at z; exact absurd z (by decide)
        · rw [t2] at z; exact absurd z (by decide)
        · exact t1
        · rw [t2] at z; exact absurd z (by decide)
        · rw [t2] at z; exact absurd z (by decide)
        · rw [t2] at z; exact absurd z (by decide)
    · rw [if_neg e45] at h379
      have hv := hval (r := (0, u)) (v := V i) (j := i) h.2.2.2.1 (by omega) (g3 (by omega)) (fun _ => k3 hT (by omega)) (fun z => absurd rfl z)
      refine wpe h379 (wpj ?_)
      by_cases e : K i = 3
      · have ht : t = true := by rw [← hT]; exact decide_eq_true e
        exact wpf (by rw [ht]; decide) hv
      · have ht : t = false := by rw [← hT]; exact decide_eq_false e
        refine wpt (by rw [ht]; rfl) ?_
        dsimp only at hv ⊢
        rw [h.2.2.2.1, ix_n (by omega)] at hv ⊢
        exact wpt hib (wpt (g2.mpr (by omega)) hv)
  by_cases e3 : K i = 3
  · refine wpf (by rw [decide_eq_true e3]; decide) (wpj ?_)
    refine wpf (by decide) (wpj ?_)
    exact hrest (Or.inl e3) (fun hT => hmain hT (Or.inl e3))
  · refine wpt (by rw [decide_eq_false e3]; rfl) ?_
    by_cases e2 : K i = 2 ∨ K i = 45
    · refine wpf (by rw [decide_eq_true e2]; decide) (wpj ?_)
      refine wpf (by decide) (wpj ?_)
      exact hrest (Or.inr e2) (fun hT => hmain hT (Or.inr e2))
    · exact wpt (by rw [decide_eq_false e2]; rfl) (wpe (e103 h) (k1 (by omega)))
/-- what the class does where a VALUE begins -/
theorem e278_go {x : Int32} {Q : (Int64 × cS) ⊕ cS → Prop} (h : PSI K P V N c u i) (hx : x = if t = true then nI 2 else nI 1)
  (k1 : ¬ (K i = 3 ∨ K i = 2 ∨ K i = 45) → Q (.inr (flC c 2 (nI (P i))))) (k2 : (K i = 3 ∨ K i = 2 ∨ K i = 45) → decide (K i = 3) ≠ t → Q (.inr (flC c 7 (nI (P i)))))
  (k3 : decide (K i = 3) = t → (K i = 3 ∨ K i = 2) → Q (.inl (V i, atC c (i + 1)))) (k4 : t = false → K i = 45 → ¬ K (i + 1) = 2 → Q (.inr (flC (atC c (i + 1)) 2 (nI (P (i + 1)))))) (k5 : t = false → K i = 45 → K (i + 1) = 2 → Q (.inl (-(V (i + 1)), atC (atC c (i + 1)) (i + 1 + 1)))) : wp (d_278 n x c) Q := by
  have hk := PSI_K h
  have h42 := e42 (n := n) h
  have h43 := e43 (n := n) h
  have h258 := e258 (n := n) (b := 45) h (by decide)
  have val : ∀ {y w : cS} {j : Nat}, PSI K P V N y w j → K j = 3 ∨ K j = 2 → y.2 5 j = V j := fun {y w j} hy z => by
    have ht := (hy.1.2.2.1 j hy.2.1).2.2.2.2
    unfold TKO at ht
    rcases ht with b | b | b | b | b | b
    · omega
    · omega
    · exact b.2.2.1
    · exact b.2.2.1
    · omega
    · omega
  have hend : ∀ {y w : cS} {j : Nat} {r : Int32}, PSI K P V N y w j → K j = 3 ∨ K j = 2 → (r = 0 → Q (.inl (V j, atC y (j + 1)))) → (¬ r = 0 → Q (.inl (-(V j), atC y (j + 1)))) → wp (if ib (y.1 145 7) 4001 then
            lt ((y.2 5 (ix (y.1 145 7))) : Int64) (fun v12 =>
            lt (pI y 145 7 ((y.1 145 7) + 1)) (fun c14 =>
            jn (fun p16 : Int64 =>
              some (.inl (p16, c14)))
            (fun j127 =>
            if r = 0 then
              j127 v12
            else
              j127 (-v12))))
            else none) Q := fun {y w j r} hy hK y1 y2 => by
    have hkj := PSI_K hy
    rw [hy.2.2.1, ix_n (by omega), val hy hK, nI_1]
    refine wpt (ib_n (by omega) (by decide)) (wpl (wpl (wpj ?_)))
    by_cases e : r = 0
    · exact wpt e (y1 e)
    · exact wpf e (y2 e)
  have hmain : decide (K i = 3) = t → (K i = 3 ∨ K i = 2 ∨ K i = 45) → wp (Option.bind (d_258 n 45 c) (fun r7 =>
          jn (fun p9 : cS =>
            if ib (p9.1 145 7) 4001 then
            lt ((p9.2 5 (ix (p9.1 145 7))) : Int64) (fun v12 =>
            lt (pI p9 145 7 ((p9.1 145 7) + 1)) (fun c14 =>
            jn (fun p16 : Int64 =>
              some (.inl (p16, c14)))
            (fun j127 =>
            if r7.1 = 0 then
              j127 v12
            else
              j127 (-v12))))
            else none)
          (fun j91 =>
          if r7.1 = 0 then
            j91 r7.2
          else
            Option.bind (d_43 n r7.2) (fun v17 =>
            if v17 = 2 then
              j91 r7.2
            else
              Option.bind (d_42 n r7.2) (fun v18 =>
              Option.bind (d_41 n 2 v18 r7.2) (Sum.elim (fun r19 =>
              j91 r19)
              (fun z20 => some (.inr z20)))))))) Q := fun hT hK => by
    by_cases e45 : K i = 45
    · rw [if_pos e45] at h258
      have ht : t = false := by rw [← hT]; exact decide_eq_false (by omega)
      have hp := PSI_s h (by omega)
      have hkp := PSI_K hp
      refine wpe h258 (wpj (wpf (show ¬ (1 : Int32) = 0 by decide) (wpe (e43 hp) ?_)))
      by_cases e2 : K (i + 1) = 2
      · exact wpt (by rw [e2]; rfl) (hend (r := 1) hp (Or.inr e2) (fun z => absurd z (by decide)) (fun _ => k5 ht e45 e2))
      · exact wpf (fun z => e2 ((nI_eq (by omega) (by decide)).mp (show _ = nI 2 from z))) (wpe (e42 hp) (wpe e41 (k4 ht e45 e2)))
    · rw [if_neg e45] at h258
      exact wpe h258 (wpj (wpt rfl (hend (r := 0) h (by omega) (fun _ => k3 hT (by omega)) (fun z => absurd rfl z))))
  unfold d_278
  refine wpe h43 (wpjP (fun y : cS => y = c ∧ (K i = 3 ∨ K i = 2 ∨ K i = 45)) ?_ ?_)
  rotate_left
  · intro k' hk'
    by_cases e3 : K i = 3
    · exact wpt (by rw [e3]; rfl) (hk' _ ⟨rfl, Or.inl e3⟩)
    refine wpf (fun z => e3 ((nI_eq (by omega) (by decide)).mp (show _ = nI 3 from z))) ?_
    by_cases e2 : K i = 2
    · exact wpt (by rw [e2]; rfl) (hk' _ ⟨rfl, Or.inr (Or.inl e2)⟩)
    refine wpf (fun z => e2 ((nI_eq (by omega) (by decide)).mp (show _ = nI 2 from z))) ?_
    by_cases e45 : K i = 45
    · exact wpt (by rw [e45]; rfl) (hk' _ ⟨rfl, Or.inr (Or.inr e45)⟩)
    exact wpf (fun z => e45 ((nI_eq (by omega) (by decide)).mp (show _ = nI 45 from z))) (wpe h42 (wpe e41 (k1 (by omega))))
  rintro y ⟨rfl, hK⟩
  refine wpjQ (fun p : Int32 => p = bI (decide (K i = 3))) ?_ ?_
  rotate_left
  · intro Q' k' hk'
    by_cases e : K i = 3
    · exact wpt (by rw [e]; rfl) (hk' 1 (by rw [decide_eq_true e]; rfl))
    · exact wpf (fun z => e ((nI_eq (by omega) (by decide)).mp (show _ = nI 3 from z))) (hk' 0 (by rw [decide_eq_false e]; rfl))
  rintro p rfl
  refine wpjQ (fun p : Int32 => p = bI t) ?_ ?_
  rotate_left
  · intro Q' k' hk'
    subst hx
    cases ht : t with
    | true => exact wpt rfl (hk' 1 (by rw [ht]; rfl))
    | false => exact wpf (by decide) (hk' 0 (by rw [ht]; rfl))
  rintro p rfl
  refine wpj ?_
  by_cases e : decide (K i = 3) = t
  · exact wpt (by rw [e]) (hmain e hK)
  · refine wpf (fun z => e ?_) (wpe h42 (wpe e41 (k2 hK e)))
    cases h1 : decide (K i = 3) <;> cases h2 : t <;> rw [h1, h2] at z <;> first | rfl | exact absurd z (by decide)
theorem val_go {x y : Int32} (h : PSI K P V N c u i) (hx : x = if t = true then nI 2 else nI 1) (hy : y = bI t) : jw (d_278 n x c) (d_382 n y 1 u) (VLP K P V N c u i t) := by
  have hk := PSI_K h
  have num : ∀ {w z : cS} {j : Nat}, PSI K P V N w z j → K j = 2 → ∃ x, x < 1000000000 ∧ V j = (nI x).toInt64 := fun {w z j} hw e => by
    have ht := (hw.1.2.2.1 j hw.2.1).2.2.2.2
    unfold TKO at ht
    rcases ht with b | b | b | b | b | b
    · omega
    · omega
    · exact b.2.2.2.2
    · omega
    · omega
    · omega
  have good : ∀ {c' u' : cS} {j : Nat} {v : Int64}, PSI K P V N c' u' j → K j ≠ 0 → sx q145 c c' → sx q678 u u' → i ≤ j → (t = false → iv v) → VLP K P V N c u i t (.inl (v, atC c' (j + 1))) (pI (pL u' 174 68 v) 174 67 (nI (j + 1))) := fun {c' u' j v} hP hK s1 s2 hij hv => by
    have hp := PSI_s hP hK
    refine Or.inl ⟨v, j + 1, _, rfl, by omega, ?_, ?_, hv, sx_pI s1 (by decide), sx_pI (sx_pL s2 (by decide)) (by decide)⟩
    · refine PSI_sx hp (r := fun _ _ => false) (q := fun A k => decide (A = 174 ∧ k = 68)) sx_rfl ⟨fun A k z => ?_, fun A k z => ?_⟩ (fun _ _ _ => rfl) (fun A k z => decide_eq_false (by omega))
      · rfl
      · show (pL u' 174 68 v).2 A k = u'.2 A k
        rw [rL, if_neg (of_decide_eq_false z)]
    · show (pL u' 174 68 v).2 174 68 = v
      rw [rL, if_pos ⟨rfl, rfl⟩]
  unfold jw
  refine e278_go h hx (fun z => ?_) (fun z1 z2 => ?_) (fun z1 z2 => ?_) (fun z1 z2 z3 => ?_) (fun z1 z2 z3 => ?_)
  · refine e382_go h hy (fun _ => Or.inr ⟨_, rfl, FLR_of sx_rfl sx_rfl⟩) (fun y1 _ => absurd y1 z) (fun _ y1 => absurd (y1.elim Or.inl (fun w => Or.inr (Or.inl w))) z) (fun _ y1 => absurd (Or.inr (Or.inr y1)) z) (fun _ y1 => absurd (Or.inr (Or.inr y1)) z)
  · refine e382_go h hy (fun y1 => absurd z1 y1) (fun _ _ => Or.inr ⟨_, rfl, FLR_of sx_rfl sx_rfl⟩) (fun y1 => absurd y1 z2) (fun y1 y2 => absurd (by rw [y1]; exact decide_eq_false (by omega)) z2) (fun y1 y2 => absurd (by rw [y1]; exact decide_eq_false (by omega)) z2)
  · refine e382_go h hy (fun y1 => absurd (z2.elim Or.inl (fun w => Or.inr (Or.inl w))) y1) (fun _ y1 => absurd z1 y1) (fun _ _ => good h (by omega) sx_rfl sx_rfl (Nat.le_refl _) (fun ht => ?_)) (fun _ y1 => by omega) (fun _ y1 => by omega)
    have e2 : K i = 2 := by
      rw [ht] at z1
      have := of_decide_eq_false z1
      omega
    obtain ⟨x, -, hx⟩ := num h e2
    rw [hx]
    exact iv_num
  · refine e382_go h hy (fun y1 => absurd (Or.inr (Or.inr z2)) y1) (fun _ y1 => absurd (by rw [z1]; exact decide_eq_false (by omega)) y1) (fun _ y1 => by omega) (fun _ _ _ => Or.inr ⟨_, rfl, FLR_of atC_sx atR_sx⟩) (fun _ _ y1 => absurd y1 z3)
  · refine e382_go h hy (fun y1 => absurd (Or.inr (Or.inr z2)) y1) (fun _ y1 => absurd (by rw [z1]; exact decide_eq_false (by omega)) y1) (fun _ y1 => by omega) (fun _ _ y1 => absurd z3 y1) (fun _ _ _ => good (PSI_s h (by omega)) (by omega) (sx_pI sx_rfl (by decide)) (sx_pI sx_rfl (by decide)) (by omega) (fun _ => ?_))
    obtain ⟨x, hx1, hx⟩ := num (PSI_s h (by omega)) z3
    rw [hx]
    exact iv_neg hx1
end VAL
