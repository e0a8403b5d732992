/-! WIRING: one part is made, in lockstep -/
section MAK
variable {n t p s k x y a3 f : Nat} {c w w1 m u v v1 v2 v3 : cS} {S S1 : Nat → Nat}
theorem cnt_cg {p q : Nat → Bool} : ∀ N, (∀ i, i < N → p i = q i) → cntN p N = cntN q N
  | 0, _ => rfl
  | N + 1, h => by
    rw [cntN_s, cntN_s, cnt_cg N (fun i hi => h i (by omega)), h N (by omega)]
theorem cnt_set {p q : Nat → Bool} {x : Nat} (h1 : p x = false) (h2 : q x = true) (h3 : ∀ i, i ≠ x → p i = q i) : ∀ N, cntN q N = cntN p N + (if x < N then 1 else 0)
  | 0 => by rw [if_neg (by omega)]; rfl
  | N + 1 => by
    rw [cntN_s, cntN_s, cnt_set h1 h2 h3 N]
    by_cases e : N = x
    · subst e
      rw [h1, h2, if_pos rfl, if_neg (by omega), if_neg (by decide), if_pos (by omega)]
    · rw [h3 N e]
      by_cases e2 : x < N
      · rw [if_pos e2, if_pos (show x < N + 1 by omega)]
        omega
      · rw [if_neg e2, if_neg (show ¬ x < N + 1 by omega)]
        omega
theorem cnt_im {p q : Nat → Bool} (h : ∀ i, p i = true → q i = true) : ∀ N, cntN p N ≤ cntN q N
  | 0 => Nat.le_refl _
  | N + 1 => by
    have := cnt_im h N
    rw [cntN_s, cntN_s]
    by_cases e : p N = true
    · rw [if_pos e, if_pos (h N e)]
      omega
    · rw [if_neg e]
      omega
/-- how many are not begun -/
def c0n (m : cS) (S : Nat → Nat) : Nat := cntN (fun i => decide (S i = 0)) (ccn m)
def sU (S : Nat → Nat) (x a : Nat) : Nat → Nat := fun i => if i = x then a else S i
theorem sU_x {a : Nat} : sU S x a x = a := if_pos rfl
theorem sU_n {a i : Nat} (h : i ≠ x) : sU S x a i = S i := if_neg h
theorem c0n_1 (hx : x < ccn m) (h : S x = 0) : c0n m S = c0n m (sU S x 1) + 1 := by
  unfold c0n
  rw [cnt_set (p := fun i => decide (sU S x 1 i = 0)) (q := fun i => decide (S i = 0)) (x := x) (by rw [sU_x]; rfl) (by rw [h]; rfl) (fun i hi => by rw [sU_n hi]), if_pos hx]
theorem c0n_le (h : XS S S1 (nI 0)) : c0n m S1 ≤ c0n m S := cnt_im (fun i z => by
  have z := of_decide_eq_true z
  refine decide_eq_true (Classical.byContradiction fun e => ?_)
  rw [h.1 i e] at z
  exact e z) _
theorem WR_1 (hx : x < ccn m) (h : WR m w v S k) (h0 : S x = 0) : WR m (pI w 170 x (nI 1)) (pI v 263 x (nI 1)) (sU S x 1) k := by
  obtain ⟨a1, a2, a3, a4, a5, a6, a7⟩ := h
  have W : ∀ A i, A ≠ 170 → (pI w 170 x (nI 1)).1 A i = w.1 A i := fun A i z => by rw [rI, if_neg (by omega)]
  have V : ∀ A i, A ≠ 263 → (pI v 263 x (nI 1)).1 A i = v.1 A i := fun A i z => by rw [rI, if_neg (by omega)]
  refine ⟨fun i hi => ?_, by rw [W _ _ (by omega)]; exact a2, by rw [V _ _ (by omega)]; exact a3, a4.trans (cnt_cg _ (fun i hi => ?_)), fun i hi => by rw [W _ _ (by omega), V _ _ (by omega)]; exact a5 i hi, by rw [W _ _ (by omega), V _ _ (by omega)]; exact a6, by rw [W _ _ (by omega), V _ _ (by omega)]; exact a7⟩
  · obtain ⟨b1, b2, b3, b4, b5, b6, b7, b8⟩ := a1 i hi
    by_cases e : i = x
    · subst e
      refine ⟨by rw [sU_x]; omega, by rw [W _ _ (by omega)]; exact b2, b3, by rw [rI, if_pos ⟨rfl, rfl⟩, sU_x], by rw [V _ _ (by omega)]; exact b5, b6, by rw [rI, if_pos ⟨rfl, rfl⟩, sU_x, if_pos rfl], ?_⟩
      rw [V _ _ (by omega), b8, sU_x, h0]
      rfl
    · refine ⟨by rw [sU_n e]; exact b1, by rw [W _ _ (by omega)]; exact b2, b3, by rw [rI, if_neg (fun z => e z.2), sU_n e]; exact b4, by rw [V _ _ (by omega)]; exact b5, b6, by rw [rI, if_neg (fun z => e z.2), sU_n e]; exact b7, by rw [V _ _ (by omega), sU_n e]; exact b8⟩
  · by_cases e : i = x
    · subst e
      rw [sU_x, h0]
      rfl
    · rw [sU_n e]
theorem WR_k (hC : CCS c m) (hx : x < ccn m) (h : WR m w v S k) (h0 : S x ≠ 2) : k < 12 := by
  have h12 := (CCS_p hC).1
  have := cnt_set (p := fun i => decide (S i = 2)) (q := fun i => decide (sU S x 2 i = 2)) (x := x) (decide_eq_false h0) (by rw [sU_x]; rfl) (fun i hi => by rw [sU_n hi]) (ccn m)
  rw [if_pos hx, ← h.2.2.2.1] at this
  have := cntN_le (p := fun i => decide (sU S x 2 i = 2)) (ccn m)
  omega
theorem WR_2 (hC : CCS c m) (hx : x < ccn m) (h : WR m w v S k) (h0 : S x = 1) : WR m (pI (pI (pI w 170 x (nI 2)) 167 7 (nI (k + 1))) 171 k (nI x)) (pI (pI (pI (pI v 263 x (nI 0)) 262 x (nI 1)) 261 k (nI x)) 174 134 (nI (k + 1))) (sU S x 2) (k + 1) := by
  have hk := WR_k hC hx h (by omega)
  obtain ⟨a1, a2, a3, a4, a5, a6, a7⟩ := h
  have W : ∀ A i, A ≠ 170 → A ≠ 171 → (A = 167 → i ≠ 7) → (pI (pI (pI w 170 x (nI 2)) 167 7 (nI (k + 1))) 171 k (nI x)).1 A i = w.1 A i := fun A i z z2 z3 => by rw [rI, if_neg (by omega), rI, if_neg (fun q => z3 q.1 q.2), rI, if_neg (by omega)]
  have V : ∀ A i, A ≠ 263 → A ≠ 262 → A ≠ 261 → (A = 174 → i ≠ 134) → (pI (pI (pI (pI v 263 x (nI 0)) 262 x (nI 1)) 261 k (nI x)) 174 134 (nI (k + 1))).1 A i = v.1 A i := fun A i z z2 z3 z4 => by rw [rI, if_neg (fun q => z4 q.1 q.2), rI, if_neg (by omega), rI, if_neg (by omega), rI, if_neg (by omega)]
  have W170 : ∀ i, (pI (pI (pI w 170 x (nI 2)) 167 7 (nI (k + 1))) 171 k (nI x)).1 170 i = if i = x then nI 2 else w.1 170 i := fun i => by
    rw [rI, if_neg (by omega), rI, if_neg (by omega), rI]
    by_cases e : i = x
    · rw [if_pos ⟨rfl, e⟩, if_pos e]
    · rw [if_neg (fun q => e q.2), if_neg e]
  have V263 : ∀ i, (pI (pI (pI (pI v 263 x (nI 0)) 262 x (nI 1)) 261 k (nI x)) 174 134 (nI (k + 1))).1 263 i = if i = x then nI 0 else v.1 263 i := fun i => by
    rw [rI, if_neg (by omega), rI, if_neg (by omega), rI, if_neg (by omega), rI]
    by_cases e : i = x
    · rw [if_pos ⟨rfl, e⟩, if_pos e]
    · rw [if_neg (fun q => e q.2), if_neg e]
  have V262 : ∀ i, (pI (pI (pI (pI v 263 x (nI 0)) 262 x (nI 1)) 261 k (nI x)) 174 134 (nI (k + 1))).1 262 i = if i = x then nI 1 else v.1 262 i := fun i => by
    rw [rI, if_neg (by omega), rI, if_neg (by omega), rI]
    by_cases e : i = x
    · rw [if_pos ⟨rfl, e⟩, if_pos e]
    · rw [if_neg (fun q => e q.2), if_neg e, rI, if_neg (by omega)]
  refine ⟨fun i hi => ?_, ?_, ?_, ?_, fun i hi => ?_, by rw [W _ _ (by omega) (by omega) (by omega), V _ _ (by omega) (by omega) (by omega) (by omega)]; exact a6, by rw [W _ _ (by omega) (by omega) (by omega), V _ _ (by omega) (by omega) (by omega) (by omega)]; exact a7⟩
  · obtain ⟨b1, b2, b3, b4, b5, b6, b7, b8⟩ := a1 i hi
    rw [W _ _ (by omega) (by omega) (by omega), V 264 i (by omega) (by omega) (by omega) (by omega), W170, V263, V262]
    by_cases e : i = x
    · subst e
      rw [sU_x, if_pos rfl, if_pos rfl, if_pos rfl]
      exact ⟨by omega, b2, b3, rfl, b5, b6, rfl, rfl⟩
    · rw [sU_n e, if_neg e, if_neg e, if_neg e]
      exact ⟨b1, b2, b3, b4, b5, b6, b7, b8⟩
  · rw [rI, if_neg (by omega), rI, if_pos ⟨rfl, rfl⟩]
  · rw [rI, if_pos ⟨rfl, rfl⟩]
  · rw [cnt_set (p := fun i => decide (S i = 2)) (q := fun i => decide (sU S x 2 i = 2)) (x := x) (decide_eq_false (by omega)) (by rw [sU_x]; rfl) (fun i hi => by rw [sU_n hi]), if_pos hx, ← a4]
  · rw [rI (a := 171), rI (a := 174), if_neg (by omega : ¬ ((261 : Nat) = 174 ∧ i = 134)), rI (a := 261)]
    by_cases e : i = k
    · rw [if_pos ⟨rfl, e⟩, if_pos ⟨rfl, e⟩]
    · rw [if_neg (fun q => e q.2), if_neg (fun q => e q.2), rI, if_neg (by omega), rI, if_neg (by omega), rI, if_neg (by omega), rI, if_neg (by omega)]
      exact a5 i (by omega)
/-- the reference's run up to the CLASS s above x -/
def rfp (E n : Nat) (m : cS) (x s : Nat) (v : cS) : Option cS := match anc m x s with
  | some y => d_479 (E - s) n (nI x) (nI y) v
  | none => some v
theorem rfp_n {E : Nat} (h : anc m x s = none) : rfp E n m x s v = some v := by
  unfold rfp
  rw [h]
theorem rfp_y {E : Nat} (h : anc m x s = some y) : rfp E n m x s v = d_479 (E - s) n (nI x) (nI y) v := by
  unfold rfp
  rw [h]
theorem d479_s {e : Nat} {a1 a2 : Int32} : d_479 (e + 1) n a1 a2 c = if ib a2 12 then
      jn (fun p2 : cS => Option.bind (d_373 n 2002873972 p2) (fun v3 => Option.bind (ndR (d_479 e n) n a1 a2 v3 p2) (fun x17 : cS => some x17)))
      (fun j20 => if (c.1 201 (ix a2)) < 0 then j20 c else if ib a2 12 then Option.bind (d_479 e n a1 (c.1 201 (ix a2)) c) (fun r19 => j20 r19) else none)
      else none := rfl
theorem rfp_st {E : Nat} (hn : 1000 ≤ n) (hA : AG m v) (hA2 : AG m v2) (hE : EC c m) (hx : x < ccn m) (hy : anc m x s = some y) (hs : s < E) (h1 : rfp E n m x (s + 1) v = some v2) (h2 : ndR (d_479 (E - (s + 1)) n) n (nI x) (nI y) (oI (kOf m 2002873972)) v2 = some v3) : rfp E n m x s v = some v3 := by
  obtain ⟨k1, k2, k3, -⟩ := id hE.2.1
  obtain ⟨h12, hp⟩ := CCS_p hE.2.2.1
  have hyl := anc_lt h12 hp hx hy
  have h201 : v.1 201 (ix (nI y)) = oI (par m y) := by
    rw [ix_n (by omega), hA.1 201 y rfl]
    exact par_oI h12 hp (by omega)
  rw [rfp_y hy, show E - s = (E - (s + 1)) + 1 by omega, d479_s]
  have ha : anc m x (s + 1) = par m y := by
    rw [anc_par, hy]
    rfl
  refine eq_wp (wpt (by simp (disch := first | omega | decide) only [↓neg1, nlit, rI, rL, rI2, rL1, nI_add, pk_mul, sbT, dvT, nmd, ixT, ↓ibT, ltT, ltF, leT, leF, eqT, eqF, nM_ltT, nM_ltF, nM_leT, nM_leF, nM_eqF, nM_eqF', nbT0, nbT1, oI_s, oI_n, natF, natT, nltT, nltF, nleT, nleF, ↓reduceIte, lgc, not_true_eq_false, not_false_eq_true, or_false, false_or, or_true, true_or, and_true, true_and, and_false, false_and, ne_eq, eq_self, or_self, and_self]) (wpj ?_))
  cases hp' : par m y with
  | none =>
    rw [hp'] at h201 ha
    rw [rfp_n ha] at h1
    cases h1
    exact wpt (by rw [h201]; decide) (wpe (e373 (by omega) hA2 k1 k3) (wpe h2 rfl))
  | some z =>
    rw [hp'] at h201 ha
    have hzl := anc_lt h12 hp hx ha
    rw [rfp_y ha] at h1
    rw [oI_s] at h201
    refine wpf (by rw [h201]; simp (disch := first | omega | decide) only [↓neg1, nlit, rI, rL, rI2, rL1, nI_add, pk_mul, sbT, dvT, nmd, ixT, ↓ibT, ltT, ltF, leT, leF, eqT, eqF, nM_ltT, nM_ltF, nM_leT, nM_leF, nM_eqF, nM_eqF', nbT0, nbT1, oI_s, oI_n, natF, natT, nltT, nltF, nleT, nleF, ↓reduceIte, lgc, not_true_eq_false, not_false_eq_true, or_false, false_or, or_true, true_or, and_true, true_and, and_false, false_and, ne_eq, eq_self, or_self, and_self]) (wpt (by simp (disch := first | omega | decide) only [↓neg1, nlit, rI, rL, rI2, rL1, nI_add, pk_mul, sbT, dvT, nmd, ixT, ↓ibT, ltT, ltF, leT, leF, eqT, eqF, nM_ltT, nM_ltF, nM_leT, nM_leF, nM_eqF, nM_eqF', nbT0, nbT1, oI_s, oI_n, natF, natT, nltT, nltF, nleT, nleF, ↓reduceIte, lgc, not_true_eq_false, not_false_eq_true, or_false, false_or, or_true, true_or, and_true, true_and, and_false, false_and, ne_eq, eq_self, or_self, and_self]) ?_)
    rw [h201]
    exact wpe h1 (wpe (e373 (by omega) hA2 k1 k3) (wpe h2 rfl))
theorem ndR_x {rec : Int32 → Int32 → cS → Option (cS)} {a1 v3 : Int32} (hn : 1000 ≤ n) (hA : AG m v) (hC : CCS c m) (hy : y < ccn m) (h : v3 < 0 ∨ v.1 174 131 ≠ nI 0) : ndR rec n a1 (nI y) v3 v = some v := by
  unfold ndR
  rw [show n = (n - 1) + 1 by omega]
  exact whl_out (ndB_x hA hC hy (h.elim Or.inl (fun z => Or.inr (Or.inl z))))
/-- nothing more happens further down -/
theorem rfp_dn {E : Nat} (hn : 1000 ≤ n) (hA : AG m v) (hA2 : AG m v2) (hE : EC c m) (hx : x < ccn m) (hw : oI (kOf m 2002873972) < 0 ∨ v2.1 174 131 ≠ nI 0) : ∀ j, j < E → rfp E n m x j v = some v2 → rfp E n m x 0 v = some v2
  | 0, _, h => h
  | j + 1, hj, h => by
    refine rfp_dn hn hA hA2 hE hx hw j (by omega) ?_
    cases hy : anc m x j with
    | none =>
      rw [rfp_n (anc_none hy 1)] at h
      rw [rfp_n hy]
      exact h
    | some y =>
      obtain ⟨h12, hp⟩ := CCS_p hE.2.2.1
      have hyl := anc_lt h12 hp hx hy
      exact rfp_st hn hA hA2 hE hx hy (by omega) h (ndR_x hn hA2 hE.2.2.1 (by omega) hw)
theorem dec12 : ∀ j, j < 13 → (if j = 13 then nM else nI (12 - j)) + (-1) = (if j + 1 = 13 then nM else nI (12 - (j + 1))) := by decide
def mkC (rec : Int32 → Int32 → Int32 → cS → Option (Int32 × cS)) (n : Nat) (a1 a2 a3 : Int32) (c2 : cS) : Option (cS ⊕ (Int32 × cS)) :=
  whl (R := (cS) ⊕ (Int32 × cS)) (fun s5 : Int32 × cS =>
    if s5.1 < 0 then
      some (.inr (.inl s5.2))
    else
      if a2 < 0 then
        some (.inr (.inl s5.2))
      else
        Option.bind (d_255 n a1 s5.1 s5.2) (fun v6 =>
        Option.bind (ndC rec n a1 a2 a3 v6 s5.2)
        (Sum.elim (fun x16 : cS =>
          lt (s5.1 + (-1) : Int32) (fun v18 =>
          some (.inl (v18, x16))))
        (fun x20 : Int32 × cS =>
          some (.inr (.inr (x20.1, x20.2))))))) n (12, c2)
theorem d347_s {e : Nat} {a1 a2 a4 : Int32} : d_347 (e + 1) n a1 a2 a4 c =   if ib a1 12 then
  lt (pI c 170 (ix a1) 1) (fun c2 =>
  Option.bind (mkC (d_347 e n) n a1 a2 a4 c2)
  (Sum.elim (fun x21 : cS =>
    if ib a1 12 then
    lt (pI x21 170 (ix a1) 2) (fun c23 =>
    lt (pI c23 167 7 ((c23.1 167 7) + 1)) (fun c25 =>
    if ib (c23.1 167 7) 12 then
    lt (pI c25 171 (ix (c23.1 167 7)) a1) (fun c28 =>
    some (0, c28))
    else none))
    else none)
  (fun x30 : Int32 × cS =>
    some (x30.1, x30.2))))
  else none := rfl
theorem ndC_n {rec : Int32 → Int32 → Int32 → cS → Option (Int32 × cS)} {a1 a2 a4 : Int32} (hn : 1000 ≤ n) : ndC rec n a1 a2 a4 nM w = some (.inl w) := by
  unfold ndC
  rw [show n = (n - 1) + 1 by omega]
  refine whl_out (eq_wp ?_)
  exact wpt (by decide) rfl
end MAK
