/-! READING: what stands next; the smallest steps of both -/
section PRM
variable {n i N : Nat} {c d u w : cS} {K P : Nat → Nat} {V : Nat → Int64}
def PSI (K P : Nat → Nat) (V : Nat → Int64) (N : Nat) (c u : cS) (i : Nat) : Prop := TKR c u K P V N ∧ i ≤ N ∧ c.1 145 7 = nI i ∧ u.1 174 67 = nI i ∧ u.1 174 13 = nI 0
def flC (c : cS) (k p : Int32) : cS := pI (pI c 145 4 k) 145 5 p
def atC (c : cS) (i : Nat) : cS := pI c 145 7 (nI i)
def atR (u : cS) (i : Nat) : cS := pI u 174 67 (nI i)
theorem pI_self {A j : Nat} {v : Int32} (h : c.1 A j = v) : pI c A j v = c := by
  refine Prod.ext (funext fun b => funext fun k => ?_) rfl
  show (pI c A j v).1 b k = _
  rw [rI]
  by_cases e : b = A ∧ k = j
  · rw [if_pos e, e.1, e.2, h]
  · rw [if_neg e]
theorem e41 {k p : Int32} : d_41 n k p c = some (.inr (flC c k p)) := rfl
theorem PSI_K (h : PSI K P V N c u i) : K i < 231 ∧ P i ≤ 4000 ∧ i ≤ 4000 := by
  obtain ⟨⟨a1, a2, a3, -⟩, h2, -⟩ := h
  obtain ⟨-, -, -, b4, b5⟩ := a3 i h2
  refine ⟨?_, b4, by omega⟩
  rcases b5 with b | b | b | b | b | b
  · omega
  · omega
  · omega
  · omega
  · omega
  · omega
theorem PSI_lt (h : PSI K P V N c u i) (hk : K i ≠ 0) : i < N := by
  obtain ⟨⟨-, a2, -⟩, h2, -⟩ := h
  by_cases e : i = N
  · rw [e] at hk
    exact absurd a2 hk
  · omega
def q145 (A j : Nat) : Bool := decide (A = 145 ∧ j = 7)
def q67 (A j : Nat) : Bool := decide (A = 174 ∧ j = 67)
theorem PSI_s (h : PSI K P V N c u i) (hk : K i ≠ 0) : PSI K P V N (atC c (i + 1)) (atR u (i + 1)) (i + 1) := by
  have hi := PSI_lt h hk
  obtain ⟨h1, -, -, -, h5⟩ := h
  refine ⟨TKR_sx (r := q145) (q := q67) h1 (sx_pI sx_rfl rfl) (sx_pI sx_rfl rfl) (fun A j z1 z2 => decide_eq_false (by omega)) (fun A j z1 z2 => decide_eq_false (by omega)), hi, ?_, ?_, ?_⟩
  · unfold atC
    rw [rI, if_pos ⟨rfl, rfl⟩]
  · unfold atR
    rw [rI, if_pos ⟨rfl, rfl⟩]
  · unfold atR
    rw [rI, if_neg (by omega)]
    exact h5
theorem PSI_sx {c' u' : cS} {r q : Nat → Nat → Bool} (h : PSI K P V N c u i) (hc : sx r c c') (hu : sx q u u') (h1 : ∀ A j, (3 ≤ A ∧ A ≤ 5) ∨ (A = 145 ∧ j = 7) → r A j = false) (h2 : ∀ A j, (178 ≤ A ∧ A ≤ 180) ∨ (A = 174 ∧ (j = 67 ∨ j = 13)) → q A j = false) : PSI K P V N c' u' i := by
  obtain ⟨a1, a2, a3, a4, a5⟩ := h
  exact ⟨TKR_sx a1 hc hu (fun A j z1 z2 => h1 A j (by omega)) (fun A j z1 z2 => h2 A j (by omega)), a2, (hc.1 145 7 (h1 _ _ (by omega))).trans a3, (hu.1 174 67 (h2 _ _ (by omega))).trans a4, (hu.1 174 13 (h2 _ _ (by omega))).trans a5⟩
/-! the class -/
theorem e42 (h : PSI K P V N c u i) : d_42 n c = some (nI (P i)) := by
  have hk := PSI_K h
  obtain ⟨⟨a1, a2, a3, -⟩, h2, h3, h4, h5⟩ := h
  unfold d_42
  rw [h3, if_pos (ib_n (by omega) (by decide)), ix_n (by omega), (a3 i h2).2.1]
theorem e43 (h : PSI K P V N c u i) : d_43 n c = some (nI (K i)) := by
  have hk := PSI_K h
  obtain ⟨⟨a1, a2, a3, -⟩, h2, h3, h4, h5⟩ := h
  unfold d_43
  rw [h3, if_pos (ib_n (by omega) (by decide)), ix_n (by omega), (a3 i h2).1]
theorem e257 {b : Nat} (h : PSI K P V N c u i) (hb : b < 256) : d_257 n (nI b) c = some (if K i = b then .inl (atC c (i + 1)) else .inr (flC c 2 (nI (P i)))) := by
  have hk := PSI_K h
  have h42 := e42 (n := n) h
  obtain ⟨⟨a1, a2, a3, -⟩, h2, h3, h4, h5⟩ := h
  have hib : ib (nI i) 4001 := ib_n (by omega) (by decide)
  have hix : c.1 3 (ix (nI i)) = nI (K i) := by rw [ix_n (by omega)]; exact (a3 i h2).1
  by_cases e : K i = b
  · rw [if_pos e]
    unfold d_257
    rw [h3, hix]
    refine eq_wp (wpt hib (wpj (wpt (by rw [e]) ?_)))
    dsimp only
    rw [h3, nI_1]
    exact wpl rfl
  · rw [if_neg e]
    unfold d_257
    rw [h3, hix]
    exact eq_wp (wpt hib (wpj (wpf (fun z => e ((nI_eq (by omega) (by omega)).mp z)) (wpe h42 (wpe e41 rfl)))))
theorem e258 {b : Nat} (h : PSI K P V N c u i) (hb : b < 256) : d_258 n (nI b) c = some (if K i = b then (1, atC c (i + 1)) else (0, c)) := by
  have hk := PSI_K h
  obtain ⟨⟨a1, a2, a3, -⟩, h2, h3, h4, h5⟩ := h
  have hib : ib (nI i) 4001 := ib_n (by omega) (by decide)
  have hix : c.1 3 (ix (nI i)) = nI (K i) := by rw [ix_n (by omega)]; exact (a3 i h2).1
  by_cases e : K i = b
  · rw [if_pos e]
    unfold d_258
    rw [h3, hix]
    refine eq_wp (wpt hib (wpj (wpt (by rw [e]) (wpj (wpf (by decide) (wpl (wpt (by decide) ?_)))))))
    show (_, pI c 145 7 (nI i + 1)) = _
    rw [nI_1]
    rfl
  · rw [if_neg e]
    unfold d_258
    rw [h3, hix]
    refine eq_wp (wpt hib (wpj (wpf (fun z => e ((nI_eq (by omega) (by omega)).mp z)) (wpj (wpt rfl (wpl (wpt (by decide) ?_)))))))
    show (_, pI c 145 7 (nI i + 0)) = _
    rw [show nI i + 0 = nI i by simp, pI_self h3]
theorem e259 (h : PSI K P V N c u i) : d_259 n c = some (if K i = 1 then .inl (V i, c) else .inr (flC c 2 (nI (P i)))) := by
  have hk := PSI_K h
  have h42 := e42 (n := n) h
  have h43 := e43 (n := n) h
  obtain ⟨⟨a1, a2, a3, -⟩, h2, h3, h4, h5⟩ := h
  by_cases e : K i = 1
  · rw [if_pos e]
    unfold d_259
    refine eq_wp (wpe h43 (wpj (wpt (by rw [e]; rfl) ?_)))
    dsimp only
    rw [h3]
    refine wpt (by simp (disch := first | omega | decide) only [↓neg1, nlit, rI, rL, rI2, rL1, nI_add, pk_mul, sbT, dvT, nmd, ixT, ↓ibT, ltT, ltF, leT, leF, eqT, eqF, nM_ltT, nM_ltF, nM_leT, nM_leF, nM_eqF, nM_eqF', nbT0, nbT1, oI_s, oI_n, natF, natT, nltT, nltF, nleT, nleF, ↓reduceIte, lgc, not_true_eq_false, not_false_eq_true, or_false, false_or, or_true, true_or, and_true, true_and, and_false, false_and, ne_eq, eq_self, or_self, and_self]) ?_
    rw [ix_n (by omega)]
    have := (a3 i h2).2.2.2.2
    have hv : c.2 5 i = V i := by
      unfold TKO at this
      rcases this with b | b | b | b | b | b
      · omega
      · exact b.2.2.1
      · omega
      · omega
      · omega
      · omega
    rw [hv]
    exact rfl
  · rw [if_neg e]
    unfold d_259
    exact eq_wp (wpe h43 (wpj (wpf (fun z => e ((nI_eq (by omega) (by decide)).mp (show _ = nI 1 from z))) (wpe h42 (wpe e41 rfl)))))
/-- what a new NAME gives in the class -/
def nnC (K P : Nat → Nat) (V : Nat → Int64) (c : cS) (i : Nat) (x y : Int32) : (Int64 × cS) ⊕ cS := if K i = 1 then (if x = 0 then (if y = 0 then .inl (V i, atC c (i + 1)) else .inr (flC c 6 (nI (P i)))) else .inr (flC c 3 (nI (P i)))) else .inr (flC c 2 (nI (P i)))
theorem e260 {x y : Int32} (h : PSI K P V N c u i) : d_260 n x y c = some (nnC K P V c i x y) := by
  have h42 := e42 (n := n) h
  have h259 := e259 (n := n) h
  by_cases e : K i = 1
  · rw [if_pos e] at h259
    by_cases e1 : x = 0
    · by_cases e2 : y = 0
      · rw [show nnC K P V c i x y = .inl (V i, atC c (i + 1)) by unfold nnC; rw [if_pos e, if_pos e1, if_pos e2]]
        unfold d_260
        refine eq_wp (wpe h259 (wpSl (wpj (wpt e1 (wpj (wpt e2 ?_))))))
        dsimp only
        rw [h.2.2.1, nI_1]
        exact wpl rfl
      · rw [show nnC K P V c i x y = .inr (flC c 6 (nI (P i))) by unfold nnC; rw [if_pos e, if_pos e1, if_neg e2]]
        unfold d_260
        exact eq_wp (wpe h259 (wpSl (wpj (wpt e1 (wpj (wpf e2 (wpe h42 (wpe e41 rfl))))))))
    · rw [show nnC K P V c i x y = .inr (flC c 3 (nI (P i))) by unfold nnC; rw [if_pos e, if_neg e1]]
      unfold d_260
      exact eq_wp (wpe h259 (wpSl (wpj (wpf e1 (wpe h42 (wpe e41 rfl))))))
  · rw [if_neg e] at h259
    rw [show nnC K P V c i x y = .inr (flC c 2 (nI (P i))) by unfold nnC; rw [if_neg e]]
    unfold d_260
    exact eq_wp (wpe h259 (wpSr rfl))
/-! the reference -/
theorem i64_eq {a b : Nat} (ha : a < 2147483648) (hb : b < 2147483648) : (nI a).toInt64 = (nI b).toInt64 ↔ a = b := by
  constructor
  · intro h
    have h1 : (nI a).toInt64.toInt32 = (nI b).toInt64.toInt32 := by rw [h]
    rw [Int32.toInt32_toInt64, Int32.toInt32_toInt64] at h1
    exact (nI_eq ha hb).mp h1
  · intro h
    rw [h]
theorem e100 {b : Nat} (h : PSI K P V N c u i) (hb : b < 31) : d_100 n (nI b) u = some (if K i = 200 + b then 1 else 0) := by
  have hk := PSI_K h
  obtain ⟨⟨a1, a2, a3, -⟩, h2, h3, h4, h5⟩ := h
  have ht := (a3 i h2).2.2.2.2
  have hib : ib (nI i) 4001 := ib_n (by omega) (by decide)
  have h1 : nb (1 : Int32) := by decide
  have h0 : nb (0 : Int32) := by decide
  have hno : ∀ {x : Int32}, u.1 178 i = x → ¬ x = 4 → ¬ K i = 200 + b → d_100 n (nI b) u = some (if K i = 200 + b then 1 else 0) := fun {x} z1 z2 z3 => by
    rw [if_neg z3]
    unfold d_100
    rw [h4, ix_n (by omega), z1]
    exact eq_wp (wpt hib (wpj (wpj (wpf z2 (wpt h0 rfl)))))
  unfold TKO at ht
  rcases ht with ⟨t1, -, t2⟩ | ⟨t1, t2, -⟩ | ⟨t1, t2, -⟩ | ⟨t1, t2, -⟩ | ⟨t1, t3, t2, -⟩ | ⟨t1, t3, t2, t4⟩
  · exact hno t2 (by decide) (by omega)
  · exact hno t2 (by decide) (by omega)
  · exact hno t2 (by decide) (by omega)
  · exact hno t2 (by decide) (by omega)
  · exact hno t2 (by decide) (by omega)
  · by_cases e : K i = 200 + b
    · rw [if_pos e]
      unfold d_100
      rw [h4, ix_n (by omega), t2, t4, show K i - 200 = b by omega]
      exact eq_wp (wpt hib (wpj (wpj (wpt rfl (wpt hib (wpt lg_self (wpt h1 rfl)))))))
    · rw [if_neg e]
      unfold d_100
      obtain ⟨x, hx⟩ : ∃ x, x = K i - 200 := ⟨_, rfl⟩
      rw [← hx] at t4
      have hne : ¬ lg_cmp (nI x).toInt64 (nI b).toInt64 = 0 := fun z => by
        have h7 := (i64_eq (a := x) (b := b) (by omega) (by omega)).mp (lg_eq z)
        omega
      rw [h4, ix_n (by omega), t2, t4]
      exact eq_wp (wpt hib (wpj (wpj (wpt rfl (wpt hib (wpf hne (wpt h0 rfl)))))))
theorem e101 {b : Nat} (h : PSI K P V N c u i) (hb : 10 ≤ b) (hb2 : b < 128) : d_101 n (nI b) u = some (if K i = b then 1 else 0) := by
  have hk := PSI_K h
  obtain ⟨⟨a1, a2, a3, -⟩, h2, h3, h4, h5⟩ := h
  have ht := (a3 i h2).2.2.2.2
  have hib : ib (nI i) 4001 := ib_n (by omega) (by decide)
  have h1 : nb (1 : Int32) := by decide
  have h0 : nb (0 : Int32) := by decide
  have hno : ∀ {x : Int32}, u.1 178 i = x → ¬ x = 3 → ¬ K i = b → d_101 n (nI b) u = some (if K i = b then 1 else 0) := fun {x} z1 z2 z3 => by
    rw [if_neg z3]
    unfold d_101
    rw [h4, ix_n (by omega), z1]
    exact eq_wp (wpt hib (wpj (wpj (wpf z2 (wpt h0 rfl)))))
  unfold TKO at ht
  rcases ht with ⟨t1, -, t2⟩ | ⟨t1, t2, -⟩ | ⟨t1, t2, -⟩ | ⟨t1, t2, -⟩ | ⟨t1, t3, t2, t4⟩ | ⟨t1, t3, t2, -⟩
  · exact hno t2 (by decide) (by omega)
  · exact hno t2 (by decide) (by omega)
  · exact hno t2 (by decide) (by omega)
  · exact hno t2 (by decide) (by omega)
  · by_cases e : K i = b
    · rw [if_pos e]
      unfold d_101
      rw [h4, ix_n (by omega), t2, t4, e]
      exact eq_wp (wpt hib (wpj (wpj (wpt rfl (wpt hib (wpt lg_self (wpt h1 rfl)))))))
    · rw [if_neg e]
      unfold d_101
      rw [h4, ix_n (by omega), t2, t4]
      exact eq_wp (wpt hib (wpj (wpj (wpt rfl (wpt hib (wpf (fun z => e ((i64_eq (by omega) (by omega)).mp (lg_eq z))) (wpt h0 rfl)))))))
  · exact hno t2 (by decide) (by omega)
theorem e102 {b : Nat} (h : PSI K P V N c u i) (hb : b < 31) : d_102 n (nI b) u = some (if K i = 200 + b then (1, atR u (i + 1)) else (0, u)) := by
  have h1 := e100 (n := n) h hb
  by_cases e : K i = 200 + b
  · rw [if_pos e] at h1 ⊢
    unfold d_102
    rw [h.2.2.2.1, nI_1]
    exact eq_wp (wpj (wpt h.2.2.2.2 (wpe h1 (wpf (by decide) (wpl rfl)))))
  · rw [if_neg e] at h1 ⊢
    unfold d_102
    exact eq_wp (wpj (wpt h.2.2.2.2 (wpe h1 (wpt rfl rfl))))
theorem e379 {b : Nat} (h : PSI K P V N c u i) (hb : 10 ≤ b) (hb2 : b < 128) : d_379 n (nI b) u = some (if K i = b then (1, atR u (i + 1)) else (0, u)) := by
  have h1 := e101 (n := n) h hb hb2
  by_cases e : K i = b
  · rw [if_pos e] at h1 ⊢
    unfold d_379
    rw [h.2.2.2.1, nI_1]
    exact eq_wp (wpj (wpt h.2.2.2.2 (wpe h1 (wpf (by decide) (wpl rfl)))))
  · rw [if_neg e] at h1 ⊢
    unfold d_379
    exact eq_wp (wpj (wpt h.2.2.2.2 (wpe h1 (wpt rfl rfl))))
theorem e103 (h : PSI K P V N c u i) : d_103 n u = some (flt u 2 (nI (P i))) := by
  have hk := PSI_K h
  obtain ⟨⟨a1, a2, a3, -⟩, h2, h3, h4, h5⟩ := h
  unfold d_103
  rw [h4]
  refine eq_wp (wpt (by simp (disch := first | omega | decide) only [↓neg1, nlit, rI, rL, rI2, rL1, nI_add, pk_mul, sbT, dvT, nmd, ixT, ↓ibT, ltT, ltF, leT, leF, eqT, eqF, nM_ltT, nM_ltF, nM_leT, nM_leF, nM_eqF, nM_eqF', nbT0, nbT1, oI_s, oI_n, natF, natT, nltT, nltF, nleT, nleF, ↓reduceIte, lgc, not_true_eq_false, not_false_eq_true, or_false, false_or, or_true, true_or, and_true, true_and, and_false, false_and, ne_eq, eq_self, or_self, and_self]) ?_)
  rw [ix_n (by omega), (a3 i h2).2.2.1]
  exact wpe (e97 h5) rfl
theorem e380 {b : Nat} (h : PSI K P V N c u i) (hb : 10 ≤ b) (hb2 : b < 128) : d_380 n (nI b) u = some (if K i = b then atR u (i + 1) else flt u 2 (nI (P i))) := by
  have h1 := e101 (n := n) h hb hb2
  by_cases e : K i = b
  · rw [if_pos e] at h1 ⊢
    unfold d_380
    rw [h.2.2.2.1, nI_1]
    exact eq_wp (wpt h.2.2.2.2 (wpe h1 (wpj (wpf (by decide) (wpl rfl)))))
  · rw [if_neg e] at h1 ⊢
    unfold d_380
    exact eq_wp (wpt h.2.2.2.2 (wpe h1 (wpj (wpt rfl (wpe (e103 h) rfl)))))
theorem e381 (h : PSI K P V N c u i) : d_381 n u = some (if K i = 1 then (V i, atR u (i + 1)) else (0, flt u 2 (nI (P i)))) := by
  have hk := PSI_K h
  have h103 := e103 (n := n) h
  obtain ⟨⟨a1, a2, a3, -⟩, h2, h3, h4, h5⟩ := h
  have ht := (a3 i h2).2.2.2.2
  have h178 : K i = 1 ↔ u.1 178 i = nI 0 := by
    unfold TKO at ht
    rcases ht with ⟨t1, -, t2⟩ | ⟨t1, t2, -⟩ | ⟨t1, t2, -⟩ | ⟨t1, t2, -⟩ | ⟨t1, t3, t2, -⟩ | ⟨t1, t3, t2, -⟩
    · rw [t2]; exact ⟨fun z => by omega, fun z => absurd z (by decide)⟩
    · rw [t2]; exact ⟨fun _ => rfl, fun _ => t1⟩
    · rw [t2]; exact ⟨fun z => by omega, fun z => absurd z (by decide)⟩
    · rw [t2]; exact ⟨fun z => by omega, fun z => absurd z (by decide)⟩
    · rw [t2]; exact ⟨fun z => by omega, fun z => absurd z (by decide)⟩
    · rw [t2]; exact ⟨fun z => by omega, fun z => absurd z (by decide)⟩
  by_cases e : K i = 1
  · rw [if_pos e]
    unfold d_381
    refine eq_wp (wpt h5 ?_)
    rw [h4]
    refine wpt (by simp (disch := first | omega | decide) only [↓neg1, nlit, rI, rL, rI2, rL1, nI_add, pk_mul, sbT, dvT, nmd, ixT, ↓ibT, ltT, ltF, leT, leF, eqT, eqF, nM_ltT, nM_ltF, nM_leT, nM_leF, nM_eqF, nM_eqF', nbT0, nbT1, oI_s, oI_n, natF, natT, nltT, nltF, nleT, nleF, ↓reduceIte, lgc, not_true_eq_false, not_false_eq_true, or_false, false_or, or_true, true_or, and_true, true_and, and_false, false_and, ne_eq, eq_self, or_self, and_self]) ?_
    rw [ix_n (by omega), nI_1]
    refine wpt (h178.mp e) (wpl ?_)
    have z67 : (pI u 174 67 (nI (i + 1))).1 174 67 = nI (i + 1) := by rw [rI, if_pos ⟨rfl, rfl⟩]
    rw [z67, show nI (i + 1) - 1 = nI i by rw [← nI_1]; simp]
    refine wpt (by simp (disch := first | omega | decide) only [↓neg1, nlit, rI, rL, rI2, rL1, nI_add, pk_mul, sbT, dvT, nmd, ixT, ↓ibT, ltT, ltF, leT, leF, eqT, eqF, nM_ltT, nM_ltF, nM_leT, nM_leF, nM_eqF, nM_eqF', nbT0, nbT1, oI_s, oI_n, natF, natT, nltT, nltF, nleT, nleF, ↓reduceIte, lgc, not_true_eq_false, not_false_eq_true, or_false, false_or, or_true, true_or, and_true, true_and, and_false, false_and, ne_eq, eq_self, or_self, and_self]) ?_
    rw [ix_n (by omega)]
    have hv : u.2 180 i = V i := by
      unfold TKO at ht
      rcases ht with b | b | b | b | b | b
      · omega
      · exact b.2.2.2.1
      · omega
      · omega
      · omega
      · omega
    show ((pI u 174 67 (nI (i + 1))).2 180 i, _) = _
    rw [show (pI u 174 67 (nI (i + 1))).2 180 i = V i from hv]
    rfl
  · rw [if_neg e]
    unfold d_381
    refine eq_wp (wpt h5 ?_)
    rw [h4]
    refine wpt (by simp (disch := first | omega | decide) only [↓neg1, nlit, rI, rL, rI2, rL1, nI_add, pk_mul, sbT, dvT, nmd, ixT, ↓ibT, ltT, ltF, leT, leF, eqT, eqF, nM_ltT, nM_ltF, nM_leT, nM_leF, nM_eqF, nM_eqF', nbT0, nbT1, oI_s, oI_n, natF, natT, nltT, nltF, nleT, nleF, ↓reduceIte, lgc, not_true_eq_false, not_false_eq_true, or_false, false_or, or_true, true_or, and_true, true_and, and_false, false_and, ne_eq, eq_self, or_self, and_self]) ?_
    rw [ix_n (by omega)]
    exact wpf (fun z => e (h178.mpr z)) (wpe h103 rfl)
/-! the reference, when something is wrong -/
variable {a : Int32}
theorem e102w (h : u.1 174 13 = nI 1) : d_102 n a u = some (0, u) := by
  unfold d_102
  exact eq_wp (wpj (wpf (by rw [h]; decide) rfl))
theorem e379w (h : u.1 174 13 = nI 1) : d_379 n a u = some (0, u) := by
  unfold d_379
  exact eq_wp (wpj (wpf (by rw [h]; decide) rfl))
theorem e380w (h : u.1 174 13 = nI 1) : d_380 n a u = some u := by
  unfold d_380
  exact eq_wp (wpf (by rw [h]; decide) rfl)
theorem e381w (h : u.1 174 13 = nI 1) : d_381 n u = some (0, u) := by
  unfold d_381
  exact eq_wp (wpf (by rw [h]; decide) rfl)
end PRM
