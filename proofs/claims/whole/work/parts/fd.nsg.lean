/-! NAMES are settled: LABELS, FIELDS, METHODS -/
section NSG
variable {n i N k M a b a0 na op L U oc t : Nat} {c d u v w q : cS} {K P : Nat → Nat} {V : Nat → Int64} {x y : Int64}
/-- a name of the text, in both -/
theorem nmt_at {A B : Nat} (hT : TKR c u K P V N) (h : NMT K P V N c a t A B) : t ≤ 4000 ∧ u.2 180 t = V t ∧ V t ≠ 0 ∧ u.1 179 t = nI (P t) := by
  obtain ⟨h1, h2, -, -⟩ := h
  obtain ⟨a1, -, a3, -⟩ := hT
  obtain ⟨-, -, b3, -, b5⟩ := a3 t (by omega)
  unfold TKO at b5
  rcases b5 with z | z | z | z | z | z
  · omega
  · exact ⟨by omega, z.2.2.2.1, z.2.2.2.2, b3⟩
  · omega
  · omega
  · omega
  · omega
/-- an ACT that goes to a LABEL -/
theorem nam_l (hn : 1000 ≤ n) (hM : M < 96) (ha : a < 1024) (hb : b < 3840) (hna : na ≤ 40) (ha0 : a0 + na ≤ 1024) (h120 : c.1 120 M = nI na) (h119 : c.1 119 M = nI a0) (h210 : u.1 210 M = nI na) (hlb : ∀ l, l < na → c.2 127 (a0 + l) = u.2 212 (40 * M + l)) (hL : LBU u M na) (hT : TKR c u K P V N) (h13 : u.1 174 13 = nI 0) (h121 : c.1 121 a = nI (200 + op)) (h211 : u.1 211 b = nI op) (hop : op = 27 ∨ op = 28 ∨ op = 29) (h218 : u.1 218 b = nI t) (hN : NMT K P V N c a t 128 131) (h216 : u.1 216 b = nM) : (∃ l, l < na ∧ c.2 128 a = u.2 212 (40 * M + l) ∧ d_287 n (nI M) (nI a) c = some (.inl (pI c 124 a (nI l))) ∧ d_416 n (nI M) (nI b) u = some (pI u 216 b (nI l))) ∨ (∃ z, d_287 n (nI M) (nI a) c = some (.inr z) ∧ ∃ q, d_416 n (nI M) (nI b) u = some q ∧ FLR c u z q) := by
  have hia : ib (nI a) 1024 := ib_n ha (by decide)
  have ea : ix (nI a) = a := ix_n (by omega)
  have hib : ib (nI b) 3840 := ib_n hb (by decide)
  have eb : ix (nI b) = b := ix_n (by omega)
  obtain ⟨t1, t2, t3, t4⟩ := nmt_at hT hN
  obtain ⟨-, -, h128, h131⟩ := hN
  have h163 : d_163 n (nI M) (V t) c = some (oI (lbX u M na (V t))) := s163 (by omega) hM hna (by omega) h120 h119 hlb
  have hla := la_r (n := n) (M := M) (b := b) (t := t) (by omega) hM hna hb h210 h218 t1 t2 t3 hL
  have hitb : ib (nI t) 4001 := ib_n (by omega) (by decide)
  have et : ix (nI t) = t := ix_n (by omega)
  have hC : ∀ {v39 : Int32} {Q : cS ⊕ cS → Prop}, d_163 n (nI M) (V t) c = some v39 → wp (if 0 ≤ ((pI c 124 a v39).1 124 a) then
      some (.inl (pI c 124 a v39))
    else
      if ib (nI a) 1024 then
      Option.bind (d_41 n 5 ((pI c 124 a v39).1 131 a) (pI c 124 a v39)) (Sum.elim (fun r45 : cS =>
      some (.inl r45))
      (fun z46 => some (.inr z46)))
      else none) Q → wp (d_287 n (nI M) (nI a) c) Q := fun {v39 Q} h h' => by
    unfold d_287
    rw [ea, h121, h128]
    refine wpt hia (wpl (wpj (wpj (w3t (by rcases hop with z | z | z <;> subst z <;> decide) (wpt hia (wpe h (wpt hia (wpl (wpt hia ?_)))))))))
    by_cases e : 0 ≤ ((pI c 124 a v39).1 124 a)
    · rw [if_pos e] at h'
      refine wpt e (wpj (wpj (wpf (by simp (disch := first | omega | decide) only [↓neg1, nlit, rI, rL, rI2, rL1, nI_add, pk_mul, sbT, dvT, nmd, ixT, ↓ibT, ltT, ltF, leT, leF, eqT, eqF, nM_ltT, nM_ltF, nM_leT, nM_leF, nM_eqF, nM_eqF', nbT0, nbT1, oI_s, oI_n, natF, natT, nltT, nltF, nleT, nleF, ↓reduceIte, lgc, not_true_eq_false, not_false_eq_true, or_false, false_or, or_true, true_or, and_true, true_and, and_false, false_and, ne_eq, eq_self, or_self, and_self]) (wpf (by simp (disch := first | omega | decide) only [↓neg1, nlit, rI, rL, rI2, rL1, nI_add, pk_mul, sbT, dvT, nmd, ixT, ↓ibT, ltT, ltF, leT, leF, eqT, eqF, nM_ltT, nM_ltF, nM_leT, nM_leF, nM_eqF, nM_eqF', nbT0, nbT1, oI_s, oI_n, natF, natT, nltT, nltF, nleT, nleF, ↓reduceIte, lgc, not_true_eq_false, not_false_eq_true, or_false, false_or, or_true, true_or, and_true, true_and, and_false, false_and, ne_eq, eq_self, or_self, and_self]) (wpf (by simp (disch := first | omega | decide) only [↓neg1, nlit, rI, rL, rI2, rL1, nI_add, pk_mul, sbT, dvT, nmd, ixT, ↓ibT, ltT, ltF, leT, leF, eqT, eqF, nM_ltT, nM_ltF, nM_leT, nM_leF, nM_eqF, nM_eqF', nbT0, nbT1, oI_s, oI_n, natF, natT, nltT, nltF, nleT, nleF, ↓reduceIte, lgc, not_true_eq_false, not_false_eq_true, or_false, false_or, or_true, true_or, and_true, true_and, and_false, false_and, ne_eq, eq_self, or_self, and_self]) h')))))
    · rw [if_neg e] at h'
      refine wpf e (wpt hia ?_)
      rw [if_pos hia] at h'
      exact wpe e41 (wpSr h')
  have hR : ∀ {Q : cS → Prop}, wp (if 0 ≤ ((laS u M b na (V t)).1 216 b) then
          some (laS u M b na (V t))
        else
          if ib (nI b) 3840 then
          if ib ((laS u M b na (V t)).1 218 b) 4001 then
          Option.bind (d_97 n 5 ((laS u M b na (V t)).1 179 (ix ((laS u M b na (V t)).1 218 b))) (laS u M b na (V t))) (fun r23 : cS =>
          some r23)
          else none
          else none) Q → wp (d_416 n (nI M) (nI b) u) Q := fun {Q} h => by
    unfold laL at hla
    rw [eb] at hla
    unfold d_416
    rw [eb, h211]
    refine wpt hib (wpj (wpj (w3n hib (by simp (disch := first | omega | decide) only [↓neg1, nlit, rI, rL, rI2, rL1, nI_add, pk_mul, sbT, dvT, nmd, ixT, ↓ibT, ltT, ltF, leT, leF, eqT, eqF, nM_ltT, nM_ltF, nM_leT, nM_leF, nM_eqF, nM_eqF', nbT0, nbT1, oI_s, oI_n, natF, natT, nltT, nltF, nleT, nleF, ↓reduceIte, lgc, not_true_eq_false, not_false_eq_true, or_false, false_or, or_true, true_or, and_true, true_and, and_false, false_and, ne_eq, eq_self, or_self, and_self]) (by simp (disch := first | omega | decide) only [↓neg1, nlit, rI, rL, rI2, rL1, nI_add, pk_mul, sbT, dvT, nmd, ixT, ↓ibT, ltT, ltF, leT, leF, eqT, eqF, nM_ltT, nM_ltF, nM_leT, nM_leF, nM_eqF, nM_eqF', nbT0, nbT1, oI_s, oI_n, natF, natT, nltT, nltF, nleT, nleF, ↓reduceIte, lgc, not_true_eq_false, not_false_eq_true, or_false, false_or, or_true, true_or, and_true, true_and, and_false, false_and, ne_eq, eq_self, or_self, and_self]) (by simp (disch := first | omega | decide) only [↓neg1, nlit, rI, rL, rI2, rL1, nI_add, pk_mul, sbT, dvT, nmd, ixT, ↓ibT, ltT, ltF, leT, leF, eqT, eqF, nM_ltT, nM_ltF, nM_leT, nM_leF, nM_eqF, nM_eqF', nbT0, nbT1, oI_s, oI_n, natF, natT, nltT, nltF, nleT, nleF, ↓reduceIte, lgc, not_true_eq_false, not_false_eq_true, or_false, false_or, or_true, true_or, and_true, true_and, and_false, false_and, ne_eq, eq_self, or_self, and_self]) (wpt hib (wpj ?_)))))
    rw [h211]
    refine w3i hib (by rcases hop with z | z | z <;> subst z <;> decide) (wpe hla (wpt hib (wpj h)))
  cases el : lbX u M na (V t) with
  | some l =>
    obtain ⟨l1, l2, -⟩ := ff_some el
    have hs : laS u M b na (V t) = pI u 216 b (nI l) := by
      unfold laS
      rw [el]
      rfl
    refine Or.inl ⟨l, l1, by rw [h128]; exact (of_decide_eq_true l2).symm, eq_wp (hC (v39 := nI l) (by rw [h163, el]; rfl) ?_), eq_wp (hR ?_)⟩
    · refine wpt ?_ rfl
      rw [rI, if_pos ⟨rfl, rfl⟩]
      exact nI_le (a := 0) (by omega) (by omega)
    · rw [hs]
      refine wpt ?_ rfl
      rw [rI, if_pos ⟨rfl, rfl⟩]
      exact nI_le (a := 0) (by omega) (by omega)
  | none =>
    have hs : laS u M b na (V t) = u := by
      unfold laS
      rw [el]
      rfl
    refine Or.inr ⟨flC (pI c 124 a nM) 5 (nI (P t)), eq_wp (hC (v39 := nM) (by rw [h163, el]; rfl) ?_), flt u 5 (nI (P t)), eq_wp (hR ?_), FLR_of (sx_pI sx_rfl (decide_eq_true (by omega))) sx_rfl⟩
    · refine wpf ?_ (wpt hia ?_)
      · rw [rI, if_pos ⟨rfl, rfl⟩]
        decide
      · rw [rI, if_neg (by omega), h131]
        exact wpe e41 (wpSr rfl)
    · rw [hs, h216, h218, et, t4]
      exact wpf (by decide) (wpt hib (wpt hitb (wpe (e97 h13) rfl)))
/-- where an ACT names a FIELD or a METHOD -/
def nmZ (u : cS) (op : Nat) (x : Int64) (k : Nat) : Option (Nat × Nat) := if op = 20 then nrM u x 12 k else nrF u x 12 k
def nmC (u : cS) (op : Nat) (z : Nat × Nat) : cS → Nat → cS := fun c a => pI (pI c 123 a (nI (if op = 20 then 100 * z.1 + 20 + 10 * z.2 else 100 * z.1 + 1 + z.2))) 122 a (if op = 20 then nI (pM u (8 * z.1 + z.2)) else 0)
def nmR (u : cS) (b k : Nat) (z : Nat × Nat) : cS := pI (pI (pI u 214 b (nI z.1)) 215 b (nI z.2)) 229 b (nI k)
theorem nam_n (hn : 1000 ≤ n) (ha : a < 1024) (hb : b < 3840) (hC : CCS c u) (hT : TKR c u K P V N) (h13 : u.1 174 13 = nI 0) (h121 : c.1 121 a = nI (200 + op)) (h211 : u.1 211 b = nI op) (hop : op = 18 ∨ op = 19 ∨ op = 20) (h217 : u.1 217 b = nI t) (hN : NMT K P V N c a t 128 131) (hN2 : NMT K P V N c a (t + 2) 129 132) : (∃ k z, cOf u (V t) = some k ∧ nmZ u op (V (t + 2)) k = some z ∧ d_287 n (nI M) (nI a) c = some (.inl (nmC u op z c a)) ∧ d_416 n (nI M) (nI b) u = some (nmR u b k z)) ∨ (∃ z, d_287 n (nI M) (nI a) c = some (.inr z) ∧ ∃ q, d_416 n (nI M) (nI b) u = some q ∧ FLR c u z q) := by
  have hia : ib (nI a) 1024 := ib_n ha (by decide)
  have ea : ix (nI a) = a := ix_n (by omega)
  have hib : ib (nI b) 3840 := ib_n hb (by decide)
  have eb : ix (nI b) = b := ix_n (by omega)
  obtain ⟨t1, t2, t3, t4⟩ := nmt_at hT hN
  obtain ⟨s1, s2, s3, s4⟩ := nmt_at hT hN2
  obtain ⟨-, -, h128, h131⟩ := hN
  obtain ⟨-, -, h129, h132⟩ := hN2
  have hitb : ib (nI t) 4001 := ib_n (by omega) (by decide)
  have et : ix (nI t) = t := ix_n (by omega)
  have hit2 : ib (nI (t + 2)) 4001 := ib_n (by omega) (by decide)
  have et2 : ix (nI (t + 2)) = t + 2 := ix_n (by omega)
  have e2 : nI t + 2 = nI (t + 2) := nI_add (a := t) (b := 2)
  obtain ⟨h12, hp⟩ := CCS_p hC
  have h249 : d_249 n (V t) c = some (oI (cOf u (V t))) := e249 (by omega) h12 hC.1.2.1 (fun k hk => (hC.2.2.1 k hk).1)
  have h375 : d_375 n (V t) u = some (oI (cOf u (V t))) := e375 (by omega) AG_rfl h12 hC.1.2.2.1
  have h12' : ∀ k, cOf u (V t) = some k → k < ccn u := fun k hk => (ff_some hk).1
  have h192 : ∀ {k : Nat} {o : Int32} {f : Int32 → Option (cS ⊕ cS)} {Q : cS ⊕ cS → Prop}, (op = 20 → d_160 n (nI k) (V (t + 2)) c = some o) → (op ≠ 20 → d_254 n (nI k) (V (t + 2)) c = some o) → wp (f o) Q → wp (if nI (200 + op) = 220 then Option.bind (d_160 n (nI k) (V (t + 2)) c) f else Option.bind (d_254 n (nI k) (V (t + 2)) c) f) Q := fun {k o f Q} y1 y2 h => by
    by_cases e : op = 20
    · exact wpt (by rw [e]; rfl) (wpe (y1 e) h)
    · exact wpf (by simp (disch := first | omega | decide) only [↓neg1, nlit, rI, rL, rI2, rL1, nI_add, pk_mul, sbT, dvT, nmd, ixT, ↓ibT, ltT, ltF, leT, leF, eqT, eqF, nM_ltT, nM_ltF, nM_leT, nM_leF, nM_eqF, nM_eqF', nbT0, nbT1, oI_s, oI_n, natF, natT, nltT, nltF, nleT, nleF, ↓reduceIte, lgc, not_true_eq_false, not_false_eq_true, or_false, false_or, or_true, true_or, and_true, true_and, and_false, false_and, ne_eq, eq_self, or_self, and_self]) (wpe (y2 e) h)
  have h111 : ∀ {k : Nat} {o : Int32} {f : Int32 → Option cS} {Q : cS → Prop}, (op = 20 → d_414 n (nI k) (V (t + 2)) u = some o) → (op ≠ 20 → d_413 n (nI k) (V (t + 2)) u = some o) → wp (f o) Q → wp (if nI op = 20 then (if ib (nI (t + 2)) 4001 then Option.bind (d_414 n (nI k) (V (t + 2)) u) f else none) else (if ib (nI (t + 2)) 4001 then Option.bind (d_413 n (nI k) (V (t + 2)) u) f else none)) Q := fun {k o f Q} y1 y2 h => by
    by_cases e : op = 20
    · exact wpt (by rw [e]; rfl) (wpt hit2 (wpe (y1 e) h))
    · exact wpf (by simp (disch := first | omega | decide) only [↓neg1, nlit, rI, rL, rI2, rL1, nI_add, pk_mul, sbT, dvT, nmd, ixT, ↓ibT, ltT, ltF, leT, leF, eqT, eqF, nM_ltT, nM_ltF, nM_leT, nM_leF, nM_eqF, nM_eqF', nbT0, nbT1, oI_s, oI_n, natF, natT, nltT, nltF, nleT, nleF, ↓reduceIte, lgc, not_true_eq_false, not_false_eq_true, or_false, false_or, or_true, true_or, and_true, true_and, and_false, false_and, ne_eq, eq_self, or_self, and_self]) (wpt hit2 (wpe (y2 e) h))
  have h3 : nI (200 + op) = 218 ∨ nI (200 + op) = 219 ∨ nI (200 + op) = 220 := by rcases hop with z | z | z <;> subst z <;> decide
  have h3' : nI op = 18 ∨ nI op = 19 ∨ nI op = 20 := by rcases hop with z | z | z <;> subst z <;> decide
  cases ek : cOf u (V t) with
  | none =>
    rw [ek] at h249 h375
    refine Or.inr ⟨flC c 5 (nI (P t)), ?_, flt u 5 (nI (P t)), ?_, FLR_of sx_rfl sx_rfl⟩
    · unfold d_287
      rw [ea, h121]
      refine eq_wp (wpt hia (wpl (wpj (wpj (wpf (by simp (disch := first | omega | decide) only [↓neg1, nlit, rI, rL, rI2, rL1, nI_add, pk_mul, sbT, dvT, nmd, ixT, ↓ibT, ltT, ltF, leT, leF, eqT, eqF, nM_ltT, nM_ltF, nM_leT, nM_leF, nM_eqF, nM_eqF', nbT0, nbT1, oI_s, oI_n, natF, natT, nltT, nltF, nleT, nleF, ↓reduceIte, lgc, not_true_eq_false, not_false_eq_true, or_false, false_or, or_true, true_or, and_true, true_and, and_false, false_and, ne_eq, eq_self, or_self, and_self]) (wpf (by simp (disch := first | omega | decide) only [↓neg1, nlit, rI, rL, rI2, rL1, nI_add, pk_mul, sbT, dvT, nmd, ixT, ↓ibT, ltT, ltF, leT, leF, eqT, eqF, nM_ltT, nM_ltF, nM_leT, nM_leF, nM_eqF, nM_eqF', nbT0, nbT1, oI_s, oI_n, natF, natT, nltT, nltF, nleT, nleF, ↓reduceIte, lgc, not_true_eq_false, not_false_eq_true, or_false, false_or, or_true, true_or, and_true, true_and, and_false, false_and, ne_eq, eq_self, or_self, and_self]) (wpf (by simp (disch := first | omega | decide) only [↓neg1, nlit, rI, rL, rI2, rL1, nI_add, pk_mul, sbT, dvT, nmd, ixT, ↓ibT, ltT, ltF, leT, leF, eqT, eqF, nM_ltT, nM_ltF, nM_leT, nM_leF, nM_eqF, nM_eqF', nbT0, nbT1, oI_s, oI_n, natF, natT, nltT, nltF, nleT, nleF, ↓reduceIte, lgc, not_true_eq_false, not_false_eq_true, or_false, false_or, or_true, true_or, and_true, true_and, and_false, false_and, ne_eq, eq_self, or_self, and_self]) (wpj (wpj (w3t h3 (wpt hia ?_)))))))))))
      rw [h128, h131]
      exact wpe h249 (wpj (wpf (by decide) (wpt hia (wpe e41 (wpSr rfl)))))
    · unfold d_416
      rw [eb, h211]
      refine eq_wp (wpt hib (wpj (wpj (w3i hib h3' (wpt hib ?_)))))
      rw [h217]
      refine wpl (wpt hitb ?_)
      rw [et, t2, t4]
      exact wpe h375 (wpf (by decide) (wpt hitb (wpe (e97 h13) rfl)))
  | some k =>
    have hk := h12' k ek
    rw [ek] at h249 h375
    have hk0 : (0 : Int32) ≤ nI k := nI_le (a := 0) (by omega) (by omega)
    cases ez : nmZ u op (V (t + 2)) k with
    | none =>
      have z20 : op = 20 → nrM u (V (t + 2)) 12 k = none := fun z => by
        unfold nmZ at ez
        rw [if_pos z] at ez
        exact ez
      have z18 : op ≠ 20 → nrF u (V (t + 2)) 12 k = none := fun z => by
        unfold nmZ at ez
        rw [if_neg z] at ez
        exact ez
      refine Or.inr ⟨flC (pI c 123 a nM) 5 (nI (P (t + 2))), ?_, flt u 5 (nI (P (t + 2))), ?_, FLR_of (sx_pI sx_rfl (decide_eq_true (by omega))) sx_rfl⟩
      · have x123 : (pI c 123 a nM).1 123 a = nM := by rw [rI, if_pos ⟨rfl, rfl⟩]
        have x132 : (pI c 123 a nM).1 132 a = nI (P (t + 2)) := by
          rw [rI, if_neg (by omega)]
          exact h132
        unfold d_287
        rw [ea, h121]
        refine eq_wp (wpt hia (wpl (wpj (wpj (wpf (by simp (disch := first | omega | decide) only [↓neg1, nlit, rI, rL, rI2, rL1, nI_add, pk_mul, sbT, dvT, nmd, ixT, ↓ibT, ltT, ltF, leT, leF, eqT, eqF, nM_ltT, nM_ltF, nM_leT, nM_leF, nM_eqF, nM_eqF', nbT0, nbT1, oI_s, oI_n, natF, natT, nltT, nltF, nleT, nleF, ↓reduceIte, lgc, not_true_eq_false, not_false_eq_true, or_false, false_or, or_true, true_or, and_true, true_and, and_false, false_and, ne_eq, eq_self, or_self, and_self]) (wpf (by simp (disch := first | omega | decide) only [↓neg1, nlit, rI, rL, rI2, rL1, nI_add, pk_mul, sbT, dvT, nmd, ixT, ↓ibT, ltT, ltF, leT, leF, eqT, eqF, nM_ltT, nM_ltF, nM_leT, nM_leF, nM_eqF, nM_eqF', nbT0, nbT1, oI_s, oI_n, natF, natT, nltT, nltF, nleT, nleF, ↓reduceIte, lgc, not_true_eq_false, not_false_eq_true, or_false, false_or, or_true, true_or, and_true, true_and, and_false, false_and, ne_eq, eq_self, or_self, and_self]) (wpf (by simp (disch := first | omega | decide) only [↓neg1, nlit, rI, rL, rI2, rL1, nI_add, pk_mul, sbT, dvT, nmd, ixT, ↓ibT, ltT, ltF, leT, leF, eqT, eqF, nM_ltT, nM_ltF, nM_leT, nM_leF, nM_eqF, nM_eqF', nbT0, nbT1, oI_s, oI_n, natF, natT, nltT, nltF, nleT, nleF, ↓reduceIte, lgc, not_true_eq_false, not_false_eq_true, or_false, false_or, or_true, true_or, and_true, true_and, and_false, false_and, ne_eq, eq_self, or_self, and_self]) (wpj (wpj (w3t h3 (wpt hia ?_)))))))))))
        rw [h128]
        refine wpe h249 (wpj (wpt hk0 (wpt hia ?_)))
        rw [h129]
        refine wpl (wpj (h192 (fun z => s160n hn hC hk (z20 z)) (fun z => sd254n hn hC hk (z18 z)) (wpt hia (wpl (wpt hia (wpj ?_))))))
        rw [x123, x132]
        exact wpf (by decide) (wpt hia (wpe e41 (wpSr rfl)))
      · unfold d_416
        rw [eb, h211]
        refine eq_wp (wpt hib (wpj (wpj (w3i hib h3' (wpt hib ?_)))))
        rw [h217]
        refine wpl (wpt hitb ?_)
        rw [et, t2, e2, et2, s2, s4]
        exact wpe h375 (wpt hk0 (wpt hib (wpj (h111 (fun z => s414n hn hC hk (z20 z)) (fun z => s413n hn hC hk (z18 z)) (wpf (by decide) (wpt hit2 (wpe (e97 h13) rfl)))))))
    | some z =>
      have z20 : op = 20 → nrM u (V (t + 2)) 12 k = some z := fun z' => by
        unfold nmZ at ez
        rw [if_pos z'] at ez
        exact ez
      have z18 : op ≠ 20 → nrF u (V (t + 2)) 12 k = some z := fun z' => by
        unfold nmZ at ez
        rw [if_neg z'] at ez
        exact ez
      have hzb : z.1 < ccn u ∧ z.2 < 8 := by
        by_cases e : op = 20
        · obtain ⟨a1, -, a3⟩ := nrM_ok hC hk (z20 e)
          have := (hC.1.2.2.2.2.1 z.1 a1).1
          omega
        · obtain ⟨a1, a3, -⟩ := nrF_ok (t := 12) h12 hp hk (z18 e)
          have := (hC.1.2.2.2.1 z.1 a1).1
          omega
      obtain ⟨pl, hpl⟩ : ∃ pl, pl = if op = 20 then 100 * z.1 + 20 + 10 * z.2 else 100 * z.1 + 1 + z.2 := ⟨_, rfl⟩
      have hplb : pl < 1200 := by
        rw [hpl]
        split <;> omega
      refine Or.inl ⟨k, z, rfl, ez, ?_, ?_⟩
      · have x123 : (pI c 123 a (nI pl)).1 123 a = nI pl := by rw [rI, if_pos ⟨rfl, rfl⟩]
        have hpl0 : (0 : Int32) ≤ nI pl := nI_le (a := 0) (by omega) (by omega)
        unfold d_287 nmC
        rw [ea, h121, ← hpl]
        refine eq_wp (wpt hia (wpl (wpj (wpj (wpf (by simp (disch := first | omega | decide) only [↓neg1, nlit, rI, rL, rI2, rL1, nI_add, pk_mul, sbT, dvT, nmd, ixT, ↓ibT, ltT, ltF, leT, leF, eqT, eqF, nM_ltT, nM_ltF, nM_leT, nM_leF, nM_eqF, nM_eqF', nbT0, nbT1, oI_s, oI_n, natF, natT, nltT, nltF, nleT, nleF, ↓reduceIte, lgc, not_true_eq_false, not_false_eq_true, or_false, false_or, or_true, true_or, and_true, true_and, and_false, false_and, ne_eq, eq_self, or_self, and_self]) (wpf (by simp (disch := first | omega | decide) only [↓neg1, nlit, rI, rL, rI2, rL1, nI_add, pk_mul, sbT, dvT, nmd, ixT, ↓ibT, ltT, ltF, leT, leF, eqT, eqF, nM_ltT, nM_ltF, nM_leT, nM_leF, nM_eqF, nM_eqF', nbT0, nbT1, oI_s, oI_n, natF, natT, nltT, nltF, nleT, nleF, ↓reduceIte, lgc, not_true_eq_false, not_false_eq_true, or_false, false_or, or_true, true_or, and_true, true_and, and_false, false_and, ne_eq, eq_self, or_self, and_self]) (wpf (by simp (disch := first | omega | decide) only [↓neg1, nlit, rI, rL, rI2, rL1, nI_add, pk_mul, sbT, dvT, nmd, ixT, ↓ibT, ltT, ltF, leT, leF, eqT, eqF, nM_ltT, nM_ltF, nM_leT, nM_leF, nM_eqF, nM_eqF', nbT0, nbT1, oI_s, oI_n, natF, natT, nltT, nltF, nleT, nleF, ↓reduceIte, lgc, not_true_eq_false, not_false_eq_true, or_false, false_or, or_true, true_or, and_true, true_and, and_false, false_and, ne_eq, eq_self, or_self, and_self]) (wpj (wpj (w3t h3 (wpt hia ?_)))))))))))
        rw [h128]
        refine wpe h249 (wpj (wpt hk0 (wpt hia ?_)))
        rw [h129]
        refine wpl (wpj (h192 (o := nI pl) (fun z' => by rw [hpl, if_pos z']; exact s160 hn hC hk (z20 z')) (fun z' => by rw [hpl, if_neg z']; exact sd254 hn hC hk (z18 z')) (wpt hia (wpl (wpt hia (wpj ?_))))))
        rw [x123]
        refine wpt hpl0 (wpj ?_)
        by_cases e : op = 20
        · rw [if_pos e] at hpl
          obtain ⟨a1, -, a3⟩ := nrM_ok hC hk (z20 e)
          have h116 : (pI c 123 a (nI pl)).1 116 (8 * z.1 + z.2) = nI (pM u (8 * z.1 + z.2)) := by
            rw [rI, if_neg (by omega)]
            exact (hC.1.2.2.2.2.2 z.1 z.2 a1 a3).2.1
          have em : 8 * (pl / 100) + (pl % 100 - 20) / 10 = 8 * z.1 + z.2 := by omega
          have h22 : d_22 n (nI pl) = some (nI (8 * z.1 + z.2)) := by
            rw [← em]
            exact e22 (by omega) (by omega)
          rw [if_pos e, x123]
          refine wpt (by rw [e]; rfl) (wpt hia (wpe h22 (wpt (ib_n (by omega) (by decide)) ?_)))
          rw [show ix (nI (8 * z.1 + z.2)) = 8 * z.1 + z.2 from ix_n (by omega), h116]
          exact wpt hia (wpl rfl)
        · rw [if_neg e]
          exact wpf (by simp (disch := first | omega | decide) only [↓neg1, nlit, rI, rL, rI2, rL1, nI_add, pk_mul, sbT, dvT, nmd, ixT, ↓ibT, ltT, ltF, leT, leF, eqT, eqF, nM_ltT, nM_ltF, nM_leT, nM_leF, nM_eqF, nM_eqF', nbT0, nbT1, oI_s, oI_n, natF, natT, nltT, nltF, nleT, nleF, ↓reduceIte, lgc, not_true_eq_false, not_false_eq_true, or_false, false_or, or_true, true_or, and_true, true_and, and_false, false_and, ne_eq, eq_self, or_self, and_self]) (wpt hia (wpl rfl))
      · have hz0 : (0 : Int32) ≤ nI (100 * z.1 + z.2) := nI_le (a := 0) (by omega) (by omega)
        have o : (nmR u b k z).1 211 b = nI op := by
          unfold nmR
          rw [rI, if_neg (by omega), rI, if_neg (by omega), rI, if_neg (by omega)]
          exact h211
        unfold d_416
        rw [eb, h211]
        refine eq_wp (wpt hib (wpj (wpj (w3i hib h3' (wpt hib ?_)))))
        rw [h217]
        refine wpl (wpt hitb ?_)
        rw [et, t2, e2, et2, s2]
        refine wpe h375 (wpt hk0 (wpt hib (wpj (h111 (o := nI (100 * z.1 + z.2)) (fun z' => s414 hn hC hk (z20 z')) (fun z' => s413 hn hC hk (z18 z')) ?_))))
        refine wpt hz0 (wpt hib ?_)
        rw [show nI (100 * z.1 + z.2) - nI (100 * z.1 + z.2) / 100 * 100 = nI z.2 by rw [r100 (by omega), show (100 * z.1 + z.2) % 100 = z.2 by omega], show nI (100 * z.1 + z.2) / 100 = nI z.1 by rw [i100 (by omega), show (100 * z.1 + z.2) / 100 = z.1 by omega]]
        refine wpl (wpt hib (wpl (wpt hib (wpl (wpt hib (wpj ?_))))))
        change wp (if (nmR u b k z).1 211 b = 27 then _ else _) _
        rw [o]
        exact w3n hib (by simp (disch := first | omega | decide) only [↓neg1, nlit, rI, rL, rI2, rL1, nI_add, pk_mul, sbT, dvT, nmd, ixT, ↓ibT, ltT, ltF, leT, leF, eqT, eqF, nM_ltT, nM_ltF, nM_leT, nM_leF, nM_eqF, nM_eqF', nbT0, nbT1, oI_s, oI_n, natF, natT, nltT, nltF, nleT, nleF, ↓reduceIte, lgc, not_true_eq_false, not_false_eq_true, or_false, false_or, or_true, true_or, and_true, true_and, and_false, false_and, ne_eq, eq_self, or_self, and_self]) (by simp (disch := first | omega | decide) only [↓neg1, nlit, rI, rL, rI2, rL1, nI_add, pk_mul, sbT, dvT, nmd, ixT, ↓ibT, ltT, ltF, leT, leF, eqT, eqF, nM_ltT, nM_ltF, nM_leT, nM_leF, nM_eqF, nM_eqF', nbT0, nbT1, oI_s, oI_n, natF, natT, nltT, nltF, nleT, nleF, ↓reduceIte, lgc, not_true_eq_false, not_false_eq_true, or_false, false_or, or_true, true_or, and_true, true_and, and_false, false_and, ne_eq, eq_self, or_self, and_self, h211]) (by simp (disch := first | omega | decide) only [↓neg1, nlit, rI, rL, rI2, rL1, nI_add, pk_mul, sbT, dvT, nmd, ixT, ↓ibT, ltT, ltF, leT, leF, eqT, eqF, nM_ltT, nM_ltF, nM_leT, nM_leF, nM_eqF, nM_eqF', nbT0, nbT1, oI_s, oI_n, natF, natT, nltT, nltF, nleT, nleF, ↓reduceIte, lgc, not_true_eq_false, not_false_eq_true, or_false, false_or, or_true, true_or, and_true, true_and, and_false, false_and, ne_eq, eq_self, or_self, and_self, h211]) rfl
/-- one ACT, both -/
theorem nam_go {kc : Nat} (hn : 1000 ≤ n) (hM : M < 96) (ha : a < 1024) (hb : b < 3840) (hna : na ≤ 40) (ha0 : a0 + na ≤ 1024) (h120 : c.1 120 M = nI na) (h119 : c.1 119 M = nI a0) (h210 : u.1 210 M = nI na) (hlb : ∀ l, l < na → c.2 127 (a0 + l) = u.2 212 (40 * M + l)) (hLB : LBU u M na) (hL8 : L ≤ 8) (h208 : u.1 208 M = nI L) (hB : ENB u oc kc) (hoc : oc = ocn u) (hC : CCS c u) (hT : TKR c u K P V N) (h13 : u.1 174 13 = nI 0) (hX : ACX K P V N c u a b L U oc) : jw (d_287 n (nI M) (nI a) c) (d_416 n (nI M) (nI b) u) (NMX c u M a b) := by
  obtain ⟨op, ho, x1, x2, x3, ⟨x4, x5, x6, x7⟩, x8, ⟨o1, o2, o3, o4, o5, o6⟩⟩ := hX
  have elc : lcn u M = L := by
    unfold lcn
    rw [h208, ix_n (by omega)]
  have eac : acn u M = na := by
    unfold acn
    rw [h210, ix_n (by omega)]
  have eop : opn u b = op := by
    unfold opn
    rw [x2, ix_n (by omega)]
  have hB1 := hB.1
  have hB4 := hB.2.2.2
  obtain ⟨h12, hp⟩ := CCS_p hC
  have ox : op = 29 ∨ op = 30 → ∃ x y, x < ocn u ∧ y < eln u x ∧ x < 4 ∧ y < 12 ∧ u.1 214 b = nI x ∧ u.1 215 b = nI y ∧ c.1 123 a = nI x ∧ c.1 122 a = nI y := fun z => by
    obtain ⟨x, y, q1, q2, q3, q4, q5, q6⟩ := o6 z
    have := hB4 x q1
    exact ⟨x, y, by omega, q2, by omega, by omega, q3, q4, q5, q6⟩
  by_cases e1 : op = 27 ∨ op = 28 ∨ op = 29
  · obtain ⟨t, p1, p2⟩ := o5 e1
    rcases nam_l (n := n) (M := M) (a := a) (b := b) hn hM ha hb hna ha0 h120 h119 h210 hlb hLB hT h13 x1 x2 e1 p1 p2 x5 with ⟨l, l1, l2, l3, l4⟩ | ⟨z, l1, q, l2, l3⟩
    rotate_left
    · exact jw_of l1 l2 (Or.inr ⟨z, rfl, l3⟩)
    have f1 : ∀ A j, A ≠ 216 → (pI u 216 b (nI l)).1 A j = u.1 A j := fun A j z => by rw [rI, if_neg (by omega)]
    have f2 : ∀ A j, A ≠ 124 → (pI c 124 a (nI l)).1 A j = c.1 A j := fun A j z => by rw [rI, if_neg (by omega)]
    have g3 : (pI u 216 b (nI l)).1 216 b = nI l := by rw [rI, if_pos ⟨rfl, rfl⟩]
    have g5 : (pI c 124 a (nI l)).1 124 a = nI l := by rw [rI, if_pos ⟨rfl, rfl⟩]
    have g0 : (pI u 216 b (nI l)).2 = u.2 := rfl
    have g6 : (pI c 124 a (nI l)).2 = c.2 := rfl
    refine jw_of l3 l4 (Or.inl ⟨_, rfl, ?_, sx_pI sx_rfl (decide_eq_true (by omega)), sx_pI sx_rfl (decide_eq_true (by omega))⟩)
    generalize pI u 216 b (nI l) = q at f1 g3 g0
    generalize pI c 124 a (nI l) = d at f2 g5 g6
    have g1 : opn q b = op := by
      unfold opn
      rw [f1 _ _ (by omega), x2, ix_n (by omega)]
    have g2 : acn q M = na := by
      unfold acn
      rw [f1 _ _ (by omega), h210, ix_n (by omega)]
    refine ⟨op, ho, by rw [f2 _ _ (by omega)]; exact x1, by rw [f1 _ _ (by omega)]; exact x2, by rw [g6, g0]; exact x3, ⟨by rw [g5, g3], by rw [f2 _ _ (by omega)]; exact x6, by rw [f2 _ _ (by omega)]; exact x7⟩, by rw [f2 _ _ (by omega), f1 _ _ (by omega)]; exact x8, ?_⟩
    unfold OPR
    rw [g1, g2, g3, g0, g6]
    refine ⟨fun z => by omega, fun z => by omega, fun z => by omega, fun z => by omega, fun z => by omega, fun z => ?_, fun z => ⟨l, l1, rfl, l2⟩, fun z => by omega⟩
    obtain ⟨xo, yo, q1, q2, q3, q4, q5, q6, q7, q8⟩ := ox z
    have g4 : xN q b = xo := by
      unfold xN
      rw [f1 _ _ (by omega), q5, ix_n (by omega)]
    have g7 : yN q b = yo := by
      unfold yN
      rw [f1 _ _ (by omega), q6, ix_n (by omega)]
    have g8 : ocn q = ocn u := by
      unfold ocn
      rw [f1 _ _ (by omega)]
    have g9 : eln q xo = eln u xo := by
      unfold eln
      rw [f1 _ _ (by omega)]
    rw [g4, g7, g8, g9, f1 _ _ (by omega), f1 _ _ (by omega), f2 _ _ (by omega), f2 _ _ (by omega)]
    exact ⟨q1, q2, q5, q6, q7, q8⟩
  by_cases e2 : op = 18 ∨ op = 19 ∨ op = 20
  · obtain ⟨t, p1, p2, p3⟩ := o4 e2
    rcases nam_n (n := n) (M := M) (a := a) (b := b) hn ha hb hC hT h13 x1 x2 e2 p1 p2 p3 with ⟨k, z, ek, ez, l3, l4⟩ | ⟨z, l1, q, l2, l3⟩
    rotate_left
    · exact jw_of l1 l2 (Or.inr ⟨z, rfl, l3⟩)
    have hk : k < ccn u := (ff_some ek).1
    have hkn : u.2 200 k = V t := of_decide_eq_true (ff_some ek).2.1
    have f1 : ∀ A j, ¬ (A = 214 ∨ A = 215 ∨ A = 229) → (nmR u b k z).1 A j = u.1 A j := fun A j y => by
      unfold nmR
      rw [rI, if_neg (by omega), rI, if_neg (by omega), rI, if_neg (by omega)]
    have f2 : ∀ A j, ¬ (A = 122 ∨ A = 123) → (nmC u op z c a).1 A j = c.1 A j := fun A j y => by
      unfold nmC
      rw [rI, if_neg (by omega), rI, if_neg (by omega)]
    have g0 : (nmR u b k z).2 = u.2 := rfl
    have g6 : (nmC u op z c a).2 = c.2 := rfl
    have r14 : (nmR u b k z).1 214 b = nI z.1 := by
      unfold nmR
      rw [rI, if_neg (by omega), rI, if_neg (by omega), rI, if_pos ⟨rfl, rfl⟩]
    have r15 : (nmR u b k z).1 215 b = nI z.2 := by
      unfold nmR
      rw [rI, if_neg (by omega), rI, if_pos ⟨rfl, rfl⟩]
    have r29 : (nmR u b k z).1 229 b = nI k := by
      unfold nmR
      rw [rI, if_pos ⟨rfl, rfl⟩]
    have r23 : (nmC u op z c a).1 123 a = nI (if op = 20 then 100 * z.1 + 20 + 10 * z.2 else 100 * z.1 + 1 + z.2) := by
      unfold nmC
      rw [rI, if_neg (by omega), rI, if_pos ⟨rfl, rfl⟩]
    have r22 : (nmC u op z c a).1 122 a = if op = 20 then nI (pM u (8 * z.1 + z.2)) else 0 := by
      unfold nmC
      rw [rI, if_pos ⟨rfl, rfl⟩]
    have sd : sx (qNa a) c (nmC u op z c a) := sx_pI (sx_pI sx_rfl (decide_eq_true (by omega))) (decide_eq_true (by omega))
    have sq : sx (qNb b) u (nmR u b k z) := sx_pI (sx_pI (sx_pI sx_rfl (decide_eq_true (by omega))) (decide_eq_true (by omega))) (decide_eq_true (by omega))
    refine jw_of l3 l4 (Or.inl ⟨_, rfl, ?_, sd, sq⟩)
    generalize nmR u b k z = q at f1 g0 r14 r15 r29
    generalize nmC u op z c a = d at f2 g6 r23 r22
    have g1 : opn q b = op := by
      unfold opn
      rw [f1 _ _ (by omega), x2, ix_n (by omega)]
    have gcc : ccn q = ccn u := by
      unfold ccn
      rw [f1 _ _ (by omega)]
    have gfm : fM q = fM u := funext fun k => by
      unfold fM
      rw [f1 _ _ (by omega)]
    have gqm : qM q = qM u := funext fun k => by
      unfold qM
      rw [f1 _ _ (by omega)]
    have gpm : pM q = pM u := funext fun k => by
      unfold pM
      rw [f1 _ _ (by omega)]
    refine ⟨op, ho, by rw [f2 _ _ (by omega)]; exact x1, by rw [f1 _ _ (by omega)]; exact x2, by rw [g6, g0]; exact x3, ⟨by rw [f2 _ _ (by omega), f1 _ _ (by omega), x4, x5], by rw [f2 _ _ (by omega)]; exact x6, by rw [f2 _ _ (by omega)]; exact x7⟩, by rw [f2 _ _ (by omega), f1 _ _ (by omega)]; exact x8, ?_⟩
    obtain ⟨-, -, p24, -⟩ := p2
    obtain ⟨-, -, p34, -⟩ := p3
    have h216 : q.1 216 b = nM := by rw [f1 _ _ (by omega)]; exact x5
    by_cases e20 : op = 20
    · unfold nmZ at ez
      rw [if_pos e20] at ez r23 r22
      obtain ⟨z1, -, z3⟩ := nrM_ok hC hk ez
      have z4 := nrM_nm h12 hp hk ez
      have hq8 := (hC.1.2.2.2.2.1 z.1 z1).1
      have g4 : xN q b = z.1 := by
        unfold xN
        rw [r14, ix_n (by omega)]
      have g7 : yN q b = z.2 := by
        unfold yN
        rw [r15, ix_n (by omega)]
      unfold OPR
      rw [g1, g4, g7, gcc, gqm, gpm, g0, g6]
      exact ⟨fun y => by omega, fun y => by omega, fun y => by omega, fun y => by omega, fun _ => ⟨z1, z3, r14, r15, r23, r22, ⟨k, hk, r29, by rw [p24]; exact hkn.symm⟩, by rw [p34]; exact z4.symm⟩, fun y => by omega, fun y => by omega, fun _ => h216⟩
    · unfold nmZ at ez
      rw [if_neg e20] at ez r23 r22
      obtain ⟨z1, z3, z4⟩ := nrF_ok (t := 12) h12 hp hk ez
      have hq8 := (hC.1.2.2.2.1 z.1 z1).1
      have g4 : xN q b = z.1 := by
        unfold xN
        rw [r14, ix_n (by omega)]
      have g7 : yN q b = z.2 := by
        unfold yN
        rw [r15, ix_n (by omega)]
      unfold OPR
      rw [g1, g4, g7, gcc, gfm, g0, g6]
      exact ⟨fun y => by omega, fun y => by omega, fun y => by omega, fun _ => ⟨z1, z3, r14, r15, r23, ⟨k, hk, r29, by rw [p24]; exact hkn.symm⟩, by rw [p34]; exact z4.symm⟩, fun y => by omega, fun y => by omega, fun y => by omega, fun _ => h216⟩
  · obtain ⟨l1, l2⟩ := nam_0 (n := n) (M := M) ha hb x1 x2 (by omega) ho
    refine jw_of l1 l2 (Or.inl ⟨c, rfl, ⟨op, ho, x1, x2, x3, ⟨by rw [x4, x5], x6, x7⟩, x8, ?_⟩, sx_rfl, sx_rfl⟩)
    unfold OPR
    rw [eop, elc]
    refine ⟨o1, fun z => (o2 z).1, fun z => ?_, fun z => by omega, fun z => by omega, fun z => ?_, fun z => by omega, fun _ => x5⟩
    · obtain ⟨x, p1, p2, p3⟩ := o3 z
      have : xN u b = x := by
        unfold xN
        rw [p2, ix_n (by omega)]
      rw [this]
      exact ⟨p1, p2, p3⟩
    · obtain ⟨xo, yo, q1, q2, q3, q4, q5, q6, q7, q8⟩ := ox z
      have g4 : xN u b = xo := by
        unfold xN
        rw [q5, ix_n (by omega)]
      have g7 : yN u b = yo := by
        unfold yN
        rw [q6, ix_n (by omega)]
      rw [g4, g7]
      exact ⟨q1, q2, q5, q6, q7, q8⟩
end NSG
