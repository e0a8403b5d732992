/-! NAMES are settled: one ACT -/
section NST
variable {n i N k M a b a0 na op L U oc t : Nat} {c d u v w q : cS} {K P : Nat → Nat} {V : Nat → Int64} {x y : Int64}
theorem w3t {β : Type} {Q : β → Prop} {p q r : Prop} [Decidable p] [Decidable q] [Decidable r] {x y : Option β} (g : p ∨ q ∨ r) (h : wp x Q) : wp (if p then x else if q then x else if r then x else y) Q := by
  by_cases hp : p
  · exact wpt hp h
  by_cases hq : q
  · exact wpf hp (wpt hq h)
  exact wpf hp (wpf hq (wpt (by rcases g with z | z | z <;> first | exact z | exact absurd z hp | exact absurd z hq) h))
theorem w3i {β : Type} {Q : β → Prop} {s p q r : Prop} [Decidable s] [Decidable p] [Decidable q] [Decidable r] {x y : Option β} (hs : s) (g : p ∨ q ∨ r) (h : wp x Q) : wp (if p then x else if s then (if q then x else if s then (if r then x else y) else none) else none) Q := by
  by_cases hp : p
  · exact wpt hp h
  by_cases hq : q
  · exact wpf hp (wpt hs (wpt hq h))
  exact wpf hp (wpt hs (wpf hq (wpt hs (wpt (by rcases g with z | z | z <;> first | exact z | exact absurd z hp | exact absurd z hq) h))))
theorem w3n {β : Type} {Q : β → Prop} {s p q r : Prop} [Decidable s] [Decidable p] [Decidable q] [Decidable r] {x y : Option β} (hs : s) (hp : ¬ p) (hq : ¬ q) (hr : ¬ r) (h : wp y Q) : wp (if p then x else if s then (if q then x else if s then (if r then x else y) else none) else none) Q := wpf hp (wpt hs (wpf hq (wpt hs (wpf hr h))))
theorem s160 {z : Nat × Nat} (hn : 1000 ≤ n) (hC : CCS c u) (hk : k < ccn u) (hr : nrM u x 12 k = some z) : d_160 n (nI k) x c = some (nI (100 * z.1 + 20 + 10 * z.2)) := by
  rw [e160 hn hC hk, hr]
theorem s160n (hn : 1000 ≤ n) (hC : CCS c u) (hk : k < ccn u) (hr : nrM u x 12 k = none) : d_160 n (nI k) x c = some nM := by
  rw [e160 hn hC hk, hr]
theorem sd254 {z : Nat × Nat} (hn : 1000 ≤ n) (hC : CCS c u) (hk : k < ccn u) (hr : nrF u x 12 k = some z) : d_254 n (nI k) x c = some (nI (100 * z.1 + 1 + z.2)) := by
  rw [e254 hn hC hk, hr]
theorem sd254n (hn : 1000 ≤ n) (hC : CCS c u) (hk : k < ccn u) (hr : nrF u x 12 k = none) : d_254 n (nI k) x c = some nM := by
  rw [e254 hn hC hk, hr]
theorem s414 {z : Nat × Nat} (hn : 1000 ≤ n) (hC : CCS c u) (hk : k < ccn u) (hr : nrM u x 12 k = some z) : d_414 n (nI k) x u = some (nI (100 * z.1 + z.2)) := by
  rw [e414 hn AG_rfl hC hk, hr]
theorem s414n (hn : 1000 ≤ n) (hC : CCS c u) (hk : k < ccn u) (hr : nrM u x 12 k = none) : d_414 n (nI k) x u = some nM := by
  rw [e414 hn AG_rfl hC hk, hr]
theorem s413 {z : Nat × Nat} (hn : 1000 ≤ n) (hC : CCS c u) (hk : k < ccn u) (hr : nrF u x 12 k = some z) : d_413 n (nI k) x u = some (nI (100 * z.1 + z.2)) := by
  rw [e413 hn AG_rfl hC hk, hr]
theorem s413n (hn : 1000 ≤ n) (hC : CCS c u) (hk : k < ccn u) (hr : nrF u x 12 k = none) : d_413 n (nI k) x u = some nM := by
  rw [e413 hn AG_rfl hC hk, hr]
theorem nrM_nm {m : cS} (h12 : ccn m ≤ 12) (hp : PRS m (ccn m)) : ∀ {t k z}, k < ccn m → nrM m x t k = some z → m.2 206 (8 * z.1 + z.2) = x := by
  intro t
  induction t with
  | zero =>
    intro k z hk h
    unfold nrM upO at h
    cases h
  | succ t ih =>
    intro k z hk h
    unfold nrM upO at h
    cases hf : ff (fun j => decide (m.2 206 (8 * k + j) = x)) (qM m k) with
    | some j =>
      rw [hf] at h
      cases h
      exact of_decide_eq_true (ff_some hf).2.1
    | none =>
      rw [hf] at h
      change (par m k).bind _ = some z at h
      cases hd : par m k with
      | none =>
        rw [hd] at h
        cases h
      | some d =>
        rw [hd] at h
        refine ih (k := d) ?_ h
        unfold par at hd
        rcases hp k hk with e | ⟨d', hd', e⟩
        · rw [e, if_pos (by decide)] at hd
          cases hd
        · rw [e, if_neg (nI_pos (by omega)), ix_n (by omega)] at hd
          cases hd
          omega
/-- an ACT whose names are settled -/
def ACN (c u : cS) (M a b : Nat) : Prop := ∃ op, (14 ≤ op ∧ op ≤ 30) ∧ c.1 121 a = nI (200 + op) ∧ u.1 211 b = nI op ∧ c.2 127 a = u.2 212 b ∧ (c.1 124 a = u.1 216 b ∧ c.1 125 a = nM ∧ c.1 126 a = nI 0) ∧ c.1 130 a = u.1 213 b ∧ OPR c u M a b
def qNa (a A l : Nat) : Bool := decide (122 ≤ A ∧ A ≤ 124 ∧ l = a)
def qNb (b A l : Nat) : Bool := decide (((214 ≤ A ∧ A ≤ 216) ∨ A = 229) ∧ l = b)
def NMX (c u : cS) (M a b : Nat) (r : cS ⊕ cS) (q : cS) : Prop := (∃ d, r = .inl d ∧ ACN d q M a b ∧ sx (qNa a) c d ∧ sx (qNb b) u q) ∨ (∃ z, r = .inr z ∧ FLR c u z q)
theorem qNa_c (h : sx (qNa a) c d) : sx QRc c d := sx_wide h (fun A j z => by
  have := of_decide_eq_false z
  exact decide_eq_false (by omega))
theorem qNb_u (h : sx (qNb b) u v) : sx QRu u v := sx_wide h (fun A j z => by
  have := of_decide_eq_false z
  exact decide_eq_false (by omega))
/-- an ACT without names -/
theorem nam_0 (ha : a < 1024) (hb : b < 3840) (h121 : c.1 121 a = nI (200 + op)) (h211 : u.1 211 b = nI op) (ho : op < 18 ∨ (21 ≤ op ∧ op ≤ 26) ∨ op = 30) (hop : 14 ≤ op ∧ op ≤ 30) : d_287 n (nI M) (nI a) c = some (.inl c) ∧ d_416 n (nI M) (nI b) u = some u := by
  have hia : ib (nI a) 1024 := ib_n ha (by decide)
  have ea : ix (nI a) = a := ix_n (by omega)
  have hib : ib (nI b) 3840 := ib_n hb (by decide)
  have eb : ix (nI b) = b := ix_n (by omega)
  constructor
  · unfold d_287
    rw [ea, h121]
    exact eq_wp (wpt hia (wpl (wpj (wpj (wpf (by simp (disch := first | omega | decide) only [↓neg1, nlit, rI, rL, rI2, rL1, nI_add, pk_mul, sbT, dvT, nmd, ixT, ↓ibT, ltT, ltF, leT, leF, eqT, eqF, nM_ltT, nM_ltF, nM_leT, nM_leF, nM_eqF, nM_eqF', nbT0, nbT1, oI_s, oI_n, natF, natT, nltT, nltF, nleT, nleF, ↓reduceIte, lgc, not_true_eq_false, not_false_eq_true, or_false, false_or, or_true, true_or, and_true, true_and, and_false, false_and, ne_eq, eq_self, or_self, and_self]) (wpf (by simp (disch := first | omega | decide) only [↓neg1, nlit, rI, rL, rI2, rL1, nI_add, pk_mul, sbT, dvT, nmd, ixT, ↓ibT, ltT, ltF, leT, leF, eqT, eqF, nM_ltT, nM_ltF, nM_leT, nM_leF, nM_eqF, nM_eqF', nbT0, nbT1, oI_s, oI_n, natF, natT, nltT, nltF, nleT, nleF, ↓reduceIte, lgc, not_true_eq_false, not_false_eq_true, or_false, false_or, or_true, true_or, and_true, true_and, and_false, false_and, ne_eq, eq_self, or_self, and_self]) (wpf (by simp (disch := first | omega | decide) only [↓neg1, nlit, rI, rL, rI2, rL1, nI_add, pk_mul, sbT, dvT, nmd, ixT, ↓ibT, ltT, ltF, leT, leF, eqT, eqF, nM_ltT, nM_ltF, nM_leT, nM_leF, nM_eqF, nM_eqF', nbT0, nbT1, oI_s, oI_n, natF, natT, nltT, nltF, nleT, nleF, ↓reduceIte, lgc, not_true_eq_false, not_false_eq_true, or_false, false_or, or_true, true_or, and_true, true_and, and_false, false_and, ne_eq, eq_self, or_self, and_self]) (wpj (wpj (wpf (by simp (disch := first | omega | decide) only [↓neg1, nlit, rI, rL, rI2, rL1, nI_add, pk_mul, sbT, dvT, nmd, ixT, ↓ibT, ltT, ltF, leT, leF, eqT, eqF, nM_ltT, nM_ltF, nM_leT, nM_leF, nM_eqF, nM_eqF', nbT0, nbT1, oI_s, oI_n, natF, natT, nltT, nltF, nleT, nleF, ↓reduceIte, lgc, not_true_eq_false, not_false_eq_true, or_false, false_or, or_true, true_or, and_true, true_and, and_false, false_and, ne_eq, eq_self, or_self, and_self]) (wpf (by simp (disch := first | omega | decide) only [↓neg1, nlit, rI, rL, rI2, rL1, nI_add, pk_mul, sbT, dvT, nmd, ixT, ↓ibT, ltT, ltF, leT, leF, eqT, eqF, nM_ltT, nM_ltF, nM_leT, nM_leF, nM_eqF, nM_eqF', nbT0, nbT1, oI_s, oI_n, natF, natT, nltT, nltF, nleT, nleF, ↓reduceIte, lgc, not_true_eq_false, not_false_eq_true, or_false, false_or, or_true, true_or, and_true, true_and, and_false, false_and, ne_eq, eq_self, or_self, and_self]) (wpf (by simp (disch := first | omega | decide) only [↓neg1, nlit, rI, rL, rI2, rL1, nI_add, pk_mul, sbT, dvT, nmd, ixT, ↓ibT, ltT, ltF, leT, leF, eqT, eqF, nM_ltT, nM_ltF, nM_leT, nM_leF, nM_eqF, nM_eqF', nbT0, nbT1, oI_s, oI_n, natF, natT, nltT, nltF, nleT, nleF, ↓reduceIte, lgc, not_true_eq_false, not_false_eq_true, or_false, false_or, or_true, true_or, and_true, true_and, and_false, false_and, ne_eq, eq_self, or_self, and_self]) rfl))))))))))))
  · unfold d_416
    rw [eb, h211]
    refine eq_wp (wpt hib (wpj (wpj (w3n hib (by simp (disch := first | omega | decide) only [↓neg1, nlit, rI, rL, rI2, rL1, nI_add, pk_mul, sbT, dvT, nmd, ixT, ↓ibT, ltT, ltF, leT, leF, eqT, eqF, nM_ltT, nM_ltF, nM_leT, nM_leF, nM_eqF, nM_eqF', nbT0, nbT1, oI_s, oI_n, natF, natT, nltT, nltF, nleT, nleF, ↓reduceIte, lgc, not_true_eq_false, not_false_eq_true, or_false, false_or, or_true, true_or, and_true, true_and, and_false, false_and, ne_eq, eq_self, or_self, and_self]) (by simp (disch := first | omega | decide) only [↓neg1, nlit, rI, rL, rI2, rL1, nI_add, pk_mul, sbT, dvT, nmd, ixT, ↓ibT, ltT, ltF, leT, leF, eqT, eqF, nM_ltT, nM_ltF, nM_leT, nM_leF, nM_eqF, nM_eqF', nbT0, nbT1, oI_s, oI_n, natF, natT, nltT, nltF, nleT, nleF, ↓reduceIte, lgc, not_true_eq_false, not_false_eq_true, or_false, false_or, or_true, true_or, and_true, true_and, and_false, false_and, ne_eq, eq_self, or_self, and_self]) (by simp (disch := first | omega | decide) only [↓neg1, nlit, rI, rL, rI2, rL1, nI_add, pk_mul, sbT, dvT, nmd, ixT, ↓ibT, ltT, ltF, leT, leF, eqT, eqF, nM_ltT, nM_ltF, nM_leT, nM_leF, nM_eqF, nM_eqF', nbT0, nbT1, oI_s, oI_n, natF, natT, nltT, nltF, nleT, nleF, ↓reduceIte, lgc, not_true_eq_false, not_false_eq_true, or_false, false_or, or_true, true_or, and_true, true_and, and_false, false_and, ne_eq, eq_self, or_self, and_self]) (wpt hib (wpj ?_))))))
    rw [h211]
    exact w3n hib (by simp (disch := first | omega | decide) only [↓neg1, nlit, rI, rL, rI2, rL1, nI_add, pk_mul, sbT, dvT, nmd, ixT, ↓ibT, ltT, ltF, leT, leF, eqT, eqF, nM_ltT, nM_ltF, nM_leT, nM_leF, nM_eqF, nM_eqF', nbT0, nbT1, oI_s, oI_n, natF, natT, nltT, nltF, nleT, nleF, ↓reduceIte, lgc, not_true_eq_false, not_false_eq_true, or_false, false_or, or_true, true_or, and_true, true_and, and_false, false_and, ne_eq, eq_self, or_self, and_self]) (by simp (disch := first | omega | decide) only [↓neg1, nlit, rI, rL, rI2, rL1, nI_add, pk_mul, sbT, dvT, nmd, ixT, ↓ibT, ltT, ltF, leT, leF, eqT, eqF, nM_ltT, nM_ltF, nM_leT, nM_leF, nM_eqF, nM_eqF', nbT0, nbT1, oI_s, oI_n, natF, natT, nltT, nltF, nleT, nleF, ↓reduceIte, lgc, not_true_eq_false, not_false_eq_true, or_false, false_or, or_true, true_or, and_true, true_and, and_false, false_and, ne_eq, eq_self, or_self, and_self]) (by simp (disch := first | omega | decide) only [↓neg1, nlit, rI, rL, rI2, rL1, nI_add, pk_mul, sbT, dvT, nmd, ixT, ↓ibT, ltT, ltF, leT, leF, eqT, eqF, nM_ltT, nM_ltF, nM_leT, nM_leF, nM_eqF, nM_eqF', nbT0, nbT1, oI_s, oI_n, natF, natT, nltT, nltF, nleT, nleF, ↓reduceIte, lgc, not_true_eq_false, not_false_eq_true, or_false, false_or, or_true, true_or, and_true, true_and, and_false, false_and, ne_eq, eq_self, or_self, and_self]) rfl
/-- the LABELS, in the reference -/
def laL (n : Nat) (a1 a2 : Int32) (s6 : Int32 × cS) : Option ((Int32 × cS) ⊕ cS) :=
        if ib a1 96 then
        if (s6.2.1 210 (ix a1)) ≤ s6.1 then
          some (.inr s6.2)
        else
          if ib ((40 * a1) + s6.1) 3840 then
          if ib a2 3840 then
          if ib (s6.2.1 218 (ix a2)) 4001 then
          jn (fun p11 : cS =>
            lt (s6.1 + 1 : Int32) (fun v13 =>
            some (.inl (v13, p11))))
          (fun j241 =>
          if (lg_cmp (s6.2.2 212 (ix ((40 * a1) + s6.1))) (s6.2.2 180 (ix (s6.2.1 218 (ix a2))))) = 0 then
            if ib a2 3840 then
            lt (pI s6.2 216 (ix a2) s6.1) (fun c16 =>
            j241 c16)
            else none
          else
            j241 s6.2)
          else none
          else none
          else none
        else none
def laS (u : cS) (M b j : Nat) (x : Int64) : cS := (lbX u M j x).elim u (fun l => pI u 216 b (nI l))
theorem la_r (hn : 100 ≤ n) (hM : M < 96) (hna : na ≤ 40) (hb : b < 3840) (h210 : u.1 210 M = nI na) (h218 : u.1 218 b = nI t) (ht : t ≤ 4000) (h180 : u.2 180 t = x) (hx : x ≠ 0) (hL : LBU u M na) : whl (laL n (nI M) (nI b)) n (0, u) = some (laS u M b na x) := by
  have hia : ib (nI M) 96 := ib_n hM (by decide)
  have ea : ix (nI M) = M := ix_n (by omega)
  have hib : ib (nI b) 3840 := ib_n hb (by decide)
  have eb : ix (nI b) = b := ix_n (by omega)
  have e8 : ∀ j, (40 : Int32) * nI M + nI j = nI (40 * M + j) := fun j => by rw [show (40 : Int32) = nI 40 from rfl, pk_mul, nI_add]
  have hst : ∀ j, (laS u M b j x).1 210 M = nI na ∧ (laS u M b j x).1 218 b = nI t ∧ (laS u M b j x).2 = u.2 := fun j => by
    unfold laS
    cases lbX u M j x with
    | none => exact ⟨h210, h218, rfl⟩
    | some l =>
      show (pI u 216 b (nI l)).1 210 M = _ ∧ (pI u 216 b (nI l)).1 218 b = _ ∧ _
      rw [rI, if_neg (by omega), rI, if_neg (by omega)]
      exact ⟨h210, h218, rfl⟩
  refine eq_wp (whl_cnt (fun j (st : Int32 × cS) => st.1 = nI j ∧ st.2 = laS u M b j x) na ?_ ?_ (by omega) ⟨rfl, rfl⟩)
  · rintro j ⟨s, w⟩ hj ⟨g1, g2⟩
    dsimp only at g1 g2
    subst g1
    obtain ⟨w1, w2, w3⟩ := hst j
    rw [← g2] at w1 w2 w3
    unfold laL
    dsimp only
    rw [ea, w1, e8, eb, w2, show ix (nI t) = t from ix_n (by omega), show ix (nI (40 * M + j)) = 40 * M + j from ix_n (by omega), w3, h180]
    refine wpt hia (wpf (by simp (disch := first | omega | decide) only [↓neg1, nlit, rI, rL, rI2, rL1, nI_add, pk_mul, sbT, dvT, nmd, ixT, ↓ibT, ltT, ltF, leT, leF, eqT, eqF, nM_ltT, nM_ltF, nM_leT, nM_leF, nM_eqF, nM_eqF', nbT0, nbT1, oI_s, oI_n, natF, natT, nltT, nltF, nleT, nleF, ↓reduceIte, lgc, not_true_eq_false, not_false_eq_true, or_false, false_or, or_true, true_or, and_true, true_and, and_false, false_and, ne_eq, eq_self, or_self, and_self]) (wpt (ib_n (by omega) (by decide)) (wpt hib (wpt (ib_n (by omega) (by decide)) (wpj ?_)))))
    have hs : lbX u M (j + 1) x = match lbX u M j x with
        | some l => some l
        | none => if decide (u.2 212 (40 * M + j) = x) = true then some j else none := ff_sc
    by_cases e : u.2 212 (40 * M + j) = x
    · have hj0 : lbX u M na x = some j := by
        rcases hL j hj with z | z
        · rw [e] at z
          exact absurd z hx
        · rw [e] at z
          exact z
      have hn0 : lbX u M j x = none := ff_no (fun l hl => (ff_some hj0).2.2 l hl)
      refine wpt (by rw [e]; exact lg_self) (wpt hib (wpl (wpl ⟨nI_1 j, ?_⟩)))
      show pI w 216 b (nI j) = _
      rw [hn0] at hs
      dsimp only at hs
      rw [if_pos (decide_eq_true e)] at hs
      unfold laS
      rw [hs, g2]
      unfold laS
      rw [hn0]
      rfl
    · refine wpf (fun z => e (lg_eq z)) (wpl ⟨nI_1 j, ?_⟩)
      show w = _
      rw [g2]
      unfold laS
      rw [hs]
      cases ed : lbX u M j x with
      | some l => rfl
      | none =>
        dsimp only
        rw [if_neg (show ¬ decide (u.2 212 (40 * M + j) = x) = true by rw [decide_eq_false e]; decide)]
  · rintro ⟨s, w⟩ ⟨g1, g2⟩
    dsimp only at g1 g2
    subst g1
    obtain ⟨w1, w2, w3⟩ := hst na
    rw [← g2] at w1
    unfold laL
    dsimp only
    rw [ea, w1]
    exact wpt hia (wpt (by simp (disch := first | omega | decide) only [↓neg1, nlit, rI, rL, rI2, rL1, nI_add, pk_mul, sbT, dvT, nmd, ixT, ↓ibT, ltT, ltF, leT, leF, eqT, eqF, nM_ltT, nM_ltF, nM_leT, nM_leF, nM_eqF, nM_eqF', nbT0, nbT1, oI_s, oI_n, natF, natT, nltT, nltF, nleT, nleF, ↓reduceIte, lgc, not_true_eq_false, not_false_eq_true, or_false, false_or, or_true, true_or, and_true, true_and, and_false, false_and, ne_eq, eq_self, or_self, and_self]) (wp_of rfl g2))
end NST
