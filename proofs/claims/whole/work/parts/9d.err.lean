/-! FLOW: ERRORS, the class's -/
def mBb (m : cS) (o a b : Nat) : Bool := decide (m.1 184 ((12 * o + a) * 12 + b) = 1)
theorem mBb_t {m : cS} {o a b : Nat} : mBb m o a b = true ↔ mB m o a b := decide_eq_true_iff
def mtb (m : cS) (M : Nat) : Bool := decide (M / 8 < ccn m ∧ M % 8 < qM m (M / 8))
theorem mtb_t {m : cS} {M : Nat} : mtb m M = true ↔ isMt m M := decide_eq_true_iff
def wnt (m : cS) (b : Nat) : Nat := if opn m b = 20 then pM m (8 * xN m b + yN m b) else if opn m b = 19 ∨ opn m b = 21 then 1 else 0
def wtp (m : cS) (M b k : Nat) : Nat := if opn m b = 21 then 100 * (M / 8) + 20 + 10 * (M % 8) else if opn m b = 20 then 100 * xN m b + 20 + 10 * yN m b + 1 + k else 100 * xN m b + 1 + yN m b
def wts (m : cS) (b k : Nat) : Nat := 8 + dpn m b - wnt m b + k
def erK (m : cS) (o : Nat) (K : Nat → Nat) (M b i : Nat) (f : Nat → Nat) : Nat → List (Nat × Nat × Nat × Nat × Nat)
  | 0 => []
  | k + 1 => erK m o K M b i f k ++ (if mBb m o (f (wts m b k)) (K (wtp m M b k)) then [] else [(M, i, k, f (wts m b k), K (wtp m M b k))])
def erX (m : cS) (o : Nat) (K : Nat → Nat) (X : Nat → Option (Nat → Nat)) (M i : Nat) : List (Nat × Nat × Nat × Nat × Nat) :=
  match X i with
  | none => []
  | some f => erK m o K M (40 * M + i) i f (wnt m (40 * M + i))
def erI (m : cS) (o : Nat) (K : Nat → Nat) (X : Nat → Option (Nat → Nat)) (M : Nat) : Nat → List (Nat × Nat × Nat × Nat × Nat)
  | 0 => []
  | i + 1 => erI m o K X M i ++ erX m o K X M i
def erM (m : cS) (o : Nat) (K : Nat → Nat) (XX : Nat → Nat → Option (Nat → Nat)) : Nat → List (Nat × Nat × Nat × Nat × Nat)
  | 0 => []
  | M + 1 => erM m o K XX M ++ (if mtb m M then erI m o K (XX M) M (acn m M) else [])
def wI (m : cS) (M : Nat) : Nat → Nat
  | 0 => 0
  | i + 1 => wI m M i + wnt m (40 * M + i)
def wM (m : cS) : Nat → Nat
  | 0 => 0
  | M + 1 => wM m M + (if mtb m M then wI m M (acn m M) else 0)
/-- no more ERRORS than there is room for -/
def WB (m : cS) : Prop := wM m 96 ≤ 2048
theorem erK_len {m : cS} {o M b i : Nat} {K f : Nat → Nat} : ∀ k, (erK m o K M b i f k).length ≤ k
  | 0 => Nat.le_refl _
  | k + 1 => by
    have := erK_len (m := m) (o := o) (M := M) (b := b) (i := i) (K := K) (f := f) k
    unfold erK
    rw [List.length_append]
    split
    · simp only [List.length_nil]
      omega
    · simp only [List.length_cons, List.length_nil]
      omega
theorem erX_len {m : cS} {o M i : Nat} {K : Nat → Nat} {X : Nat → Option (Nat → Nat)} : (erX m o K X M i).length ≤ wnt m (40 * M + i) := by
  unfold erX
  split
  · exact Nat.zero_le _
  · exact erK_len _
theorem erI_len {m : cS} {o M : Nat} {K : Nat → Nat} {X : Nat → Option (Nat → Nat)} : ∀ i, (erI m o K X M i).length ≤ wI m M i
  | 0 => Nat.le_refl _
  | i + 1 => by
    have := erI_len (m := m) (o := o) (M := M) (K := K) (X := X) i
    have h2 := erX_len (m := m) (o := o) (M := M) (K := K) (X := X) (i := i)
    unfold erI wI
    rw [List.length_append]
    omega
theorem erM_len {m : cS} {o : Nat} {K : Nat → Nat} {XX : Nat → Nat → Option (Nat → Nat)} : ∀ M, (erM m o K XX M).length ≤ wM m M
  | 0 => Nat.le_refl _
  | M + 1 => by
    have := erM_len (m := m) (o := o) (K := K) (XX := XX) M
    have h2 := erI_len (m := m) (o := o) (M := M) (K := K) (X := XX M) (acn m M)
    unfold erM wM
    rw [List.length_append]
    split
    · omega
    · simp only [List.length_nil]
      omega
theorem wI_mono {m : cS} {M i : Nat} : ∀ j, i ≤ j → wI m M i ≤ wI m M j
  | 0, h => by
    rw [Nat.le_zero.mp h]
    exact Nat.le_refl _
  | j + 1, h => by
    by_cases e : i = j + 1
    · rw [e]
      exact Nat.le_refl _
    · have := wI_mono (m := m) (M := M) (i := i) j (by omega)
      show _ ≤ wI m M j + _
      omega
theorem wM_mono {m : cS} {i : Nat} : ∀ j, i ≤ j → wM m i ≤ wM m j
  | 0, h => by
    rw [Nat.le_zero.mp h]
    exact Nat.le_refl _
  | j + 1, h => by
    by_cases e : i = j + 1
    · rw [e]
      exact Nat.le_refl _
    · have := wM_mono (m := m) (i := i) j (by omega)
      show _ ≤ wM m j + _
      omega
theorem WB_at {m : cS} {M i k : Nat} (h : WB m) (hM : isMt m M) (hM2 : M < 96) (hi : i < acn m M) (hk : k ≤ wnt m (40 * M + i)) : wM m M + wI m M i + k ≤ 2048 := by
  have h1 := wM_mono (m := m) (i := M + 1) 96 (by omega)
  have h2 := wI_mono (m := m) (M := M) (i := i + 1) (acn m M) (by omega)
  have h3 : wM m (M + 1) = wM m M + wI m M (acn m M) := by
    show wM m M + (if mtb m M then _ else 0) = _
    rw [if_pos (mtb_t.mpr hM)]
  have h4 : wI m M (i + 1) = wI m M i + wnt m (40 * M + i) := rfl
  unfold WB at h
  omega
/-- the class's list -/
def ERC (c : cS) (L : List (Nat × Nat × Nat × Nat × Nat)) : Prop := c.1 150 6 = nI L.length ∧ ∀ j x, L[j]? = some x → c.1 152 j = nI (x.1 * 160 + x.2.1 * 4 + x.2.2.1)
theorem ERC_add {c : cS} {L : List (Nat × Nat × Nat × Nat × Nat)} {x : Nat × Nat × Nat × Nat × Nat} (h : ERC c L) : ERC (pI (pI c 150 6 (nI (L.length + 1))) 152 L.length (nI (x.1 * 160 + x.2.1 * 4 + x.2.2.1))) (L ++ [x]) := by
  refine ⟨?_, fun j y hy => ?_⟩
  · rw [rI, if_neg (by omega), rI, if_pos ⟨rfl, rfl⟩, List.length_append]
    rfl
  · rw [rI]
    by_cases e : j = L.length
    · subst e
      rw [List.getElem?_append_right (Nat.le_refl _), Nat.sub_self] at hy
      cases hy
      rw [if_pos ⟨rfl, rfl⟩]
    · rw [if_neg (fun z => e z.2), rI, if_neg (by omega)]
      have hj : j < (L ++ [x]).length := (List.getElem?_eq_some_iff.mp hy).1
      rw [List.length_append] at hj
      have hj2 : j < L.length + 1 := hj
      rw [List.getElem?_append_left (by omega)] at hy
      exact h.2 j y hy
def qEr (a i : Nat) : Bool := decide ((a = 150 ∧ i = 6) ∨ a = 152)
theorem nC_Er : nC qEr := ⟨fun a i h1 h2 h3 => decide_eq_false (by omega), fun i h => decide_eq_false (by omega)⟩
section ERRS
variable {n o M i k a : Nat} {c m u : cS}
theorem e168 (hT : MTS c m) (hM : isMt m M) (hi : i < acn m M) (ha : a = fa c M + i) : d_168 n (nI a) c = some (nI (wnt m (40 * M + i))) := by
  have hac := MTS_ac hT hM hi
  have hmt := (hT.2.1 M hM).1.2.2.2.2.2.2.2.2
  have hop := hac.1
  have c121 := hac.2.2.1
  have hR := hac.2.2.2.2.2.2.1
  rw [← ha] at c121 hR
  refine eq_wp ?_
  unfold d_168
  by_cases e : opn m (40 * M + i) = 20
  · have c122 := (hR.2.2.2.2.1 e).2.2.2.2.2.1
    rw [show wnt m (40 * M + i) = pM m (8 * xN m (40 * M + i) + yN m (40 * M + i)) from if_pos e]
    (try dsimp only); repeat (first | with_reducible refine wpl ?_ | with_reducible refine wpj ?_ | with_reducible refine wpSl ?_ | with_reducible refine wpSr ?_ | with_reducible refine wpS ?_ | ((with_reducible refine wpt ?_ ?_); · simp (disch := first | omega | decide) only [↓neg1, nlit, rI, rL, rI2, rL1, nI_add, pk_mul, sbT, dvT, nmd, ixT, ↓ibT, ltT, ltF, leT, leF, eqT, eqF, nM_ltT, nM_ltF, nM_leT, nM_leF, nM_eqF, nM_eqF', nbT0, nbT1, oI_s, oI_n, natF, natT, nltT, nltF, nleT, nleF, ↓reduceIte, lgc, not_true_eq_false, not_false_eq_true, or_false, false_or, or_true, true_or, and_true, true_and, and_false, false_and, ne_eq, eq_self, or_self, and_self, c121, e, c122]; done) | ((with_reducible refine wpf ?_ ?_); · simp (disch := first | omega | decide) only [↓neg1, nlit, rI, rL, rI2, rL1, nI_add, pk_mul, sbT, dvT, nmd, ixT, ↓ibT, ltT, ltF, leT, leF, eqT, eqF, nM_ltT, nM_ltF, nM_leT, nM_leF, nM_eqF, nM_eqF', nbT0, nbT1, oI_s, oI_n, natF, natT, nltT, nltF, nleT, nleF, ↓reduceIte, lgc, not_true_eq_false, not_false_eq_true, or_false, false_or, or_true, true_or, and_true, true_and, and_false, false_and, ne_eq, eq_self, or_self, and_self, c121, e, c122]; done))
    rw [ix_n (by omega)]
    exact c122
  · by_cases e2 : opn m (40 * M + i) = 19
    · rw [show wnt m (40 * M + i) = 1 from (if_neg e).trans (if_pos (Or.inl e2))]
      (try dsimp only); repeat (first | with_reducible refine wpl ?_ | with_reducible refine wpj ?_ | with_reducible refine wpSl ?_ | with_reducible refine wpSr ?_ | with_reducible refine wpS ?_ | ((with_reducible refine wpt ?_ ?_); · simp (disch := first | omega | decide) only [↓neg1, nlit, rI, rL, rI2, rL1, nI_add, pk_mul, sbT, dvT, nmd, ixT, ↓ibT, ltT, ltF, leT, leF, eqT, eqF, nM_ltT, nM_ltF, nM_leT, nM_leF, nM_eqF, nM_eqF', nbT0, nbT1, oI_s, oI_n, natF, natT, nltT, nltF, nleT, nleF, ↓reduceIte, lgc, not_true_eq_false, not_false_eq_true, or_false, false_or, or_true, true_or, and_true, true_and, and_false, false_and, ne_eq, eq_self, or_self, and_self, c121, e2]; done) | ((with_reducible refine wpf ?_ ?_); · simp (disch := first | omega | decide) only [↓neg1, nlit, rI, rL, rI2, rL1, nI_add, pk_mul, sbT, dvT, nmd, ixT, ↓ibT, ltT, ltF, leT, leF, eqT, eqF, nM_ltT, nM_ltF, nM_leT, nM_leF, nM_eqF, nM_eqF', nbT0, nbT1, oI_s, oI_n, natF, natT, nltT, nltF, nleT, nleF, ↓reduceIte, lgc, not_true_eq_false, not_false_eq_true, or_false, false_or, or_true, true_or, and_true, true_and, and_false, false_and, ne_eq, eq_self, or_self, and_self, c121, e2]; done))
      rfl
    · by_cases e3 : opn m (40 * M + i) = 21
      · rw [show wnt m (40 * M + i) = 1 from (if_neg e).trans (if_pos (Or.inr e3))]
        (try dsimp only); repeat (first | with_reducible refine wpl ?_ | with_reducible refine wpj ?_ | with_reducible refine wpSl ?_ | with_reducible refine wpSr ?_ | with_reducible refine wpS ?_ | ((with_reducible refine wpt ?_ ?_); · simp (disch := first | omega | decide) only [↓neg1, nlit, rI, rL, rI2, rL1, nI_add, pk_mul, sbT, dvT, nmd, ixT, ↓ibT, ltT, ltF, leT, leF, eqT, eqF, nM_ltT, nM_ltF, nM_leT, nM_leF, nM_eqF, nM_eqF', nbT0, nbT1, oI_s, oI_n, natF, natT, nltT, nltF, nleT, nleF, ↓reduceIte, lgc, not_true_eq_false, not_false_eq_true, or_false, false_or, or_true, true_or, and_true, true_and, and_false, false_and, ne_eq, eq_self, or_self, and_self, c121, e3]; done) | ((with_reducible refine wpf ?_ ?_); · simp (disch := first | omega | decide) only [↓neg1, nlit, rI, rL, rI2, rL1, nI_add, pk_mul, sbT, dvT, nmd, ixT, ↓ibT, ltT, ltF, leT, leF, eqT, eqF, nM_ltT, nM_ltF, nM_leT, nM_leF, nM_eqF, nM_eqF', nbT0, nbT1, oI_s, oI_n, natF, natT, nltT, nltF, nleT, nleF, ↓reduceIte, lgc, not_true_eq_false, not_false_eq_true, or_false, false_or, or_true, true_or, and_true, true_and, and_false, false_and, ne_eq, eq_self, or_self, and_self, c121, e3]; done))
        rfl
      · rw [show wnt m (40 * M + i) = 0 from (if_neg e).trans (if_neg (fun z => z.elim e2 e3))]
        (try dsimp only); repeat (first | with_reducible refine wpl ?_ | with_reducible refine wpj ?_ | with_reducible refine wpSl ?_ | with_reducible refine wpSr ?_ | with_reducible refine wpS ?_ | ((with_reducible refine wpt ?_ ?_); · simp (disch := first | omega | decide) only [↓neg1, nlit, rI, rL, rI2, rL1, nI_add, pk_mul, sbT, dvT, nmd, ixT, ↓ibT, ltT, ltF, leT, leF, eqT, eqF, nM_ltT, nM_ltF, nM_leT, nM_leF, nM_eqF, nM_eqF', nbT0, nbT1, oI_s, oI_n, natF, natT, nltT, nltF, nleT, nleF, ↓reduceIte, lgc, not_true_eq_false, not_false_eq_true, or_false, false_or, or_true, true_or, and_true, true_and, and_false, false_and, ne_eq, eq_self, or_self, and_self, c121]; done) | ((with_reducible refine wpf ?_ ?_); · simp (disch := first | omega | decide) only [↓neg1, nlit, rI, rL, rI2, rL1, nI_add, pk_mul, sbT, dvT, nmd, ixT, ↓ibT, ltT, ltF, leT, leF, eqT, eqF, nM_ltT, nM_ltF, nM_leT, nM_leF, nM_eqF, nM_eqF', nbT0, nbT1, oI_s, oI_n, natF, natT, nltT, nltF, nleT, nleF, ↓reduceIte, lgc, not_true_eq_false, not_false_eq_true, or_false, false_or, or_true, true_or, and_true, true_and, and_false, false_and, ne_eq, eq_self, or_self, and_self, c121]; done))
        rfl
/-- where a wanted MARK is told -/
theorem wtp_P (hC : CCS c m) (hM : isMt m M) (hR : OPR c m M a (40 * M + i)) (hk : k < wnt m (40 * M + i)) : ∃ s, isP m (wtp m M (40 * M + i) k) s ∧ 1 ≤ s := by
  unfold wnt at hk
  unfold wtp
  by_cases e : opn m (40 * M + i) = 20
  · rw [if_pos e] at hk
    rw [if_neg (by omega), if_pos e]
    have h := hR.2.2.2.2.1 e
    exact ⟨3, place_p hC h.1 h.2.1 hk, by omega⟩
  · rw [if_neg e] at hk
    by_cases e2 : opn m (40 * M + i) = 21
    · rw [if_pos e2]
      exact ⟨2, place_m hC hM.1 hM.2, by omega⟩
    · rw [if_neg e2, if_neg e]
      by_cases e3 : opn m (40 * M + i) = 19
      · have h := hR.2.2.2.1 (Or.inr e3)
        exact ⟨1, place_f hC h.1 h.2.1, by omega⟩
      · rw [if_neg (by omega)] at hk
        omega
theorem wnt_tk (hk : 0 < wnt m (40 * M + i)) : wnt m (40 * M + i) = tkn m (40 * M + i) := by
  unfold wnt at *
  unfold tkn
  by_cases e : opn m (40 * M + i) = 20
  · rw [if_pos e, if_pos e]
  · rw [if_neg e, if_neg e]
    rw [if_neg e] at hk
    by_cases e2 : opn m (40 * M + i) = 19
    · rw [if_pos (Or.inl e2), e2]
      rfl
    · by_cases e3 : opn m (40 * M + i) = 21
      · rw [if_pos (Or.inr e3), e3]
        rfl
      · rw [if_neg (by omega)] at hk
        omega
theorem wts_b (hr : RCH m M i) (hk : k < wnt m (40 * M + i)) : 8 ≤ wts m (40 * M + i) k ∧ wts m (40 * M + i) k < 8 + dpn m (40 * M + i) ∧ wnt m (40 * M + i) ≤ dpn m (40 * M + i) := by
  have h1 := wnt_tk (m := m) (M := M) (i := i) (by omega)
  have h2 := hr.2.1
  unfold wts
  omega
theorem e169 (hT : MTS c m) (hC : CCS c m) (hM : isMt m M) (hi : i < acn m M) (ha : a = fa c M + i) (hk : k < wnt m (40 * M + i)) : d_169 n (nI M) (nI a) (nI k) c = some (nI (wtp m M (40 * M + i) k)) := by
  have hac := MTS_ac hT hM hi
  have hmt := (hT.2.1 M hM).1.2.2.2.2.2.2.2.2
  have hop := hac.1
  have c121 := hac.2.2.1
  have hR := hac.2.2.2.2.2.2.1
  rw [← ha] at c121 hR
  refine eq_wp ?_
  unfold d_169
  have hM8 : M = M / 8 * 8 + M % 8 := by omega
  by_cases e3 : opn m (40 * M + i) = 21
  · rw [show wtp m M (40 * M + i) k = 100 * (M / 8) + 20 + 10 * (M % 8) from if_pos e3]
    (try dsimp only); repeat (first | with_reducible refine wpl ?_ | with_reducible refine wpj ?_ | with_reducible refine wpSl ?_ | with_reducible refine wpSr ?_ | with_reducible refine wpS ?_ | ((with_reducible refine wpt ?_ ?_); · simp (disch := first | omega | decide) only [↓neg1, nlit, rI, rL, rI2, rL1, nI_add, pk_mul, sbT, dvT, nmd, ixT, ↓ibT, ltT, ltF, leT, leF, eqT, eqF, nM_ltT, nM_ltF, nM_leT, nM_leF, nM_eqF, nM_eqF', nbT0, nbT1, oI_s, oI_n, natF, natT, nltT, nltF, nleT, nleF, ↓reduceIte, lgc, not_true_eq_false, not_false_eq_true, or_false, false_or, or_true, true_or, and_true, true_and, and_false, false_and, ne_eq, eq_self, or_self, and_self, c121, e3]; done) | ((with_reducible refine wpf ?_ ?_); · simp (disch := first | omega | decide) only [↓neg1, nlit, rI, rL, rI2, rL1, nI_add, pk_mul, sbT, dvT, nmd, ixT, ↓ibT, ltT, ltF, leT, leF, eqT, eqF, nM_ltT, nM_ltF, nM_leT, nM_leF, nM_eqF, nM_eqF', nbT0, nbT1, oI_s, oI_n, natF, natT, nltT, nltF, nleT, nleF, ↓reduceIte, lgc, not_true_eq_false, not_false_eq_true, or_false, false_or, or_true, true_or, and_true, true_and, and_false, false_and, ne_eq, eq_self, or_self, and_self, c121, e3]; done))
    have h156 : d_156 n (nI M) = some (nI (100 * (M / 8) + 20 + 10 * (M % 8))) := by
      have h := e156 (n := n) (k := M / 8) (j := M % 8) (by have := isMt_lt hC hM; omega) (by omega)
      rwa [← hM8] at h
    refine wpe h156 ?_
    rfl
  · by_cases e : opn m (40 * M + i) = 20
    · have c123 := (hR.2.2.2.2.1 e).2.2.2.2.1
      rw [show wtp m M (40 * M + i) k = 100 * xN m (40 * M + i) + 20 + 10 * yN m (40 * M + i) + 1 + k from (if_neg e3).trans (if_pos e)]
      (try dsimp only); repeat (first | with_reducible refine wpl ?_ | with_reducible refine wpj ?_ | with_reducible refine wpSl ?_ | with_reducible refine wpSr ?_ | with_reducible refine wpS ?_ | ((with_reducible refine wpt ?_ ?_); · simp (disch := first | omega | decide) only [↓neg1, nlit, rI, rL, rI2, rL1, nI_add, pk_mul, sbT, dvT, nmd, ixT, ↓ibT, ltT, ltF, leT, leF, eqT, eqF, nM_ltT, nM_ltF, nM_leT, nM_leF, nM_eqF, nM_eqF', nbT0, nbT1, oI_s, oI_n, natF, natT, nltT, nltF, nleT, nleF, ↓reduceIte, lgc, not_true_eq_false, not_false_eq_true, or_false, false_or, or_true, true_or, and_true, true_and, and_false, false_and, ne_eq, eq_self, or_self, and_self, c121, e, c123]; done) | ((with_reducible refine wpf ?_ ?_); · simp (disch := first | omega | decide) only [↓neg1, nlit, rI, rL, rI2, rL1, nI_add, pk_mul, sbT, dvT, nmd, ixT, ↓ibT, ltT, ltF, leT, leF, eqT, eqF, nM_ltT, nM_ltF, nM_leT, nM_leF, nM_eqF, nM_eqF', nbT0, nbT1, oI_s, oI_n, natF, natT, nltT, nltF, nleT, nleF, ↓reduceIte, lgc, not_true_eq_false, not_false_eq_true, or_false, false_or, or_true, true_or, and_true, true_and, and_false, false_and, ne_eq, eq_self, or_self, and_self, c121, e, c123]; done))
      rw [ix_n (by omega), c123, nI_1, nI_add]
    · have e2 : opn m (40 * M + i) = 19 := by
        unfold wnt at hk
        rw [if_neg e] at hk
        by_cases e2 : opn m (40 * M + i) = 19
        · exact e2
        · rw [if_neg (by omega)] at hk
          omega
      have c123 := (hR.2.2.2.1 (Or.inr e2)).2.2.2.2.1
      rw [show wtp m M (40 * M + i) k = 100 * xN m (40 * M + i) + 1 + yN m (40 * M + i) from (if_neg e3).trans (if_neg e)]
      (try dsimp only); repeat (first | with_reducible refine wpl ?_ | with_reducible refine wpj ?_ | with_reducible refine wpSl ?_ | with_reducible refine wpSr ?_ | with_reducible refine wpS ?_ | ((with_reducible refine wpt ?_ ?_); · simp (disch := first | omega | decide) only [↓neg1, nlit, rI, rL, rI2, rL1, nI_add, pk_mul, sbT, dvT, nmd, ixT, ↓ibT, ltT, ltF, leT, leF, eqT, eqF, nM_ltT, nM_ltF, nM_leT, nM_leF, nM_eqF, nM_eqF', nbT0, nbT1, oI_s, oI_n, natF, natT, nltT, nltF, nleT, nleF, ↓reduceIte, lgc, not_true_eq_false, not_false_eq_true, or_false, false_or, or_true, true_or, and_true, true_and, and_false, false_and, ne_eq, eq_self, or_self, and_self, c121, e2, c123]; done) | ((with_reducible refine wpf ?_ ?_); · simp (disch := first | omega | decide) only [↓neg1, nlit, rI, rL, rI2, rL1, nI_add, pk_mul, sbT, dvT, nmd, ixT, ↓ibT, ltT, ltF, leT, leF, eqT, eqF, nM_ltT, nM_ltF, nM_leT, nM_leF, nM_eqF, nM_eqF', nbT0, nbT1, oI_s, oI_n, natF, natT, nltT, nltF, nleT, nleF, ↓reduceIte, lgc, not_true_eq_false, not_false_eq_true, or_false, false_or, or_true, true_or, and_true, true_and, and_false, false_and, ne_eq, eq_self, or_self, and_self, c121, e2, c123]; done))
      rw [ix_n (by omega)]
      exact c123
theorem e170 (hT : MTS c m) (hM : isMt m M) (hi : i < acn m M) (hr : RCH m M i) (ha : a = fa c M + i) (hk : k < wnt m (40 * M + i)) : d_170 n (nI a) (nI k) c = some (nI (wts m (40 * M + i) k)) := by
  have hac := MTS_ac hT hM hi
  have hmt := (hT.2.1 M hM).1.2.2.2.2.2.2.2.2
  have c125 : c.1 125 a = nI (dpn m (40 * M + i)) := by
    rw [ha]
    exact hac.2.2.2.2.2.1.trans hr.1
  have hb := wts_b hr hk
  have hr3 := hr.2.2.1
  refine eq_wp ?_
  unfold d_170
  refine wpt (by simp (disch := first | omega | decide) only [↓neg1, nlit, rI, rL, rI2, rL1, nI_add, pk_mul, sbT, dvT, nmd, ixT, ↓ibT, ltT, ltF, leT, leF, eqT, eqF, nM_ltT, nM_ltF, nM_leT, nM_leF, nM_eqF, nM_eqF', nbT0, nbT1, oI_s, oI_n, natF, natT, nltT, nltF, nleT, nleF, ↓reduceIte, lgc, not_true_eq_false, not_false_eq_true, or_false, false_or, or_true, true_or, and_true, true_and, and_false, false_and, ne_eq, eq_self, or_self, and_self]) (wpe (e168 hT hM hi ha) ?_)
  rw [ix_n (by omega), c125, show (8 : Int32) + nI (dpn m (40 * M + i)) = nI (8 + dpn m (40 * M + i)) by rw [show (8 : Int32) = nI 8 from rfl, nI_add], pk_sub (by omega), nI_add]
  rfl
theorem e206 {s : Int64} (h : FC c m u o) (hM : isMt m M) (hi : i < acn m M) (hr : RCH m M i) (hs : WFs (eln m o) (lcn m M) (dpn m (40 * M + i)) s) (ha : a = fa c M + i) (hk : k < wnt m (40 * M + i)) : d_206 n (nI M) (nI a) (nI k) s c = some (if mBb m o (nbl s (wts m (40 * M + i) k)) (TM m c (wtp m M (40 * M + i) k) o) then nI 0 else nI 1) := by
  have hX := FC_X h hM
  have hT := hX.2.2.1
  have hC := hX.2.1
  have hac := MTS_ac hT hM hi
  have ho := hX.2.2.2.2.1
  have ho4 := hX.1.1
  have hRO := OOS_at hX.1 ho
  have hb := wts_b hr hk
  have hr3 := hr.2.2.1
  obtain ⟨s', hP, hs'⟩ := wtp_P hC hM hac.2.2.2.2.2.2.1 hk
  obtain ⟨k1, k2⟩ := FC_K (n := n) h hP hs'
  have u1 := hs (wts m (40 * M + i) k) (by omega)
  rw [if_pos (by omega)] at u1
  have h12 := hRO.1.1
  have h150 := h.2.2.2.2.1
  refine eq_wp ?_
  unfold d_206
  refine wpe (e169 hT hC hM hi ha hk) ?_
  rw [h150]
  refine wpe k1 ?_
  refine wpt (by simp (disch := first | omega | decide) only [↓neg1, nlit, rI, rL, rI2, rL1, nI_add, pk_mul, sbT, dvT, nmd, ixT, ↓ibT, ltT, ltF, leT, leF, eqT, eqF, nM_ltT, nM_ltF, nM_leT, nM_leF, nM_eqF, nM_eqF', nbT0, nbT1, oI_s, oI_n, natF, natT, nltT, nltF, nleT, nleF, ↓reduceIte, lgc, not_true_eq_false, not_false_eq_true, or_false, false_or, or_true, true_or, and_true, true_and, and_false, false_and, ne_eq, eq_self, or_self, and_self]) (wpe (e170 hT hM hi hr ha hk) (wpe (e355 (by omega)) ?_))
  obtain ⟨v, v1, v2, v3⟩ := hRO.2.2.2.2.1 _ u1
  have hv : v < 2 ^ 31 := Nat.lt_of_lt_of_le v1 (Nat.pow_le_pow_right (by decide) (by omega))
  rw [ix_n (by omega)]
  refine wpe (e237 (by omega) (by omega) hv v2) ?_
  have hv3 := v3 (TM m c (wtp m M (40 * M + i) k) o) k2
  by_cases ht : v.testBit (TM m c (wtp m M (40 * M + i) k) o) = true
  · rw [if_pos ht, if_pos (mBb_t.mpr (hv3.mp ht))]
    (try dsimp only); repeat (first | with_reducible refine wpl ?_ | with_reducible refine wpj ?_ | with_reducible refine wpSl ?_ | with_reducible refine wpSr ?_ | with_reducible refine wpS ?_ | ((with_reducible refine wpt ?_ ?_); · simp (disch := first | omega | decide) only [↓neg1, nlit, rI, rL, rI2, rL1, nI_add, pk_mul, sbT, dvT, nmd, ixT, ↓ibT, ltT, ltF, leT, leF, eqT, eqF, nM_ltT, nM_ltF, nM_leT, nM_leF, nM_eqF, nM_eqF', nbT0, nbT1, oI_s, oI_n, natF, natT, nltT, nltF, nleT, nleF, ↓reduceIte, lgc, not_true_eq_false, not_false_eq_true, or_false, false_or, or_true, true_or, and_true, true_and, and_false, false_and, ne_eq, eq_self, or_self, and_self]; done) | ((with_reducible refine wpf ?_ ?_); · simp (disch := first | omega | decide) only [↓neg1, nlit, rI, rL, rI2, rL1, nI_add, pk_mul, sbT, dvT, nmd, ixT, ↓ibT, ltT, ltF, leT, leF, eqT, eqF, nM_ltT, nM_ltF, nM_leT, nM_leF, nM_eqF, nM_eqF', nbT0, nbT1, oI_s, oI_n, natF, natT, nltT, nltF, nleT, nleF, ↓reduceIte, lgc, not_true_eq_false, not_false_eq_true, or_false, false_or, or_true, true_or, and_true, true_and, and_false, false_and, ne_eq, eq_self, or_self, and_self]; done))
    rfl
  · rw [if_neg ht, if_neg (fun z => ht (hv3.mpr (mBb_t.mp z)))]
    (try dsimp only); repeat (first | with_reducible refine wpl ?_ | with_reducible refine wpj ?_ | with_reducible refine wpSl ?_ | with_reducible refine wpSr ?_ | with_reducible refine wpS ?_ | ((with_reducible refine wpt ?_ ?_); · simp (disch := first | omega | decide) only [↓neg1, nlit, rI, rL, rI2, rL1, nI_add, pk_mul, sbT, dvT, nmd, ixT, ↓ibT, ltT, ltF, leT, leF, eqT, eqF, nM_ltT, nM_ltF, nM_leT, nM_leF, nM_eqF, nM_eqF', nbT0, nbT1, oI_s, oI_n, natF, natT, nltT, nltF, nleT, nleF, ↓reduceIte, lgc, not_true_eq_false, not_false_eq_true, or_false, false_or, or_true, true_or, and_true, true_and, and_false, false_and, ne_eq, eq_self, or_self, and_self]; done) | ((with_reducible refine wpf ?_ ?_); · simp (disch := first | omega | decide) only [↓neg1, nlit, rI, rL, rI2, rL1, nI_add, pk_mul, sbT, dvT, nmd, ixT, ↓ibT, ltT, ltF, leT, leF, eqT, eqF, nM_ltT, nM_ltF, nM_leT, nM_leF, nM_eqF, nM_eqF', nbT0, nbT1, oI_s, oI_n, natF, natT, nltT, nltF, nleT, nleF, ↓reduceIte, lgc, not_true_eq_false, not_false_eq_true, or_false, false_or, or_true, true_or, and_true, true_and, and_false, false_and, ne_eq, eq_self, or_self, and_self]; done))
    rfl
end ERRS
