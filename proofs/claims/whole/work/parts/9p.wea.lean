/-! the call weave -/
def sumL (LL : Nat → List (Nat × Nat × Nat × Nat × Nat)) : Nat → Nat
  | 0 => 0
  | o + 1 => sumL LL o + (LL o).length
theorem sumL_cg {LL L2 : Nat → List (Nat × Nat × Nat × Nat × Nat)} : ∀ N, (∀ o, o < N → LL o = L2 o) → sumL LL N = sumL L2 N
  | 0, _ => rfl
  | N + 1, h => by
    show sumL LL N + _ = sumL L2 N + _
    rw [sumL_cg N (fun o ho => h o (by omega)), h N (by omega)]
/-- lists of ERRORS of all ORDERS -/
def LSO (m c : cS) (LL : Nat → List (Nat × Nat × Nat × Nat × Nat)) (N : Nat) : Prop := ∀ o, o < N → ∃ X, (∀ M, isMt m M → SOL m o M (fun p => TM m c p o) (entV m o M (fun p => TM m c p o)) (X M)) ∧ LL o = erM m o (fun p => TM m c p o) X 96
def ext (LL : Nat → List (Nat × Nat × Nat × Nat × Nat)) (N : Nat) (L : List (Nat × Nat × Nat × Nat × Nat)) (o : Nat) : List (Nat × Nat × Nat × Nat × Nat) := if o = N then L else LL o
theorem ext_lt {LL : Nat → List (Nat × Nat × Nat × Nat × Nat)} {N o : Nat} {L : List (Nat × Nat × Nat × Nat × Nat)} (h : o < N) : ext LL N L o = LL o := if_neg (by omega)
theorem ext_eq {LL : Nat → List (Nat × Nat × Nat × Nat × Nat)} {N : Nat} {L : List (Nat × Nat × Nat × Nat × Nat)} : ext LL N L N = L := if_pos rfl
theorem LSO_ext {m c : cS} {LL : Nat → List (Nat × Nat × Nat × Nat × Nat)} {N : Nat} {L : List (Nat × Nat × Nat × Nat × Nat)} (h : LSO m c LL N) (h2 : ∃ X, (∀ M, isMt m M → SOL m N M (fun p => TM m c p N) (entV m N M (fun p => TM m c p N)) (X M)) ∧ L = erM m N (fun p => TM m c p N) X 96) : LSO m c (ext LL N L) (N + 1) := by
  intro o ho
  by_cases e : o = N
  · subst e
    rw [ext_eq]
    exact h2
  · rw [ext_lt (by omega)]
    exact h o (by omega)
theorem sumL_ext {LL : Nat → List (Nat × Nat × Nat × Nat × Nat)} {N : Nat} {L : List (Nat × Nat × Nat × Nat × Nat)} : sumL (ext LL N L) (N + 1) = sumL LL N + L.length := by
  show sumL (ext LL N L) N + (ext LL N L N).length = _
  rw [ext_eq, sumL_cg N (fun o ho => ext_lt ho)]
theorem LSO_P {m c : cS} {LL : Nat → List (Nat × Nat × Nat × Nat × Nat)} {N : Nat} (h : LSO m c LL N) : LLP m c LL N := by
  intro o x ho hx
  obtain ⟨X, -, h2⟩ := h o ho
  rw [h2] at hx
  obtain ⟨a1, a2, a3, f, -, -, a5⟩ := erM_in 96 hx
  exact ⟨a1, a2, a3, a5⟩
theorem LSO_u {m c : cS} {LL L2 : Nat → List (Nat × Nat × Nat × Nat × Nat)} {N : Nat} (hF : ∀ o M, o < N → isMt m M → FX c m o M (fun p => TM m c p o)) (h : LSO m c LL N) (h2 : LSO m c L2 N) : ∀ o, o < N → LL o = L2 o := by
  intro o ho
  obtain ⟨X, x1, x2⟩ := h o ho
  obtain ⟨Y, y1, y2⟩ := h2 o ho
  rw [x2, y2]
  exact erM_eq (fun M hM => hF o M ho hM) x1 y1 96
theorem LSO_len {m c : cS} {LL : Nat → List (Nat × Nat × Nat × Nat × Nat)} {N o : Nat} (hB : WB m) (h : LSO m c LL N) (ho : o < N) : (LL o).length ≤ 2048 := by
  obtain ⟨X, -, h2⟩ := h o ho
  rw [h2]
  have := erM_len (m := m) (o := o) (K := fun p => TM m c p o) (XX := X) 96
  unfold WB at hB
  omega
theorem sumL_le {m c : cS} {LL : Nat → List (Nat × Nat × Nat × Nat × Nat)} {N : Nat} (hB : WB m) (h : LSO m c LL N) : ∀ k, k ≤ N → sumL LL k ≤ 2048 * k
  | 0, _ => Nat.le_refl _
  | k + 1, hk => by
    have h1 := sumL_le hB h k (by omega)
    have h2 := LSO_len (o := k) hB h (by omega)
    show sumL LL k + _ ≤ _
    omega
/-- the class's loop over ORDERS -/
def qWv (a i : Nat) : Bool := decide (a = 126 ∨ (a = 150 ∧ (i = 3 ∨ i = 6)) ∨ a = 151 ∨ a = 152)
theorem nC_Wv : nC qWv := ⟨fun a i h1 h2 h3 => decide_eq_false (by omega), fun i h => decide_eq_false (by omega)⟩
theorem CA_keep {c d m u : cS} {r : Nat → Nat → Bool} (h1 : PG c m) (h2 : TLS c m) (h3 : c.1 146 8 = nI 0) (h4 : FD m c u) (hd : sx r c d) (hr : nC r) (r1 : ∀ i, r 146 i = false) (r2 : ∀ i, r 147 i = false) (r3 : ∀ i, r 148 i = false) : PG d m ∧ TLS d m ∧ d.1 146 8 = nI 0 ∧ FD m d u ∧ ∀ p o, TM m d p o = TM m c p o := by
  have hf : ∀ p o, fdv d p o = fdv c p o := fun p o => congrArg ix (hd.1 148 _ (r3 _))
  refine ⟨PG_CA (CA_sx hd hr) h1, ?_, ?_, ?_, fun p o => by unfold TM; rw [hf]⟩
  · refine ⟨by rw [hd.1 146 8 (r1 8)]; exact h2.1, fun z p s o hp hs ho => ?_⟩
    rw [hd.1 146 8 (r1 8)] at z
    rw [hd.1 147 _ (r2 _)]
    exact h2.2 z p s o hp hs ho
  · rw [hd.1 146 8 (r1 8)]
    exact h3
  · intro p s o hp hs ho
    rw [hf, hd.1 148 _ (r3 _)]
    exact h4 p s o hp hs ho
theorem wea_c {n : Nat} {c m u : cS} (hn : 1100000 ≤ n) (h1 : PG c m) (h2 : TLS c m) (h3 : c.1 146 8 = nI 0) (h4 : FD m c u) (hB : WB m) (h0 : BT m c (fun _ _ _ => False)) :
    wp (whl (R := (Int32 × cS)) (fun s8 : Int32 × Int32 × cS =>
      if (s8.2.2.1 7 2) ≤ s8.2.1 then
        some (.inr (s8.1, s8.2.2))
      else
        Option.bind (d_196 n s8.2.1 s8.2.2) (fun r9 =>
        Option.bind (d_211 n r9) (fun r10 =>
        lt ((s8.1 + r10.1) : Int32) (fun v12 =>
        lt (s8.2.1 + 1 : Int32) (fun v15 =>
        some (.inl (v12, v15, r10.2))))))) n (0, 0, c)) (fun r => sx qWv c r.2 ∧ ∃ LL, LSO m c LL (ocn m) ∧ BTL m r.2 LL (ocn m) ∧ r.1 = nI (sumL LL (ocn m))) := by
  have ho4 := h1.1.1.1
  refine whl_cnt (fun o (st : Int32 × Int32 × cS) => st.2.1 = nI o ∧ sx qWv c st.2.2 ∧ ∃ LL, LSO m c LL o ∧ BTL m st.2.2 LL o ∧ st.1 = nI (sumL LL o)) (ocn m) ?_ ?_ (by omega) ⟨rfl, sx_rfl, fun _ => [], fun o ho => by omega, fun M i hM hi => ?_, rfl⟩
  · rintro o ⟨a, b, w⟩ ho ⟨g1, g2, LL, g3, g4, g5⟩
    dsimp only at g1 g2 g3 g4 g5
    subst g1
    subst g5
    obtain ⟨k1, k2, k3, k4, k5⟩ := CA_keep h1 h2 h3 h4 g2 nC_Wv (fun i => decide_eq_false (by omega)) (fun i => decide_eq_false (by omega)) (fun i => decide_eq_false (by omega))
    have p72 : w.1 7 2 = nI (ocn m) := k1.1.1.2.1
    refine wpf (by dsimp only; rw [p72]; simp (disch := first | omega | decide) only [↓neg1, nlit, rI, rL, rI2, rL1, nI_add, pk_mul, sbT, dvT, nmd, ixT, ↓ibT, ltT, ltF, leT, leF, eqT, eqF, nM_ltT, nM_ltF, nM_leT, nM_leF, nM_eqF, nM_eqF', nbT0, nbT1, oI_s, oI_n, natF, natT, nltT, nltF, nleT, nleF, ↓reduceIte, lgc, not_true_eq_false, not_false_eq_true, or_false, false_or, or_true, true_or, and_true, true_and, and_false, false_and, ne_eq, eq_self, or_self, and_self]) ?_
    refine wpc (e196 hn k1 k2 k3 k4 ho hB) (fun x hx => ?_)
    obtain ⟨x1, x2⟩ := hx
    have hK : (fun p => TM m w p o) = (fun p => TM m c p o) := funext fun p => k5 p o
    obtain ⟨y1, y2, y3⟩ := x2
    dsimp only at y2 y3
    rw [hK] at y2 y3
    have hCx := CA_sx x1 nC_Fo
    have hlen := erM_len (m := m) (o := o) (K := fun p => TM m c p o) (XX := XC m o x) 96
    have hB' := hB
    unfold WB at hB'
    have hbt : BT m x (fun M i t => ∃ o' z, o' < o ∧ z ∈ LL o' ∧ z.1 = M ∧ z.2.1 = i ∧ 4 * o' + z.2.2.1 = t) := by
      intro M i hM hi
      obtain ⟨B, b1, b2, b3⟩ := g4 M i hM hi
      refine ⟨B, b1, ?_, b3⟩
      rw [fa_CA hCx, x1.1 126 _ (decide_eq_false (by omega))]
      exact b2
    refine wpc (e211 (by omega) (PG_CA hCx k1).2.2 (PG_CA hCx k1).1.2.2.1 (by omega) y1 y3 (by omega) (fun z hz => ?_) hbt) (fun r hr => ?_)
    · obtain ⟨a1, a2, a3, -⟩ := erM_in 96 hz
      have := wnt_le h1.1.2.2.1 (MTS_ac h1.2.2 a1 a2).2.2.2.2.2.2.1
      exact ⟨a1, a2, by omega⟩
    obtain ⟨r1, r2, r3⟩ := hr
    have hlso := LSO_ext (L := erM m o (fun p => TM m c p o) (XC m o x) 96) g3 ⟨XC m o x, fun M hM => (y2 M hM).1, rfl⟩
    refine wpl (wpl ⟨nI_1 _, sx_trans g2 (sx_trans (sx_wide x1 (fun a i z => ?_)) (sx_wide r2 (fun a i z => ?_))), ext LL o (erM m o (fun p => TM m c p o) (XC m o x) 96), hlso, fun M i hM hi => ?_, ?_⟩)
    · have := of_decide_eq_false z
      exact decide_eq_false (by omega)
    · have := of_decide_eq_false z
      exact decide_eq_false (by omega)
    · obtain ⟨B, b1, b2, b3⟩ := r3 M i hM hi
      refine ⟨B, b1, b2, fun t ht => (b3 t ht).trans ⟨?_, ?_⟩⟩
      · rintro (⟨o', z, z1, z2, z3⟩ | ⟨j, z, z1, z2, z3⟩)
        · exact ⟨o', z, by omega, by rw [ext_lt z1]; exact z2, z3⟩
        · exact ⟨o, z, by omega, by rw [ext_eq]; exact List.mem_of_getElem? z2, z3⟩
      · rintro ⟨o', z, z1, z2, z3⟩
        by_cases e : o' = o
        · subst e
          rw [ext_eq] at z2
          obtain ⟨j, hj, hz⟩ := List.getElem_of_mem z2
          exact Or.inr ⟨j, z, hj, by rw [List.getElem?_eq_getElem hj, hz], z3⟩
        · rw [ext_lt (by omega)] at z2
          exact Or.inl ⟨o', z, by omega, z2, z3⟩
    · dsimp only
      rw [r1, nI_add, sumL_ext]
  · rintro ⟨a, b, w⟩ ⟨g1, g2, LL, g3, g4, g5⟩
    dsimp only at g1 g2 g3 g4 g5
    subst g1
    have p72 : w.1 7 2 = nI (ocn m) := (g2.1 7 2 (decide_eq_false (by omega))).trans h1.1.1.2.1
    exact wpt (by dsimp only; rw [p72]; simp (disch := first | omega | decide) only [↓neg1, nlit, rI, rL, rI2, rL1, nI_add, pk_mul, sbT, dvT, nmd, ixT, ↓ibT, ltT, ltF, leT, leF, eqT, eqF, nM_ltT, nM_ltF, nM_leT, nM_leF, nM_eqF, nM_eqF', nbT0, nbT1, oI_s, oI_n, natF, natT, nltT, nltF, nleT, nleF, ↓reduceIte, lgc, not_true_eq_false, not_false_eq_true, or_false, false_or, or_true, true_or, and_true, true_and, and_false, false_and, ne_eq, eq_self, or_self, and_self]) ⟨g2, LL, g3, g4, g5⟩
  · obtain ⟨B, b1, b2, b3⟩ := h0 M i hM hi
    refine ⟨B, b1, b2, fun t ht => (b3 t ht).trans ⟨fun z => z.elim, ?_⟩⟩
    rintro ⟨o, x, z, -⟩
    omega
