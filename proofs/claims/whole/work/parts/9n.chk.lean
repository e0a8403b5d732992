/-! checks that the class puts in -/
theorem nI_or {a b : Nat} : nI a ||| nI b = nI (a ||| b) := by
  apply Int32.toBitVec_inj.mp
  show BitVec.ofNat 32 a ||| BitVec.ofNat 32 b = BitVec.ofNat 32 (a ||| b)
  apply BitVec.eq_of_toNat_eq
  rw [BitVec.toNat_or, BitVec.toNat_ofNat, BitVec.toNat_ofNat, BitVec.toNat_ofNat, Nat.or_mod_two_pow]
theorem sh16 {t : Nat} (h : t < 16) : (1 : Int32) <<< (nI t &&& 31) = nI (2 ^ t) := by
  have hs : ∀ q : Fin 16, (1 : Int32) <<< (nI q.1 &&& 31) = nI (2 ^ q.1) := by decide +kernel
  exact hs ⟨t, h⟩
/-- checks ahead of ACTS, as bits -/
def BT (m c : cS) (P : Nat → Nat → Nat → Prop) : Prop := ∀ M i, isMt m M → i < acn m M → ∃ B, B < 65536 ∧ c.1 126 (fa c M + i) = nI B ∧ ∀ t, t < 16 → (B.testBit t = true ↔ P M i t)
def InL (o : Nat) (L : List (Nat × Nat × Nat × Nat × Nat)) (N M i t : Nat) : Prop := ∃ j x, j < N ∧ L[j]? = some x ∧ x.1 = M ∧ x.2.1 = i ∧ 4 * o + x.2.2.1 = t
theorem or_bit {B t s : Nat} : (B ||| 2 ^ t).testBit s = true ↔ (B.testBit s = true ∨ s = t) := by
  rw [Nat.testBit_or, Nat.testBit_two_pow, Bool.or_eq_true, decide_eq_true_iff]
  exact ⟨fun h => h.elim Or.inl (fun h => Or.inr h.symm), fun h => h.elim Or.inl (fun h => Or.inr h.symm)⟩
theorem e211 {n o : Nat} {c m : cS} {L : List (Nat × Nat × Nat × Nat × Nat)} {P : Nat → Nat → Nat → Prop} (hn : 10000 ≤ n) (hT : MTS c m) (hC : CCS c m) (ho : o < 4) (h3 : c.1 150 3 = nI o) (hE : ERC c L) (hl : L.length ≤ 2048) (hin : ∀ x, x ∈ L → isMt m x.1 ∧ x.2.1 < acn m x.1 ∧ x.2.2.1 < 4) (hB : BT m c P) :
    wp (d_211 n c) (fun r => r.1 = nI L.length ∧ sx (fun a _ => decide (a = 126)) c r.2 ∧ BT m r.2 (fun M i t => P M i t ∨ InL o L L.length M i t)) := by
  unfold d_211
  have hfa : ∀ w, sx (fun a _ => decide (a = 126)) c w → ∀ M, fa w M = fa c M := fun w hw M => congrArg ix (hw.1 119 M rfl)
  have hmt : ∀ M, isMt m M → c.1 119 M = nI (fa c M) ∧ fa c M + acn m M ≤ 1024 ∧ acn m M ≤ 40 := fun M hM => by
    have h := (hT.2.1 M hM).1
    exact ⟨h.2.2.2.2.2.2.2.1, h.2.2.2.2.2.2.2.2, h.1.2⟩
  refine wpc (K' := fun w : cS => sx (fun a _ => decide (a = 126)) c w ∧ BT m w (fun M i t => P M i t ∨ InL o L L.length M i t)) (whl_cnt (fun j (st : Int32 × cS) => st.1 = nI j ∧ sx (fun a _ => decide (a = 126)) c st.2 ∧ BT m st.2 (fun M i t => P M i t ∨ InL o L j M i t)) L.length ?_ ?_ (by omega) ⟨rfl, sx_rfl, fun M i hM hi => ?_⟩) (fun w hw => ?_)
  · rintro j ⟨a, w⟩ hj ⟨g1, g2, g3⟩
    dsimp only at g1 g2 g3
    subst g1
    obtain ⟨x, hx⟩ : ∃ x, L[j]? = some x := ⟨L[j], List.getElem?_eq_getElem hj⟩
    obtain ⟨x1, x2, x3⟩ := hin x (List.mem_of_getElem? hx)
    have hM96 := isMt_lt hC x1
    obtain ⟨y1, y2, y3⟩ := hmt x.1 x1
    have q1 : w.1 152 j = nI (x.1 * 160 + x.2.1 * 4 + x.2.2.1) := (g2.1 152 j rfl).trans (hE.2 j x hx)
    have q2 : w.1 150 6 = nI L.length := (g2.1 150 6 rfl).trans hE.1
    have q3 : w.1 150 3 = nI o := (g2.1 150 3 rfl).trans h3
    have q4 : w.1 119 x.1 = nI (fa c x.1) := (g2.1 119 _ rfl).trans y1
    generalize hz : x.1 * 160 + x.2.1 * 4 + x.2.2.1 = z at q1
    have v3 : nI z / 160 = nI x.1 := by
      rw [show nI z / 160 = nI (z / 160) from dvT (by omega) (by decide) (by decide)]
      exact congrArg nI (by omega)
    have v7 : (nI z - nI z / 160 * 160) / 4 = nI x.2.1 := by
      rw [show nI z - nI z / 160 * 160 = nI (z % 160) from pk_rem (d := 160) (by omega) (by decide) (by decide), show nI (z % 160) / 4 = nI (z % 160 / 4) from dvT (by omega) (by decide) (by decide)]
      exact congrArg nI (by omega)
    have v11 : nI z - nI z / 4 * 4 = nI x.2.2.1 := by
      rw [show nI z - nI z / 4 * 4 = nI (z % 4) from pk_rem (d := 4) (by omega) (by decide) (by decide)]
      exact congrArg nI (by omega)
    obtain ⟨B, b1, b2, b3⟩ := g3 x.1 x.2.1 x1 x2
    rw [hfa w g2] at b2
    refine wpf (by dsimp only; rw [q2]; simp (disch := first | omega | decide) only [↓neg1, nlit, rI, rL, rI2, rL1, nI_add, pk_mul, sbT, dvT, nmd, ixT, ↓ibT, ltT, ltF, leT, leF, eqT, eqF, nM_ltT, nM_ltF, nM_leT, nM_leF, nM_eqF, nM_eqF', nbT0, nbT1, oI_s, oI_n, natF, natT, nltT, nltF, nleT, nleF, ↓reduceIte, lgc, not_true_eq_false, not_false_eq_true, or_false, false_or, or_true, true_or, and_true, true_and, and_false, false_and, ne_eq, eq_self, or_self, and_self]) (wpt (by simp (disch := first | omega | decide) only [↓neg1, nlit, rI, rL, rI2, rL1, nI_add, pk_mul, sbT, dvT, nmd, ixT, ↓ibT, ltT, ltF, leT, leF, eqT, eqF, nM_ltT, nM_ltF, nM_leT, nM_leF, nM_eqF, nM_eqF', nbT0, nbT1, oI_s, oI_n, natF, natT, nltT, nltF, nleT, nleF, ↓reduceIte, lgc, not_true_eq_false, not_false_eq_true, or_false, false_or, or_true, true_or, and_true, true_and, and_false, false_and, ne_eq, eq_self, or_self, and_self]) ?_)
    dsimp only
    rw [ix_n (by omega), q1, v7, v11, v3]
    refine wpl (wpt (by simp (disch := first | omega | decide) only [↓neg1, nlit, rI, rL, rI2, rL1, nI_add, pk_mul, sbT, dvT, nmd, ixT, ↓ibT, ltT, ltF, leT, leF, eqT, eqF, nM_ltT, nM_ltF, nM_leT, nM_leF, nM_eqF, nM_eqF', nbT0, nbT1, oI_s, oI_n, natF, natT, nltT, nltF, nleT, nleF, ↓reduceIte, lgc, not_true_eq_false, not_false_eq_true, or_false, false_or, or_true, true_or, and_true, true_and, and_false, false_and, ne_eq, eq_self, or_self, and_self]) (wpl (wpt (by simp (disch := first | omega | decide) only [↓neg1, nlit, rI, rL, rI2, rL1, nI_add, pk_mul, sbT, dvT, nmd, ixT, ↓ibT, ltT, ltF, leT, leF, eqT, eqF, nM_ltT, nM_ltF, nM_leT, nM_leF, nM_eqF, nM_eqF', nbT0, nbT1, oI_s, oI_n, natF, natT, nltT, nltF, nleT, nleF, ↓reduceIte, lgc, not_true_eq_false, not_false_eq_true, or_false, false_or, or_true, true_or, and_true, true_and, and_false, false_and, ne_eq, eq_self, or_self, and_self]) ?_)))
    rw [ix_n (by omega), q4, nI_add, q3]
    refine wpt (by simp (disch := first | omega | decide) only [↓neg1, nlit, rI, rL, rI2, rL1, nI_add, pk_mul, sbT, dvT, nmd, ixT, ↓ibT, ltT, ltF, leT, leF, eqT, eqF, nM_ltT, nM_ltF, nM_leT, nM_leF, nM_eqF, nM_eqF', nbT0, nbT1, oI_s, oI_n, natF, natT, nltT, nltF, nleT, nleF, ↓reduceIte, lgc, not_true_eq_false, not_false_eq_true, or_false, false_or, or_true, true_or, and_true, true_and, and_false, false_and, ne_eq, eq_self, or_self, and_self]) (wpt (by simp (disch := first | omega | decide) only [↓neg1, nlit, rI, rL, rI2, rL1, nI_add, pk_mul, sbT, dvT, nmd, ixT, ↓ibT, ltT, ltF, leT, leF, eqT, eqF, nM_ltT, nM_ltF, nM_leT, nM_leF, nM_eqF, nM_eqF', nbT0, nbT1, oI_s, oI_n, natF, natT, nltT, nltF, nleT, nleF, ↓reduceIte, lgc, not_true_eq_false, not_false_eq_true, or_false, false_or, or_true, true_or, and_true, true_and, and_false, false_and, ne_eq, eq_self, or_self, and_self]) (wpt (by simp (disch := first | omega | decide) only [↓neg1, nlit, rI, rL, rI2, rL1, nI_add, pk_mul, sbT, dvT, nmd, ixT, ↓ibT, ltT, ltF, leT, leF, eqT, eqF, nM_ltT, nM_ltF, nM_leT, nM_leF, nM_eqF, nM_eqF', nbT0, nbT1, oI_s, oI_n, natF, natT, nltT, nltF, nleT, nleF, ↓reduceIte, lgc, not_true_eq_false, not_false_eq_true, or_false, false_or, or_true, true_or, and_true, true_and, and_false, false_and, ne_eq, eq_self, or_self, and_self]) (wpl (wpl ?_))))
    rw [ix_n (by omega), b2, show (4 : Int32) * nI o + nI x.2.2.1 = nI (4 * o + x.2.2.1) by rw [show (4 : Int32) = nI 4 from rfl, pk_mul, nI_add], sh16 (by omega), nI_or]
    refine ⟨nI_1 _, sx_pI g2 rfl, fun M i hM hi => ?_⟩
    dsimp only
    have hfa2 : fa (pI w 126 (fa c x.1 + x.2.1) (nI (B ||| 2 ^ (4 * o + x.2.2.1)))) M = fa c M := hfa _ (sx_pI g2 rfl) M
    rw [hfa2, rI]
    by_cases e : M = x.1 ∧ i = x.2.1
    · obtain ⟨rfl, rfl⟩ := e
      rw [if_pos ⟨rfl, rfl⟩]
      refine ⟨_, ?_, rfl, fun t ht => ?_⟩
      · exact Nat.or_lt_two_pow (n := 16) b1 (Nat.pow_lt_pow_right (by decide) (by omega))
      · rw [or_bit, b3 t ht]
        constructor
        · rintro ((h | ⟨j', y, h1, h2, h3⟩) | h)
          · exact Or.inl h
          · exact Or.inr ⟨j', y, by omega, h2, h3⟩
          · exact Or.inr ⟨j, x, by omega, hx, rfl, rfl, h.symm⟩
        · rintro (h | ⟨j', y, h1, h2, h3, h4, h5⟩)
          · exact Or.inl (Or.inl h)
          · by_cases e : j' = j
            · subst e
              rw [hx] at h2
              cases h2
              exact Or.inr h5.symm
            · exact Or.inl (Or.inr ⟨j', y, by omega, h2, h3, h4, h5⟩)
    · have hne : ¬ (126 = 126 ∧ fa c M + i = fa c x.1 + x.2.1) := by
        rintro ⟨-, z⟩
        have h1 := hT.2.2 M x.1 hM x1
        have h2 := hT.2.2 x.1 M x1 hM
        by_cases l1 : M < x.1
        · have := h1 l1
          omega
        · by_cases l2 : x.1 < M
          · have := h2 l2
            omega
          · have l3 : M = x.1 := by omega
            subst l3
            exact e ⟨rfl, by omega⟩
      rw [if_neg hne]
      obtain ⟨B', c1, c2, c3⟩ := g3 M i hM hi
      rw [hfa w g2] at c2
      refine ⟨B', c1, c2, fun t ht => ?_⟩
      rw [c3 t ht]
      constructor
      · rintro (h | ⟨j', y, h1, h2, h3⟩)
        · exact Or.inl h
        · exact Or.inr ⟨j', y, by omega, h2, h3⟩
      · rintro (h | ⟨j', y, h1, h2, h3, h4, h5⟩)
        · exact Or.inl h
        · by_cases e' : j' = j
          · subst e'
            rw [hx] at h2
            cases h2
            exact absurd ⟨h3.symm, h4.symm⟩ e
          · exact Or.inr ⟨j', y, by omega, h2, h3, h4, h5⟩
  · rintro ⟨a, w⟩ ⟨g1, g2, g3⟩
    dsimp only at g1 g2 g3
    subst g1
    have q2 : w.1 150 6 = nI L.length := (g2.1 150 6 rfl).trans hE.1
    refine wpt (by dsimp only; rw [q2]; simp (disch := first | omega | decide) only [↓neg1, nlit, rI, rL, rI2, rL1, nI_add, pk_mul, sbT, dvT, nmd, ixT, ↓ibT, ltT, ltF, leT, leF, eqT, eqF, nM_ltT, nM_ltF, nM_leT, nM_leF, nM_eqF, nM_eqF', nbT0, nbT1, oI_s, oI_n, natF, natT, nltT, nltF, nleT, nleF, ↓reduceIte, lgc, not_true_eq_false, not_false_eq_true, or_false, false_or, or_true, true_or, and_true, true_and, and_false, false_and, ne_eq, eq_self, or_self, and_self]) ⟨g2, g3⟩
  · obtain ⟨B, b1, b2, b3⟩ := hB M i hM hi
    refine ⟨B, b1, b2, fun t ht => ?_⟩
    rw [b3 t ht]
    constructor
    · exact Or.inl
    · rintro (h | ⟨j', y, h1, -⟩)
      · exact h
      · omega
  · exact ⟨(hw.1.1 150 6 rfl).trans hE.1, hw.1, hw.2⟩
