/-! READING: the class cuts LEXEMES -/
section LXC
variable {n v p k i L : Nat} {b : Nat → Nat} {c d w : cS}
def TAP (c : cS) (b : Nat → Nat) (L : Nat) : Prop := L ≤ 4000 ∧ c.1 1 1 = nI L ∧ ∀ j, j < L → b j < 256 ∧ c.1 2 j = sb (b j)
def tkE (b : Nat → Nat) (L p : Nat) : Nat := if lxL (b p) = true then spE lxLD b L p else if lxD (b p) = true then spE lxD b L p else if b p = 39 then spE lxT b L (p + 1) + 1 else p + 1
def tkO (b : Nat → Nat) (L p : Nat) : Bool := if lxL (b p) = true then decide (spE lxLD b L p - p ≤ 8) else if lxD (b p) = true then decide (spE lxD b L p - p ≤ 9) else
  if b p = 39 then decide (spE lxT b L (p + 1) < L ∧ b (spE lxT b L (p + 1)) = 39 ∧ spE lxT b L (p + 1) - (p + 1) ≤ 8) else lxG (b p)
def tkV (b : Nat → Nat) (L p : Nat) : Int64 := if lxL (b p) = true then pkB b p (spE lxLD b L p - p) else if lxD (b p) = true then nmB b p (spE lxD b L p - p) else pkB b (p + 1) (spE lxT b L (p + 1) - (p + 1))
def tkC (b : Nat → Nat) (L p : Nat) : Nat := if lxL (b p) = true then wCd (tkV b L p) else if lxD (b p) = true then 2 else if b p = 39 then 3 else b p
def tkH (b : Nat → Nat) (p : Nat) : Bool := lxL (b p) || lxD (b p) || decide (b p = 39)
def q17 (A j : Nat) : Bool := decide (A = 1 ∧ j = 7)
def qL1 (i A j : Nat) : Bool := decide ((A = 1 ∧ j = 7) ∨ (A = 3 ∧ j = i) ∨ (A = 5 ∧ j = i))
def CTR (b : Nat → Nat) (L p i : Nat) (c : cS) (r : Int32 × cS) : Prop := r.1 = (if tkO b L p = true then 1 else 0) ∧ r.2.1 1 7 = nI (tkE b L p) ∧ r.2.1 3 i = nI (tkC b L p) ∧ (tkH b p = true → r.2.2 5 i = tkV b L p) ∧ sx (qL1 i) c r.2
theorem w17 (h : sx q17 c d) : sx (qL1 i) c d := sx_wide h (fun A j z => by
  have := of_decide_eq_false z
  exact decide_eq_false (by omega))
theorem TAP_sx {r : Nat → Nat → Bool} (h : TAP c b L) (hs : sx r c d) (h1 : r 1 1 = false) (h2 : ∀ j, r 2 j = false) : TAP d b L := ⟨h.1, (hs.1 1 1 h1).trans h.2.1, fun j hj => ⟨(h.2.2 j hj).1, (hs.1 2 j (h2 j)).trans (h.2.2 j hj).2⟩⟩
theorem subN {a e : Nat} (h : a ≤ e) (he : e < 2147483648) : nI e - nI a = nI (e - a) := by simp (disch := first | omega | decide) only [↓neg1, nlit, rI, rL, rI2, rL1, nI_add, pk_mul, sbT, dvT, nmd, ixT, ↓ibT, ltT, ltF, leT, leF, eqT, eqF, nM_ltT, nM_ltF, nM_leT, nM_leF, nM_eqF, nM_eqF', nbT0, nbT1, oI_s, oI_n, natF, natT, nltT, nltF, nleT, nleF, ↓reduceIte, lgc, not_true_eq_false, not_false_eq_true, or_false, false_or, or_true, true_or, and_true, true_and, and_false, false_and, ne_eq, eq_self, or_self, and_self]
theorem e172 (hn : 10000 ≤ n) (hW : WV c) (hT : TAP c b L) (hp : p < L) (h7 : c.1 1 7 = nI p) (h6 : c.1 1 6 = nI i) (hi : i ≤ 4000) (hl : lxL (b p) = true) : wp (d_172 n c) (CTR b L p i c) := by
  obtain ⟨s1, s2, s3, s4⟩ := spE_in (q := lxLD) (b := b) (L := L) (p := p) (by omega)
  have hL := hT.1
  have hE : tkE b L p = spE lxLD b L p := if_pos hl
  have hO : tkO b L p = decide (spE lxLD b L p - p ≤ 8) := if_pos hl
  have hV : tkV b L p = pkB b p (spE lxLD b L p - p) := if_pos hl
  have hK : tkC b L p = wCd (tkV b L p) := if_pos hl
  unfold CTR
  rw [hE, hO, hK, hV]
  clear hE hO hV hK
  generalize spE lxLD b L p = e at *
  unfold d_172
  rw [h7]
  refine wpl ?_
  refine wpc (K' := fun x : Int64 × cS => x.1 = pkB b p (e - p) ∧ x.2.1 1 7 = nI e ∧ sx q17 c x.2) (whl_cnt (fun k (st : Int64 × cS) => st.1 = pkB b p k ∧ st.2.1 1 7 = nI (p + k) ∧ sx q17 c st.2) (e - p) ?_ ?_ (by omega) ⟨rfl, h7, sx_rfl⟩) (fun x hx => ?_)
  · rintro k ⟨v, w⟩ hk ⟨g1, g2, g3⟩
    dsimp only at g1 g2 g3
    subst g1
    dsimp only
    have hT1 := TAP_sx hT g3 rfl (fun _ => rfl)
    obtain ⟨hb, ht⟩ := hT1.2.2 (p + k) (by omega)
    have hq := s3 (p + k) (by omega) (by omega)
    have hval : (pkB b p k <<< ((8 : Int32).toInt64 &&& 63)) ||| (sb (b (p + k))).toInt64 = pkB b p (k + 1) := by
      rw [sb_lo (lxLD_lo hq)]
      rfl
    rw [g2, hT1.2.1]
    refine wpf (by simp (disch := first | omega | decide) only [↓neg1, nlit, rI, rL, rI2, rL1, nI_add, pk_mul, sbT, dvT, nmd, ixT, ↓ibT, ltT, ltF, leT, leF, eqT, eqF, nM_ltT, nM_ltF, nM_leT, nM_leF, nM_eqF, nM_eqF', nbT0, nbT1, oI_s, oI_n, natF, natT, nltT, nltF, nleT, nleF, ↓reduceIte, lgc, not_true_eq_false, not_false_eq_true, or_false, false_or, or_true, true_or, and_true, true_and, and_false, false_and, ne_eq, eq_self, or_self, and_self]) (wpt (by simp (disch := first | omega | decide) only [↓neg1, nlit, rI, rL, rI2, rL1, nI_add, pk_mul, sbT, dvT, nmd, ixT, ↓ibT, ltT, ltF, leT, leF, eqT, eqF, nM_ltT, nM_ltF, nM_leT, nM_leF, nM_eqF, nM_eqF', nbT0, nbT1, oI_s, oI_n, natF, natT, nltT, nltF, nleT, nleF, ↓reduceIte, lgc, not_true_eq_false, not_false_eq_true, or_false, false_or, or_true, true_or, and_true, true_and, and_false, false_and, ne_eq, eq_self, or_self, and_self]) ?_)
    rw [ix_n (by omega), ht]
    have hfin : wp (some (Sum.inl ((pkB b p k <<< ((8 : Int32).toInt64 &&& 63)) ||| (sb (b (p + k))).toInt64, pI w 1 7 (nI (p + k) + 1))) : Option ((Int64 × cS) ⊕ (Int64 × cS))) (Sum.elim (fun st : Int64 × cS => st.1 = pkB b p (k + 1) ∧ st.2.1 1 7 = nI (p + (k + 1)) ∧ sx q17 c st.2) (fun x : Int64 × cS => x.1 = pkB b p (e - p) ∧ x.2.1 1 7 = nI e ∧ sx q17 c x.2)) := by
      refine ⟨hval, ?_, sx_pI g3 rfl⟩
      show (pI w 1 7 (nI (p + k) + 1)).1 1 7 = _
      rw [rI, if_pos ⟨rfl, rfl⟩, nI_1]
      rfl
    refine wpe (e352s hb) (wpj ?_)
    by_cases h : lxL (b (p + k)) = true
    · exact wpf (by rw [if_pos h]; decide) (wpt (by simp (disch := first | omega | decide) only [↓neg1, nlit, rI, rL, rI2, rL1, nI_add, pk_mul, sbT, dvT, nmd, ixT, ↓ibT, ltT, ltF, leT, leF, eqT, eqF, nM_ltT, nM_ltF, nM_leT, nM_leF, nM_eqF, nM_eqF', nbT0, nbT1, oI_s, oI_n, natF, natT, nltT, nltF, nleT, nleF, ↓reduceIte, lgc, not_true_eq_false, not_false_eq_true, or_false, false_or, or_true, true_or, and_true, true_and, and_false, false_and, ne_eq, eq_self, or_self, and_self]) (wpl (wpl hfin)))
    · have hd : lxD (b (p + k)) = true := by
        unfold lxLD at hq
        simpa [h] using hq
      exact wpt (by rw [if_neg h]) (wpt (by simp (disch := first | omega | decide) only [↓neg1, nlit, rI, rL, rI2, rL1, nI_add, pk_mul, sbT, dvT, nmd, ixT, ↓ibT, ltT, ltF, leT, leF, eqT, eqF, nM_ltT, nM_ltF, nM_leT, nM_leF, nM_eqF, nM_eqF', nbT0, nbT1, oI_s, oI_n, natF, natT, nltT, nltF, nleT, nleF, ↓reduceIte, lgc, not_true_eq_false, not_false_eq_true, or_false, false_or, or_true, true_or, and_true, true_and, and_false, false_and, ne_eq, eq_self, or_self, and_self]) (wpe (e353s hb) (wpf (by rw [if_pos hd]; decide) (wpt (by simp (disch := first | omega | decide) only [↓neg1, nlit, rI, rL, rI2, rL1, nI_add, pk_mul, sbT, dvT, nmd, ixT, ↓ibT, ltT, ltF, leT, leF, eqT, eqF, nM_ltT, nM_ltF, nM_leT, nM_leF, nM_eqF, nM_eqF', nbT0, nbT1, oI_s, oI_n, natF, natT, nltT, nltF, nleT, nleF, ↓reduceIte, lgc, not_true_eq_false, not_false_eq_true, or_false, false_or, or_true, true_or, and_true, true_and, and_false, false_and, ne_eq, eq_self, or_self, and_self]) (wpl (wpl hfin))))))
  · rintro ⟨v, w⟩ ⟨g1, g2, g3⟩
    dsimp only at g1 g2 g3
    subst g1
    dsimp only
    rw [show p + (e - p) = e by omega] at g2
    have hT1 := TAP_sx hT g3 rfl (fun _ => rfl)
    rw [g2, hT1.2.1]
    by_cases he : e = L
    · exact wpt (by rw [he]; simp (disch := first | omega | decide) only [↓neg1, nlit, rI, rL, rI2, rL1, nI_add, pk_mul, sbT, dvT, nmd, ixT, ↓ibT, ltT, ltF, leT, leF, eqT, eqF, nM_ltT, nM_ltF, nM_leT, nM_leF, nM_eqF, nM_eqF', nbT0, nbT1, oI_s, oI_n, natF, natT, nltT, nltF, nleT, nleF, ↓reduceIte, lgc, not_true_eq_false, not_false_eq_true, or_false, false_or, or_true, true_or, and_true, true_and, and_false, false_and, ne_eq, eq_self, or_self, and_self]) ⟨rfl, g2, g3⟩
    · obtain ⟨hb, ht⟩ := hT1.2.2 e (by omega)
      have hq := s4 (by omega)
      unfold lxLD at hq
      have hq := Bool.or_eq_false_iff.mp hq
      refine wpf (by simp (disch := first | omega | decide) only [↓neg1, nlit, rI, rL, rI2, rL1, nI_add, pk_mul, sbT, dvT, nmd, ixT, ↓ibT, ltT, ltF, leT, leF, eqT, eqF, nM_ltT, nM_ltF, nM_leT, nM_leF, nM_eqF, nM_eqF', nbT0, nbT1, oI_s, oI_n, natF, natT, nltT, nltF, nleT, nleF, ↓reduceIte, lgc, not_true_eq_false, not_false_eq_true, or_false, false_or, or_true, true_or, and_true, true_and, and_false, false_and, ne_eq, eq_self, or_self, and_self]) (wpt (by simp (disch := first | omega | decide) only [↓neg1, nlit, rI, rL, rI2, rL1, nI_add, pk_mul, sbT, dvT, nmd, ixT, ↓ibT, ltT, ltF, leT, leF, eqT, eqF, nM_ltT, nM_ltF, nM_leT, nM_leF, nM_eqF, nM_eqF', nbT0, nbT1, oI_s, oI_n, natF, natT, nltT, nltF, nleT, nleF, ↓reduceIte, lgc, not_true_eq_false, not_false_eq_true, or_false, false_or, or_true, true_or, and_true, true_and, and_false, false_and, ne_eq, eq_self, or_self, and_self]) ?_)
      rw [ix_n (by omega), ht]
      exact wpe (e352s hb) (wpj (wpt (by rw [hq.1]; rfl) (wpt (by simp (disch := first | omega | decide) only [↓neg1, nlit, rI, rL, rI2, rL1, nI_add, pk_mul, sbT, dvT, nmd, ixT, ↓ibT, ltT, ltF, leT, leF, eqT, eqF, nM_ltT, nM_ltF, nM_leT, nM_leF, nM_eqF, nM_eqF', nbT0, nbT1, oI_s, oI_n, natF, natT, nltT, nltF, nleT, nleF, ↓reduceIte, lgc, not_true_eq_false, not_false_eq_true, or_false, false_or, or_true, true_or, and_true, true_and, and_false, false_and, ne_eq, eq_self, or_self, and_self]) (wpe (e353s hb) (wpt (by rw [hq.2]; rfl) ⟨rfl, g2, g3⟩)))))
  · obtain ⟨x, w⟩ := x
    obtain ⟨g1, g2, g3⟩ := hx
    dsimp only at g1 g2 g3
    subst g1
    dsimp only
    have g6 : w.1 1 6 = nI i := (g3.1 1 6 rfl).trans h6
    rw [g6]
    refine wpt (by simp (disch := first | omega | decide) only [↓neg1, nlit, rI, rL, rI2, rL1, nI_add, pk_mul, sbT, dvT, nmd, ixT, ↓ibT, ltT, ltF, leT, leF, eqT, eqF, nM_ltT, nM_ltF, nM_leT, nM_leF, nM_eqF, nM_eqF', nbT0, nbT1, oI_s, oI_n, natF, natT, nltT, nltF, nleT, nleF, ↓reduceIte, lgc, not_true_eq_false, not_false_eq_true, or_false, false_or, or_true, true_or, and_true, true_and, and_false, false_and, ne_eq, eq_self, or_self, and_self]) (wpl ?_)
    rw [ix_n (by omega)]
    refine wpe (e173 (by omega) (fun j hj => ?_)) ?_
    · show (pL w 5 i _).2 6 j = _
      rw [rL, if_neg (by omega), g3.2 6 j rfl]
      exact hW j hj
    have h6' : (pL w 5 i (pkB b p (e - p))).1 1 6 = nI i := g6
    rw [h6']
    refine wpt (by simp (disch := first | omega | decide) only [↓neg1, nlit, rI, rL, rI2, rL1, nI_add, pk_mul, sbT, dvT, nmd, ixT, ↓ibT, ltT, ltF, leT, leF, eqT, eqF, nM_ltT, nM_ltF, nM_leT, nM_leF, nM_eqF, nM_eqF', nbT0, nbT1, oI_s, oI_n, natF, natT, nltT, nltF, nleT, nleF, ↓reduceIte, lgc, not_true_eq_false, not_false_eq_true, or_false, false_or, or_true, true_or, and_true, true_and, and_false, false_and, ne_eq, eq_self, or_self, and_self]) (wpl ?_)
    rw [ix_n (by omega)]
    refine wpj ?_
    have h77 : (pI (pL w 5 i (pkB b p (e - p))) 3 i (nI (wCd (pkB b p (e - p))))).1 1 7 = nI e := by
      rw [rI, if_neg (by omega)]
      exact g2
    rw [h77, subN (by omega) (by omega)]
    have hres : ∀ r : Int32, r = (if decide (e - p ≤ 8) = true then 1 else 0) → wp (if nb r then some (r, pI (pL w 5 i (pkB b p (e - p))) 3 i (nI (wCd (pkB b p (e - p))))) else none) (fun r => r.1 = (if decide (e - p ≤ 8) = true then 1 else 0) ∧ r.2.1 1 7 = nI e ∧ r.2.1 3 i = nI (wCd (pkB b p (e - p))) ∧ (tkH b p = true → r.2.2 5 i = pkB b p (e - p)) ∧ sx (qL1 i) c r.2) := fun r hr => by
      refine wpt (by rw [hr]; split <;> decide) ⟨hr, h77, ?_, fun _ => ?_, ?_⟩
      · rw [rI, if_pos ⟨rfl, rfl⟩]
      · show (pL w 5 i _).2 5 i = _
        rw [rL, if_pos ⟨rfl, rfl⟩]
      · exact sx_pI (sx_pL (w17 g3) (decide_eq_true (by omega))) (decide_eq_true (by omega))
    by_cases h8 : e - p ≤ 8
    · exact wpf (by simp (disch := first | omega | decide) only [↓neg1, nlit, rI, rL, rI2, rL1, nI_add, pk_mul, sbT, dvT, nmd, ixT, ↓ibT, ltT, ltF, leT, leF, eqT, eqF, nM_ltT, nM_ltF, nM_leT, nM_leF, nM_eqF, nM_eqF', nbT0, nbT1, oI_s, oI_n, natF, natT, nltT, nltF, nleT, nleF, ↓reduceIte, lgc, not_true_eq_false, not_false_eq_true, or_false, false_or, or_true, true_or, and_true, true_and, and_false, false_and, ne_eq, eq_self, or_self, and_self]) (hres 1 (by rw [decide_eq_true h8]; rfl))
    · exact wpt (by simp (disch := first | omega | decide) only [↓neg1, nlit, rI, rL, rI2, rL1, nI_add, pk_mul, sbT, dvT, nmd, ixT, ↓ibT, ltT, ltF, leT, leF, eqT, eqF, nM_ltT, nM_ltF, nM_leT, nM_leF, nM_eqF, nM_eqF', nbT0, nbT1, oI_s, oI_n, natF, natT, nltT, nltF, nleT, nleF, ↓reduceIte, lgc, not_true_eq_false, not_false_eq_true, or_false, false_or, or_true, true_or, and_true, true_and, and_false, false_and, ne_eq, eq_self, or_self, and_self]) (hres 0 (by rw [decide_eq_false h8]; rfl))
theorem e174 (hn : 10000 ≤ n) (hT : TAP c b L) (hp : p < L) (h7 : c.1 1 7 = nI p) (h6 : c.1 1 6 = nI i) (hi : i ≤ 4000) (hl : lxL (b p) = false) (hd : lxD (b p) = true) : wp (d_174 n c) (CTR b L p i c) := by
  obtain ⟨s1, s2, s3, s4⟩ := spE_in (q := lxD) (b := b) (L := L) (p := p) (by omega)
  have hL := hT.1
  have hl : ¬ lxL (b p) = true := by rw [hl]; decide
  have hE : tkE b L p = spE lxD b L p := by unfold tkE; rw [if_neg hl, if_pos hd]
  have hO : tkO b L p = decide (spE lxD b L p - p ≤ 9) := by unfold tkO; rw [if_neg hl, if_pos hd]
  have hV : tkV b L p = nmB b p (spE lxD b L p - p) := by unfold tkV; rw [if_neg hl, if_pos hd]
  have hK : tkC b L p = 2 := by unfold tkC; rw [if_neg hl, if_pos hd]
  unfold CTR
  rw [hE, hO, hK, hV]
  clear hE hO hV hK
  generalize spE lxD b L p = e at *
  unfold d_174
  rw [h7]
  refine wpl ?_
  refine wpc (K' := fun x : Int64 × cS => x.1 = nmB b p (e - p) ∧ x.2.1 1 7 = nI e ∧ sx q17 c x.2) (whl_cnt (fun k (st : Int64 × cS) => st.1 = nmB b p k ∧ st.2.1 1 7 = nI (p + k) ∧ sx q17 c st.2) (e - p) ?_ ?_ (by omega) ⟨rfl, h7, sx_rfl⟩) (fun x hx => ?_)
  · rintro k ⟨v, w⟩ hk ⟨g1, g2, g3⟩
    dsimp only at g1 g2 g3
    subst g1
    dsimp only
    have hT1 := TAP_sx hT g3 rfl (fun _ => rfl)
    obtain ⟨hb, ht⟩ := hT1.2.2 (p + k) (by omega)
    have hq := s3 (p + k) (by omega) (by omega)
    rw [g2, hT1.2.1]
    refine wpf (by simp (disch := first | omega | decide) only [↓neg1, nlit, rI, rL, rI2, rL1, nI_add, pk_mul, sbT, dvT, nmd, ixT, ↓ibT, ltT, ltF, leT, leF, eqT, eqF, nM_ltT, nM_ltF, nM_leT, nM_leF, nM_eqF, nM_eqF', nbT0, nbT1, oI_s, oI_n, natF, natT, nltT, nltF, nleT, nleF, ↓reduceIte, lgc, not_true_eq_false, not_false_eq_true, or_false, false_or, or_true, true_or, and_true, true_and, and_false, false_and, ne_eq, eq_self, or_self, and_self]) (wpt (by simp (disch := first | omega | decide) only [↓neg1, nlit, rI, rL, rI2, rL1, nI_add, pk_mul, sbT, dvT, nmd, ixT, ↓ibT, ltT, ltF, leT, leF, eqT, eqF, nM_ltT, nM_ltF, nM_leT, nM_leF, nM_eqF, nM_eqF', nbT0, nbT1, oI_s, oI_n, natF, natT, nltT, nltF, nleT, nleF, ↓reduceIte, lgc, not_true_eq_false, not_false_eq_true, or_false, false_or, or_true, true_or, and_true, true_and, and_false, false_and, ne_eq, eq_self, or_self, and_self]) ?_)
    rw [ix_n (by omega), ht]
    refine wpe (e353s hb) (wpf (by rw [if_pos hq]; decide) (wpt (by simp (disch := first | omega | decide) only [↓neg1, nlit, rI, rL, rI2, rL1, nI_add, pk_mul, sbT, dvT, nmd, ixT, ↓ibT, ltT, ltF, leT, leF, eqT, eqF, nM_ltT, nM_ltF, nM_leT, nM_leF, nM_eqF, nM_eqF', nbT0, nbT1, oI_s, oI_n, natF, natT, nltT, nltF, nleT, nleF, ↓reduceIte, lgc, not_true_eq_false, not_false_eq_true, or_false, false_or, or_true, true_or, and_true, true_and, and_false, false_and, ne_eq, eq_self, or_self, and_self]) (wpl (wpl ⟨?_, ?_, sx_pI g3 rfl⟩))))
    · show (nmB b p k * 10 + (sb (b (p + k))).toInt64) - 48 = _
      rw [sb_lo (lxD_lo hq)]
      rfl
    · show (pI w 1 7 (nI (p + k) + 1)).1 1 7 = _
      rw [rI, if_pos ⟨rfl, rfl⟩, nI_1]
      rfl
  · rintro ⟨v, w⟩ ⟨g1, g2, g3⟩
    dsimp only at g1 g2 g3
    subst g1
    dsimp only
    rw [show p + (e - p) = e by omega] at g2
    have hT1 := TAP_sx hT g3 rfl (fun _ => rfl)
    rw [g2, hT1.2.1]
    by_cases he : e = L
    · exact wpt (by rw [he]; simp (disch := first | omega | decide) only [↓neg1, nlit, rI, rL, rI2, rL1, nI_add, pk_mul, sbT, dvT, nmd, ixT, ↓ibT, ltT, ltF, leT, leF, eqT, eqF, nM_ltT, nM_ltF, nM_leT, nM_leF, nM_eqF, nM_eqF', nbT0, nbT1, oI_s, oI_n, natF, natT, nltT, nltF, nleT, nleF, ↓reduceIte, lgc, not_true_eq_false, not_false_eq_true, or_false, false_or, or_true, true_or, and_true, true_and, and_false, false_and, ne_eq, eq_self, or_self, and_self]) ⟨rfl, g2, g3⟩
    · obtain ⟨hb, ht⟩ := hT1.2.2 e (by omega)
      have hq := s4 (by omega)
      refine wpf (by simp (disch := first | omega | decide) only [↓neg1, nlit, rI, rL, rI2, rL1, nI_add, pk_mul, sbT, dvT, nmd, ixT, ↓ibT, ltT, ltF, leT, leF, eqT, eqF, nM_ltT, nM_ltF, nM_leT, nM_leF, nM_eqF, nM_eqF', nbT0, nbT1, oI_s, oI_n, natF, natT, nltT, nltF, nleT, nleF, ↓reduceIte, lgc, not_true_eq_false, not_false_eq_true, or_false, false_or, or_true, true_or, and_true, true_and, and_false, false_and, ne_eq, eq_self, or_self, and_self]) (wpt (by simp (disch := first | omega | decide) only [↓neg1, nlit, rI, rL, rI2, rL1, nI_add, pk_mul, sbT, dvT, nmd, ixT, ↓ibT, ltT, ltF, leT, leF, eqT, eqF, nM_ltT, nM_ltF, nM_leT, nM_leF, nM_eqF, nM_eqF', nbT0, nbT1, oI_s, oI_n, natF, natT, nltT, nltF, nleT, nleF, ↓reduceIte, lgc, not_true_eq_false, not_false_eq_true, or_false, false_or, or_true, true_or, and_true, true_and, and_false, false_and, ne_eq, eq_self, or_self, and_self]) ?_)
      rw [ix_n (by omega), ht]
      exact wpe (e353s hb) (wpt (by rw [hq]; rfl) ⟨rfl, g2, g3⟩)
  · obtain ⟨x, w⟩ := x
    obtain ⟨g1, g2, g3⟩ := hx
    dsimp only at g1 g2 g3
    subst g1
    dsimp only
    have g6 : w.1 1 6 = nI i := (g3.1 1 6 rfl).trans h6
    rw [g6]
    refine wpt (by simp (disch := first | omega | decide) only [↓neg1, nlit, rI, rL, rI2, rL1, nI_add, pk_mul, sbT, dvT, nmd, ixT, ↓ibT, ltT, ltF, leT, leF, eqT, eqF, nM_ltT, nM_ltF, nM_leT, nM_leF, nM_eqF, nM_eqF', nbT0, nbT1, oI_s, oI_n, natF, natT, nltT, nltF, nleT, nleF, ↓reduceIte, lgc, not_true_eq_false, not_false_eq_true, or_false, false_or, or_true, true_or, and_true, true_and, and_false, false_and, ne_eq, eq_self, or_self, and_self]) (wpl ?_)
    rw [ix_n (by omega)]
    have h6' : (pL w 5 i (nmB b p (e - p))).1 1 6 = nI i := g6
    rw [h6']
    refine wpt (by simp (disch := first | omega | decide) only [↓neg1, nlit, rI, rL, rI2, rL1, nI_add, pk_mul, sbT, dvT, nmd, ixT, ↓ibT, ltT, ltF, leT, leF, eqT, eqF, nM_ltT, nM_ltF, nM_leT, nM_leF, nM_eqF, nM_eqF', nbT0, nbT1, oI_s, oI_n, natF, natT, nltT, nltF, nleT, nleF, ↓reduceIte, lgc, not_true_eq_false, not_false_eq_true, or_false, false_or, or_true, true_or, and_true, true_and, and_false, false_and, ne_eq, eq_self, or_self, and_self]) (wpl ?_)
    rw [ix_n (by omega)]
    refine wpj ?_
    have h77 : (pI (pL w 5 i (nmB b p (e - p))) 3 i 2).1 1 7 = nI e := by
      rw [rI, if_neg (by omega)]
      exact g2
    rw [h77, subN (by omega) (by omega)]
    have hres : ∀ r : Int32, r = (if decide (e - p ≤ 9) = true then 1 else 0) → wp (if nb r then some (r, pI (pL w 5 i (nmB b p (e - p))) 3 i 2) else none) (fun r => r.1 = (if decide (e - p ≤ 9) = true then 1 else 0) ∧ r.2.1 1 7 = nI e ∧ r.2.1 3 i = nI 2 ∧ (tkH b p = true → r.2.2 5 i = nmB b p (e - p)) ∧ sx (qL1 i) c r.2) := fun r hr => by
      refine wpt (by rw [hr]; split <;> decide) ⟨hr, h77, ?_, fun _ => ?_, ?_⟩
      · rw [rI, if_pos ⟨rfl, rfl⟩]
        rfl
      · show (pL w 5 i _).2 5 i = _
        rw [rL, if_pos ⟨rfl, rfl⟩]
      · exact sx_pI (sx_pL (w17 g3) (decide_eq_true (by omega))) (decide_eq_true (by omega))
    by_cases h8 : e - p ≤ 9
    · exact wpf (by simp (disch := first | omega | decide) only [↓neg1, nlit, rI, rL, rI2, rL1, nI_add, pk_mul, sbT, dvT, nmd, ixT, ↓ibT, ltT, ltF, leT, leF, eqT, eqF, nM_ltT, nM_ltF, nM_leT, nM_leF, nM_eqF, nM_eqF', nbT0, nbT1, oI_s, oI_n, natF, natT, nltT, nltF, nleT, nleF, ↓reduceIte, lgc, not_true_eq_false, not_false_eq_true, or_false, false_or, or_true, true_or, and_true, true_and, and_false, false_and, ne_eq, eq_self, or_self, and_self]) (hres 1 (by rw [decide_eq_true h8]; rfl))
    · exact wpt (by simp (disch := first | omega | decide) only [↓neg1, nlit, rI, rL, rI2, rL1, nI_add, pk_mul, sbT, dvT, nmd, ixT, ↓ibT, ltT, ltF, leT, leF, eqT, eqF, nM_ltT, nM_ltF, nM_leT, nM_leF, nM_eqF, nM_eqF', nbT0, nbT1, oI_s, oI_n, natF, natT, nltT, nltF, nleT, nleF, ↓reduceIte, lgc, not_true_eq_false, not_false_eq_true, or_false, false_or, or_true, true_or, and_true, true_and, and_false, false_and, ne_eq, eq_self, or_self, and_self]) (hres 0 (by rw [decide_eq_false h8]; rfl))
theorem e175 (hn : 10000 ≤ n) (hT : TAP c b L) (hp : p < L) (h7 : c.1 1 7 = nI p) (h6 : c.1 1 6 = nI i) (hi : i ≤ 4000) (hl : lxL (b p) = false) (hd : lxD (b p) = false) (h39 : b p = 39) : wp (d_175 n c) (CTR b L p i c) := by
  obtain ⟨s1, s2, s3, s4⟩ := spE_in (q := lxT) (b := b) (L := L) (p := p + 1) (by omega)
  have hL := hT.1
  have hl : ¬ lxL (b p) = true := by rw [hl]; decide
  have hd : ¬ lxD (b p) = true := by rw [hd]; decide
  have hE : tkE b L p = spE lxT b L (p + 1) + 1 := by unfold tkE; rw [if_neg hl, if_neg hd, if_pos h39]
  have hO : tkO b L p = decide (spE lxT b L (p + 1) < L ∧ b (spE lxT b L (p + 1)) = 39 ∧ spE lxT b L (p + 1) - (p + 1) ≤ 8) := by unfold tkO; rw [if_neg hl, if_neg hd, if_pos h39]
  have hV : tkV b L p = pkB b (p + 1) (spE lxT b L (p + 1) - (p + 1)) := by unfold tkV; rw [if_neg hl, if_neg hd]
  have hK : tkC b L p = 3 := by unfold tkC; rw [if_neg hl, if_neg hd, if_pos h39]
  unfold CTR
  rw [hE, hO, hK, hV]
  clear hE hO hV hK
  generalize spE lxT b L (p + 1) = e at *
  unfold d_175
  rw [h7, nI_1]
  refine wpl (wpl ?_)
  have t7 : (pI c 1 7 (nI (p + 1))).1 1 7 = nI (p + 1) := by rw [rI, if_pos ⟨rfl, rfl⟩]
  refine wpc (K' := fun x : Int64 × cS => x.1 = pkB b (p + 1) (e - (p + 1)) ∧ x.2.1 1 7 = nI e ∧ sx q17 c x.2) (whl_cnt (fun k (st : Int64 × cS) => st.1 = pkB b (p + 1) k ∧ st.2.1 1 7 = nI (p + 1 + k) ∧ sx q17 c st.2) (e - (p + 1)) ?_ ?_ (by omega) ⟨rfl, t7, sx_pI sx_rfl rfl⟩) (fun x hx => ?_)
  · rintro k ⟨v, w⟩ hk ⟨g1, g2, g3⟩
    dsimp only at g1 g2 g3
    subst g1
    dsimp only
    have hT1 := TAP_sx hT g3 rfl (fun _ => rfl)
    obtain ⟨hb, ht⟩ := hT1.2.2 (p + 1 + k) (by omega)
    have hq := s3 (p + 1 + k) (by omega) (by omega)
    rw [g2, hT1.2.1]
    refine wpf (by simp (disch := first | omega | decide) only [↓neg1, nlit, rI, rL, rI2, rL1, nI_add, pk_mul, sbT, dvT, nmd, ixT, ↓ibT, ltT, ltF, leT, leF, eqT, eqF, nM_ltT, nM_ltF, nM_leT, nM_leF, nM_eqF, nM_eqF', nbT0, nbT1, oI_s, oI_n, natF, natT, nltT, nltF, nleT, nleF, ↓reduceIte, lgc, not_true_eq_false, not_false_eq_true, or_false, false_or, or_true, true_or, and_true, true_and, and_false, false_and, ne_eq, eq_self, or_self, and_self]) (wpt (by simp (disch := first | omega | decide) only [↓neg1, nlit, rI, rL, rI2, rL1, nI_add, pk_mul, sbT, dvT, nmd, ixT, ↓ibT, ltT, ltF, leT, leF, eqT, eqF, nM_ltT, nM_ltF, nM_leT, nM_leF, nM_eqF, nM_eqF', nbT0, nbT1, oI_s, oI_n, natF, natT, nltT, nltF, nleT, nleF, ↓reduceIte, lgc, not_true_eq_false, not_false_eq_true, or_false, false_or, or_true, true_or, and_true, true_and, and_false, false_and, ne_eq, eq_self, or_self, and_self]) ?_)
    rw [ix_n (by omega), ht]
    refine wpe (e354s hb) (wpf (by rw [if_pos hq]; decide) (wpt (by simp (disch := first | omega | decide) only [↓neg1, nlit, rI, rL, rI2, rL1, nI_add, pk_mul, sbT, dvT, nmd, ixT, ↓ibT, ltT, ltF, leT, leF, eqT, eqF, nM_ltT, nM_ltF, nM_leT, nM_leF, nM_eqF, nM_eqF', nbT0, nbT1, oI_s, oI_n, natF, natT, nltT, nltF, nleT, nleF, ↓reduceIte, lgc, not_true_eq_false, not_false_eq_true, or_false, false_or, or_true, true_or, and_true, true_and, and_false, false_and, ne_eq, eq_self, or_self, and_self]) (wpl (wpl ⟨?_, ?_, sx_pI g3 rfl⟩))))
    · show (pkB b (p + 1) k <<< ((8 : Int32).toInt64 &&& 63)) ||| (sb (b (p + 1 + k))).toInt64 = _
      rw [sb_lo (lxT_lo hq)]
      rfl
    · show (pI w 1 7 (nI (p + 1 + k) + 1)).1 1 7 = _
      rw [rI, if_pos ⟨rfl, rfl⟩, nI_1]
      rfl
  · rintro ⟨v, w⟩ ⟨g1, g2, g3⟩
    dsimp only at g1 g2 g3
    subst g1
    dsimp only
    rw [show p + 1 + (e - (p + 1)) = e by omega] at g2
    have hT1 := TAP_sx hT g3 rfl (fun _ => rfl)
    rw [g2, hT1.2.1]
    by_cases he : e = L
    · exact wpt (by rw [he]; simp (disch := first | omega | decide) only [↓neg1, nlit, rI, rL, rI2, rL1, nI_add, pk_mul, sbT, dvT, nmd, ixT, ↓ibT, ltT, ltF, leT, leF, eqT, eqF, nM_ltT, nM_ltF, nM_leT, nM_leF, nM_eqF, nM_eqF', nbT0, nbT1, oI_s, oI_n, natF, natT, nltT, nltF, nleT, nleF, ↓reduceIte, lgc, not_true_eq_false, not_false_eq_true, or_false, false_or, or_true, true_or, and_true, true_and, and_false, false_and, ne_eq, eq_self, or_self, and_self]) ⟨rfl, g2, g3⟩
    · obtain ⟨hb, ht⟩ := hT1.2.2 e (by omega)
      have hq := s4 (by omega)
      refine wpf (by simp (disch := first | omega | decide) only [↓neg1, nlit, rI, rL, rI2, rL1, nI_add, pk_mul, sbT, dvT, nmd, ixT, ↓ibT, ltT, ltF, leT, leF, eqT, eqF, nM_ltT, nM_ltF, nM_leT, nM_leF, nM_eqF, nM_eqF', nbT0, nbT1, oI_s, oI_n, natF, natT, nltT, nltF, nleT, nleF, ↓reduceIte, lgc, not_true_eq_false, not_false_eq_true, or_false, false_or, or_true, true_or, and_true, true_and, and_false, false_and, ne_eq, eq_self, or_self, and_self]) (wpt (by simp (disch := first | omega | decide) only [↓neg1, nlit, rI, rL, rI2, rL1, nI_add, pk_mul, sbT, dvT, nmd, ixT, ↓ibT, ltT, ltF, leT, leF, eqT, eqF, nM_ltT, nM_ltF, nM_leT, nM_leF, nM_eqF, nM_eqF', nbT0, nbT1, oI_s, oI_n, natF, natT, nltT, nltF, nleT, nleF, ↓reduceIte, lgc, not_true_eq_false, not_false_eq_true, or_false, false_or, or_true, true_or, and_true, true_and, and_false, false_and, ne_eq, eq_self, or_self, and_self]) ?_)
      rw [ix_n (by omega), ht]
      exact wpe (e354s hb) (wpt (by rw [hq]; rfl) ⟨rfl, g2, g3⟩)
  · obtain ⟨x, w⟩ := x
    obtain ⟨g1, g2, g3⟩ := hx
    dsimp only at g1 g2 g3
    subst g1
    dsimp only
    have g6 : w.1 1 6 = nI i := (g3.1 1 6 rfl).trans h6
    rw [g6]
    refine wpt (by simp (disch := first | omega | decide) only [↓neg1, nlit, rI, rL, rI2, rL1, nI_add, pk_mul, sbT, dvT, nmd, ixT, ↓ibT, ltT, ltF, leT, leF, eqT, eqF, nM_ltT, nM_ltF, nM_leT, nM_leF, nM_eqF, nM_eqF', nbT0, nbT1, oI_s, oI_n, natF, natT, nltT, nltF, nleT, nleF, ↓reduceIte, lgc, not_true_eq_false, not_false_eq_true, or_false, false_or, or_true, true_or, and_true, true_and, and_false, false_and, ne_eq, eq_self, or_self, and_self]) (wpl ?_)
    rw [ix_n (by omega)]
    have h6' : (pL w 5 i (pkB b (p + 1) (e - (p + 1)))).1 1 6 = nI i := g6
    rw [h6']
    refine wpt (by simp (disch := first | omega | decide) only [↓neg1, nlit, rI, rL, rI2, rL1, nI_add, pk_mul, sbT, dvT, nmd, ixT, ↓ibT, ltT, ltF, leT, leF, eqT, eqF, nM_ltT, nM_ltF, nM_leT, nM_leF, nM_eqF, nM_eqF', nbT0, nbT1, oI_s, oI_n, natF, natT, nltT, nltF, nleT, nleF, ↓reduceIte, lgc, not_true_eq_false, not_false_eq_true, or_false, false_or, or_true, true_or, and_true, true_and, and_false, false_and, ne_eq, eq_self, or_self, and_self]) (wpl ?_)
    rw [ix_n (by omega)]
    have sz : sx (qL1 i) c (pI (pL w 5 i (pkB b (p + 1) (e - (p + 1)))) 3 i 3) := sx_pI (sx_pL (w17 g3) (decide_eq_true (by omega))) (decide_eq_true (by omega))
    have z7 : (pI (pL w 5 i (pkB b (p + 1) (e - (p + 1)))) 3 i 3).1 1 7 = nI e := by
      rw [rI, if_neg (by omega)]
      exact g2
    have z3 : (pI (pL w 5 i (pkB b (p + 1) (e - (p + 1)))) 3 i 3).1 3 i = nI 3 := by
      rw [rI, if_pos ⟨rfl, rfl⟩]
      rfl
    have z5 : (pI (pL w 5 i (pkB b (p + 1) (e - (p + 1)))) 3 i 3).2 5 i = pkB b (p + 1) (e - (p + 1)) := by
      show (pL w 5 i _).2 5 i = _
      rw [rL, if_pos ⟨rfl, rfl⟩]
    generalize pI (pL w 5 i (pkB b (p + 1) (e - (p + 1)))) 3 i 3 = z at *
    have hT2 := TAP_sx hT sz (decide_eq_false (by omega)) (fun j => decide_eq_false (by omega))
    refine wpjQ (fun r : Int32 => r = (if decide (e < L ∧ b e = 39 ∧ e - (p + 1) ≤ 8) = true then 1 else 0)) (fun r hr => ?_) ?_
    · rw [z7, nI_1]
      refine wpl (wpt (by rw [hr]; split <;> decide) ⟨hr, ?_, ?_, fun _ => ?_, ?_⟩)
      · rw [rI, if_pos ⟨rfl, rfl⟩]
      · rw [rI, if_neg (by omega)]
        exact z3
      · exact z5
      · exact sx_pI sz (decide_eq_true (by omega))
    · intro Q' k' hk'
      rw [z7, hT2.2.1]
      have hno : ¬ (e < L ∧ b e = 39 ∧ e - (p + 1) ≤ 8) → wp (k' 0) Q' := fun h => hk' 0 (by rw [decide_eq_false h]; rfl)
      refine wpj ?_
      by_cases he : e = L
      · exact wpt (by rw [he]; simp (disch := first | omega | decide) only [↓neg1, nlit, rI, rL, rI2, rL1, nI_add, pk_mul, sbT, dvT, nmd, ixT, ↓ibT, ltT, ltF, leT, leF, eqT, eqF, nM_ltT, nM_ltF, nM_leT, nM_leF, nM_eqF, nM_eqF', nbT0, nbT1, oI_s, oI_n, natF, natT, nltT, nltF, nleT, nleF, ↓reduceIte, lgc, not_true_eq_false, not_false_eq_true, or_false, false_or, or_true, true_or, and_true, true_and, and_false, false_and, ne_eq, eq_self, or_self, and_self]) (hno (by omega))
      · obtain ⟨hb, ht⟩ := hT2.2.2 e (by omega)
        refine wpf (by simp (disch := first | omega | decide) only [↓neg1, nlit, rI, rL, rI2, rL1, nI_add, pk_mul, sbT, dvT, nmd, ixT, ↓ibT, ltT, ltF, leT, leF, eqT, eqF, nM_ltT, nM_ltF, nM_leT, nM_leF, nM_eqF, nM_eqF', nbT0, nbT1, oI_s, oI_n, natF, natT, nltT, nltF, nleT, nleF, ↓reduceIte, lgc, not_true_eq_false, not_false_eq_true, or_false, false_or, or_true, true_or, and_true, true_and, and_false, false_and, ne_eq, eq_self, or_self, and_self]) (wpt (by simp (disch := first | omega | decide) only [↓neg1, nlit, rI, rL, rI2, rL1, nI_add, pk_mul, sbT, dvT, nmd, ixT, ↓ibT, ltT, ltF, leT, leF, eqT, eqF, nM_ltT, nM_ltF, nM_leT, nM_leF, nM_eqF, nM_eqF', nbT0, nbT1, oI_s, oI_n, natF, natT, nltT, nltF, nleT, nleF, ↓reduceIte, lgc, not_true_eq_false, not_false_eq_true, or_false, false_or, or_true, true_or, and_true, true_and, and_false, false_and, ne_eq, eq_self, or_self, and_self]) ?_)
        rw [ix_n (by omega), ht]
        by_cases e39 : b e = 39
        · rw [subN (by omega) (by omega)]
          refine wpt ((sb_eq hb (by decide)).mpr e39) ?_
          by_cases h8 : e - (p + 1) ≤ 8
          · exact wpf (by simp (disch := first | omega | decide) only [↓neg1, nlit, rI, rL, rI2, rL1, nI_add, pk_mul, sbT, dvT, nmd, ixT, ↓ibT, ltT, ltF, leT, leF, eqT, eqF, nM_ltT, nM_ltF, nM_leT, nM_leF, nM_eqF, nM_eqF', nbT0, nbT1, oI_s, oI_n, natF, natT, nltT, nltF, nleT, nleF, ↓reduceIte, lgc, not_true_eq_false, not_false_eq_true, or_false, false_or, or_true, true_or, and_true, true_and, and_false, false_and, ne_eq, eq_self, or_self, and_self]) (hk' 1 (by rw [decide_eq_true ⟨by omega, e39, h8⟩]; rfl))
          · exact wpt (by simp (disch := first | omega | decide) only [↓neg1, nlit, rI, rL, rI2, rL1, nI_add, pk_mul, sbT, dvT, nmd, ixT, ↓ibT, ltT, ltF, leT, leF, eqT, eqF, nM_ltT, nM_ltF, nM_leT, nM_leF, nM_eqF, nM_eqF', nbT0, nbT1, oI_s, oI_n, natF, natT, nltT, nltF, nleT, nleF, ↓reduceIte, lgc, not_true_eq_false, not_false_eq_true, or_false, false_or, or_true, true_or, and_true, true_and, and_false, false_and, ne_eq, eq_self, or_self, and_self]) (hno (by omega))
        · exact wpf (fun z => e39 ((sb_eq hb (a := 39) (by decide)).mp z)) (hno (by omega))
theorem e171 (hn : 10000 ≤ n) (hW : WV c) (hT : TAP c b L) (hp : p < L) (h7 : c.1 1 7 = nI p) (h6 : c.1 1 6 = nI i) (hi : i ≤ 4000) : wp (d_171 n c) (CTR b L p i c) := by
  have hL := hT.1
  obtain ⟨hb, ht⟩ := hT.2.2 p hp
  have hbool : ∀ {x : Option (Int32 × cS)}, wp x (CTR b L p i c) → wp (Option.bind x (fun r => if nb r.1 then some (r.1, r.2) else none)) (CTR b L p i c) := fun h => wpc h (fun r hr => wpt (by rw [hr.1]; split <;> decide) hr)
  unfold d_171
  rw [h7]
  refine wpt (by simp (disch := first | omega | decide) only [↓neg1, nlit, rI, rL, rI2, rL1, nI_add, pk_mul, sbT, dvT, nmd, ixT, ↓ibT, ltT, ltF, leT, leF, eqT, eqF, nM_ltT, nM_ltF, nM_leT, nM_leF, nM_eqF, nM_eqF', nbT0, nbT1, oI_s, oI_n, natF, natT, nltT, nltF, nleT, nleF, ↓reduceIte, lgc, not_true_eq_false, not_false_eq_true, or_false, false_or, or_true, true_or, and_true, true_and, and_false, false_and, ne_eq, eq_self, or_self, and_self]) ?_
  rw [ix_n (by omega), ht, sb_255 hb]
  refine wpl (wpe (e352n hb) ?_)
  by_cases hl : lxL (b p) = true
  · exact wpf (by rw [if_pos hl]; decide) (hbool (e172 hn hW hT hp h7 h6 hi hl))
  · have hl' : lxL (b p) = false := by simpa using hl
    refine wpt (by rw [if_neg hl]) (wpe (e353n hb) ?_)
    by_cases hd : lxD (b p) = true
    · exact wpf (by rw [if_pos hd]; decide) (hbool (e174 hn hT hp h7 h6 hi hl' hd))
    · have hd' : lxD (b p) = false := by simpa using hd
      refine wpt (by rw [if_neg hd]) ?_
      by_cases h39 : b p = 39
      · exact wpt (by rw [h39]; rfl) (hbool (e175 hn hT hp h7 h6 hi hl' hd' h39))
      · refine wpf (fun z => h39 ((nI_eq (by omega) (by decide)).mp (show _ = nI 39 from z))) ?_
        rw [h6]
        refine wpt (by simp (disch := first | omega | decide) only [↓neg1, nlit, rI, rL, rI2, rL1, nI_add, pk_mul, sbT, dvT, nmd, ixT, ↓ibT, ltT, ltF, leT, leF, eqT, eqF, nM_ltT, nM_ltF, nM_leT, nM_leF, nM_eqF, nM_eqF', nbT0, nbT1, oI_s, oI_n, natF, natT, nltT, nltF, nleT, nleF, ↓reduceIte, lgc, not_true_eq_false, not_false_eq_true, or_false, false_or, or_true, true_or, and_true, true_and, and_false, false_and, ne_eq, eq_self, or_self, and_self]) (wpl ?_)
        rw [ix_n (by omega)]
        have z7 : (pI c 3 i (nI (b p))).1 1 7 = nI p := by
          rw [rI, if_neg (by omega)]
          exact h7
        rw [z7, nI_1]
        obtain ⟨r, hr, hr2⟩ := e484 (n := n) (by omega) hb
        refine wpl (wpe hr ?_)
        have hO : tkO b L p = lxG (b p) := by unfold tkO; rw [if_neg hl, if_neg hd, if_neg h39]
        have hE : tkE b L p = p + 1 := by unfold tkE; rw [if_neg hl, if_neg hd, if_neg h39]
        have hK : tkC b L p = b p := by unfold tkC; rw [if_neg hl, if_neg hd, if_neg h39]
        have hH : tkH b p = false := by unfold tkH; rw [hl', hd', decide_eq_false h39]; rfl
        refine wpjQ (fun r : Int32 => r = (if tkO b L p = true then 1 else 0)) (fun r hr => ?_) ?_
        · refine wpt (by rw [hr]; split <;> decide) ⟨hr, ?_, ?_, fun z => ?_, ?_⟩
          · rw [rI, if_pos ⟨rfl, rfl⟩, hE]
          · rw [rI, if_neg (by omega), rI, if_pos ⟨rfl, rfl⟩, hK]
          · rw [hH] at z
            cases z
          · exact sx_pI (sx_pI sx_rfl (decide_eq_true (by omega))) (decide_eq_true (by omega))
        · intro Q' k' hk'
          by_cases hg : lxG (b p) = true
          · exact wpf (fun z => by rw [hr2.mp z] at hg; cases hg) (hk' 1 (by rw [hO, if_pos hg]))
          · exact wpt (hr2.mpr (by simpa using hg)) (hk' 0 (by rw [hO, if_neg hg]))
end LXC
