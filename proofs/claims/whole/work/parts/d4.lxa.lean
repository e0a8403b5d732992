/-! READING: the class cuts all -/
section LXA
variable {n v p k i L N : Nat} {b : Nat → Nat} {c d w : cS}
/-- where the reading of LEXEME i begins, blanks ahead; where it stands -/
def pre (b : Nat → Nat) (L : Nat) : Nat → Nat
  | 0 => 0
  | k + 1 => tkE b L (spE lxB b L (pre b L k))
def psn (b : Nat → Nat) (L i : Nat) : Nat := spE lxB b L (pre b L i)
theorem tkE_gt (hp : p < L) : p < tkE b L p := by
  unfold tkE
  by_cases hl : lxL (b p) = true
  · rw [if_pos hl, spE_s hp (by unfold lxLD; rw [hl]; rfl)]
    exact (spE_in (by omega)).1
  · rw [if_neg hl]
    by_cases hd : lxD (b p) = true
    · rw [if_pos hd, spE_s hp hd]
      exact (spE_in (by omega)).1
    · rw [if_neg hd]
      by_cases h39 : b p = 39
      · rw [if_pos h39]
        have := (spE_in (q := lxT) (b := b) (L := L) (p := p + 1) (by omega)).1
        omega
      · rw [if_neg h39]
        omega
theorem tkE_le (hp : p < L) (ho : tkO b L p = true) : tkE b L p ≤ L := by
  unfold tkE
  unfold tkO at ho
  by_cases hl : lxL (b p) = true
  · rw [if_pos hl]
    exact (spE_in (by omega)).2.1
  · rw [if_neg hl] at ho ⊢
    by_cases hd : lxD (b p) = true
    · rw [if_pos hd]
      exact (spE_in (by omega)).2.1
    · rw [if_neg hd] at ho ⊢
      by_cases h39 : b p = 39
      · rw [if_pos h39] at ho ⊢
        have := (of_decide_eq_true ho).1
        omega
      · rw [if_neg h39]
        omega
def LXN (b : Nat → Nat) (L N : Nat) : Prop := (∀ i, i < N → psn b L i < L ∧ tkO b L (psn b L i) = true) ∧ (psn b L N = L ∨ (psn b L N < L ∧ tkO b L (psn b L N) = false))
theorem psn_le : ∀ i, (∀ j, j < i → psn b L j < L ∧ tkO b L (psn b L j) = true) → pre b L i ≤ L ∧ psn b L i ≤ L ∧ i ≤ pre b L i ∧ pre b L i ≤ psn b L i
  | 0, _ => by
    have := spE_in (q := lxB) (b := b) (L := L) (p := 0) (by omega)
    exact ⟨Nat.zero_le _, this.2.1, Nat.le_refl _, this.1⟩
  | i + 1, h => by
    have ih := psn_le i (fun j hj => h j (by omega))
    obtain ⟨h1, h2⟩ := h i (by omega)
    have e1 : pre b L (i + 1) = tkE b L (psn b L i) := rfl
    have h3 := tkE_gt (b := b) h1
    have h4 := tkE_le h1 h2
    have := spE_in (q := lxB) (b := b) (L := L) (p := pre b L (i + 1)) (by omega)
    refine ⟨by omega, this.2.1, by omega, this.1⟩
theorem LXN_ex : ∃ N, N ≤ L ∧ LXN b L N := by
  have key : ∀ t i, (∀ j, j < i → psn b L j < L ∧ tkO b L (psn b L j) = true) → L - psn b L i ≤ t → ∃ N, N ≤ L ∧ LXN b L N := by
    intro t
    induction t with
    | zero =>
      intro i h ht
      have := psn_le i h
      exact ⟨i, by omega, h, Or.inl (by omega)⟩
    | succ t ih =>
      intro i h ht
      have h1 := psn_le i h
      by_cases e : psn b L i = L
      · exact ⟨i, by omega, h, Or.inl e⟩
      · by_cases e2 : tkO b L (psn b L i) = true
        · have hi : ∀ j, j < i + 1 → psn b L j < L ∧ tkO b L (psn b L j) = true := fun j hj => by
            by_cases e3 : j = i
            · rw [e3]
              exact ⟨by omega, e2⟩
            · exact h j (by omega)
          refine ih (i + 1) hi ?_
          have h2 := psn_le (i + 1) hi
          have h3 := tkE_gt (b := b) (hi i (by omega)).1
          have e1 : pre b L (i + 1) = tkE b L (psn b L i) := rfl
          omega
        · exact ⟨i, by omega, h, Or.inr ⟨by omega, by simpa using e2⟩⟩
  exact key L 0 (fun j hj => absurd hj (Nat.not_lt_zero _)) (by omega)
theorem e26 (hn : 10000 ≤ n) (hT : TAP c b L) (hp : p ≤ L) (h7 : c.1 1 7 = nI p) : wp (d_26 n c) (fun d => d.1 1 7 = nI (spE lxB b L p) ∧ sx q17 c d) := by
  obtain ⟨s1, s2, s3, s4⟩ := spE_in (q := lxB) (b := b) hp
  have hL := hT.1
  generalize spE lxB b L p = e at *
  unfold d_26
  refine wpc (K' := fun d : cS => d.1 1 7 = nI e ∧ sx q17 c d) (whl_cnt (fun k (st : cS) => st.1 1 7 = nI (p + k) ∧ sx q17 c st) (e - p) ?_ ?_ (by omega) ⟨h7, sx_rfl⟩) (fun d hd => hd)
  · rintro k w hk ⟨g2, g3⟩
    have hT1 := TAP_sx hT g3 rfl (fun _ => rfl)
    obtain ⟨hb, ht⟩ := hT1.2.2 (p + k) (by omega)
    have hq := s3 (p + k) (by omega) (by omega)
    rw [g2, hT1.2.1]
    refine wpf (by simp (disch := first | omega | decide) only [↓neg1, nlit, rI, rL, rI2, rL1, nI_add, pk_mul, sbT, dvT, nmd, ixT, ↓ibT, ltT, ltF, leT, leF, eqT, eqF, nM_ltT, nM_ltF, nM_leT, nM_leF, nM_eqF, nM_eqF', nbT0, nbT1, oI_s, oI_n, natF, natT, nltT, nltF, nleT, nleF, ↓reduceIte, lgc, not_true_eq_false, not_false_eq_true, or_false, false_or, or_true, true_or, and_true, true_and, and_false, false_and, ne_eq, eq_self, or_self, and_self]) (wpt (by simp (disch := first | omega | decide) only [↓neg1, nlit, rI, rL, rI2, rL1, nI_add, pk_mul, sbT, dvT, nmd, ixT, ↓ibT, ltT, ltF, leT, leF, eqT, eqF, nM_ltT, nM_ltF, nM_leT, nM_leF, nM_eqF, nM_eqF', nbT0, nbT1, oI_s, oI_n, natF, natT, nltT, nltF, nleT, nleF, ↓reduceIte, lgc, not_true_eq_false, not_false_eq_true, or_false, false_or, or_true, true_or, and_true, true_and, and_false, false_and, ne_eq, eq_self, or_self, and_self]) ?_)
    rw [ix_n (by omega), ht]
    have hfin : wp (some (Sum.inl (pI w 1 7 (nI (p + k) + 1))) : Option (cS ⊕ cS)) (Sum.elim (fun st : cS => st.1 1 7 = nI (p + (k + 1)) ∧ sx q17 c st) (fun d : cS => d.1 1 7 = nI e ∧ sx q17 c d)) := by
      refine ⟨?_, sx_pI g3 rfl⟩
      show (pI w 1 7 (nI (p + k) + 1)).1 1 7 = _
      rw [rI, if_pos ⟨rfl, rfl⟩, nI_1]
      rfl
    refine wpj ?_
    by_cases h : b (p + k) = 32
    · exact wpt ((sb_eq hb (by decide)).mpr h) (wpl hfin)
    · have h10 : b (p + k) = 10 := by
        unfold lxB at hq
        simpa [h] using hq
      exact wpf (fun z => h ((sb_eq hb (a := 32) (by decide)).mp z)) (wpt (by simp (disch := first | omega | decide) only [↓neg1, nlit, rI, rL, rI2, rL1, nI_add, pk_mul, sbT, dvT, nmd, ixT, ↓ibT, ltT, ltF, leT, leF, eqT, eqF, nM_ltT, nM_ltF, nM_leT, nM_leF, nM_eqF, nM_eqF', nbT0, nbT1, oI_s, oI_n, natF, natT, nltT, nltF, nleT, nleF, ↓reduceIte, lgc, not_true_eq_false, not_false_eq_true, or_false, false_or, or_true, true_or, and_true, true_and, and_false, false_and, ne_eq, eq_self, or_self, and_self]) (wpt ((sb_eq hb (by decide)).mpr h10) (wpl hfin)))
  · rintro w ⟨g2, g3⟩
    rw [show p + (e - p) = e by omega] at g2
    have hT1 := TAP_sx hT g3 rfl (fun _ => rfl)
    rw [g2, hT1.2.1]
    by_cases he : e = L
    · exact wpt (by rw [he]; simp (disch := first | omega | decide) only [↓neg1, nlit, rI, rL, rI2, rL1, nI_add, pk_mul, sbT, dvT, nmd, ixT, ↓ibT, ltT, ltF, leT, leF, eqT, eqF, nM_ltT, nM_ltF, nM_leT, nM_leF, nM_eqF, nM_eqF', nbT0, nbT1, oI_s, oI_n, natF, natT, nltT, nltF, nleT, nleF, ↓reduceIte, lgc, not_true_eq_false, not_false_eq_true, or_false, false_or, or_true, true_or, and_true, true_and, and_false, false_and, ne_eq, eq_self, or_self, and_self]) ⟨g2, g3⟩
    · obtain ⟨hb, ht⟩ := hT1.2.2 e (by omega)
      have hq := s4 (by omega)
      unfold lxB at hq
      have h32 : b e ≠ 32 := fun z => by rw [z] at hq; cases hq
      have h10 : b e ≠ 10 := fun z => by rw [z] at hq; cases hq
      refine wpf (by simp (disch := first | omega | decide) only [↓neg1, nlit, rI, rL, rI2, rL1, nI_add, pk_mul, sbT, dvT, nmd, ixT, ↓ibT, ltT, ltF, leT, leF, eqT, eqF, nM_ltT, nM_ltF, nM_leT, nM_leF, nM_eqF, nM_eqF', nbT0, nbT1, oI_s, oI_n, natF, natT, nltT, nltF, nleT, nleF, ↓reduceIte, lgc, not_true_eq_false, not_false_eq_true, or_false, false_or, or_true, true_or, and_true, true_and, and_false, false_and, ne_eq, eq_self, or_self, and_self]) (wpt (by simp (disch := first | omega | decide) only [↓neg1, nlit, rI, rL, rI2, rL1, nI_add, pk_mul, sbT, dvT, nmd, ixT, ↓ibT, ltT, ltF, leT, leF, eqT, eqF, nM_ltT, nM_ltF, nM_leT, nM_leF, nM_eqF, nM_eqF', nbT0, nbT1, oI_s, oI_n, natF, natT, nltT, nltF, nleT, nleF, ↓reduceIte, lgc, not_true_eq_false, not_false_eq_true, or_false, false_or, or_true, true_or, and_true, true_and, and_false, false_and, ne_eq, eq_self, or_self, and_self]) ?_)
      rw [ix_n (by omega), ht]
      exact wpj (wpf (fun z => h32 ((sb_eq hb (a := 32) (by decide)).mp z)) (wpt (by simp (disch := first | omega | decide) only [↓neg1, nlit, rI, rL, rI2, rL1, nI_add, pk_mul, sbT, dvT, nmd, ixT, ↓ibT, ltT, ltF, leT, leF, eqT, eqF, nM_ltT, nM_ltF, nM_leT, nM_leF, nM_eqF, nM_eqF', nbT0, nbT1, oI_s, oI_n, natF, natT, nltT, nltF, nleT, nleF, ↓reduceIte, lgc, not_true_eq_false, not_false_eq_true, or_false, false_or, or_true, true_or, and_true, true_and, and_false, false_and, ne_eq, eq_self, or_self, and_self]) (wpf (fun z => h10 ((sb_eq hb (a := 10) (by decide)).mp z)) ⟨g2, g3⟩)))
/-- LEXEMES written -/
def LXW (c : cS) (b : Nat → Nat) (L k : Nat) : Prop := ∀ j, j < k → c.1 3 j = nI (tkC b L (psn b L j)) ∧ c.1 4 j = nI (psn b L j) ∧ (tkH b (psn b L j) = true → c.2 5 j = tkV b L (psn b L j))
def qLx (A j : Nat) : Bool := decide ((A = 1 ∧ (j = 6 ∨ j = 7)) ∨ (3 ≤ A ∧ A ≤ 5))
theorem wLx {r : Nat → Nat → Bool} (h : sx r c d) (hr : ∀ A j, r A j = true → (A = 1 ∧ (j = 6 ∨ j = 7)) ∨ (3 ≤ A ∧ A ≤ 5)) : sx qLx c d := sx_wide h (fun A j z => by
  have z := of_decide_eq_false z
  cases e : r A j with
  | false => rfl
  | true => exact absurd (hr A j e) z)
theorem LXW_sx (h : LXW c b L k) (hs : sx (qL1 k) c d) : LXW d b L k := fun j hj => by
  obtain ⟨h1, h2, h3⟩ := h j hj
  rw [hs.1 3 j (decide_eq_false (by omega)), hs.1 4 j (decide_eq_false (by omega)), hs.2 5 j (decide_eq_false (by omega))]
  exact ⟨h1, h2, h3⟩
def CUTC (c : cS) (b : Nat → Nat) (L N : Nat) (r : Int32 × cS) : Prop := LXW r.2 b L N ∧ sx qLx c r.2 ∧ ((psn b L N = L ∧ r.1 = nM ∧ r.2.1 3 N = nI 0 ∧ r.2.1 4 N = nI L) ∨ (psn b L N < L ∧ tkO b L (psn b L N) = false ∧ r.1 = nI (psn b L N)))
theorem e25 (hn : 10000 ≤ n) (hW : WV c) (hT : TAP c b L) (hX : LXN b L N) : wp (d_25 n c) (CUTC c b L N) := by
  have hL := hT.1
  obtain ⟨x1, x2⟩ := hX
  have hN := psn_le N x1
  unfold d_25
  refine wpl (wpl ?_)
  have s0 : sx qLx c (pI (pI c 1 7 0) 1 6 0) := sx_pI (sx_pI sx_rfl rfl) rfl
  refine wpc (K' := fun r : cS ⊕ cS ⊕ cS => ∃ d, LXW d b L N ∧ sx qLx c d ∧ d.1 1 6 = nI N ∧ d.1 4 N = nI (psn b L N) ∧ ((psn b L N = L ∧ r = Sum.inr (Sum.inl d)) ∨ (psn b L N < L ∧ tkO b L (psn b L N) = false ∧ r = Sum.inr (Sum.inr d)))) (whl_cnt (fun k (st : Int32 × cS) => st.1 = nI k ∧ st.2.1 1 6 = nI k ∧ st.2.1 1 7 = nI (pre b L k) ∧ LXW st.2 b L k ∧ sx qLx c st.2) N ?_ ?_ (by omega) ⟨rfl, ?_, ?_, fun j hj => absurd hj (Nat.not_lt_zero _), s0⟩) (fun r hr => ?_)
  · rintro k ⟨k0, w⟩ hk ⟨g1, g2, g3, g4, g5⟩
    dsimp only at g1 g2 g3 g4 g5
    subst g1
    dsimp only
    have hk' := psn_le k (fun j hj => x1 j (by omega))
    obtain ⟨p1, p2⟩ := x1 k hk
    refine wpf (by simp (disch := first | omega | decide) only [↓neg1, nlit, rI, rL, rI2, rL1, nI_add, pk_mul, sbT, dvT, nmd, ixT, ↓ibT, ltT, ltF, leT, leF, eqT, eqF, nM_ltT, nM_ltF, nM_leT, nM_leF, nM_eqF, nM_eqF', nbT0, nbT1, oI_s, oI_n, natF, natT, nltT, nltF, nleT, nleF, ↓reduceIte, lgc, not_true_eq_false, not_false_eq_true, or_false, false_or, or_true, true_or, and_true, true_and, and_false, false_and, ne_eq, eq_self, or_self, and_self]) ?_
    refine wpc (e26 hn (TAP_sx hT g5 rfl (fun _ => rfl)) hk'.1 g3) (fun d hd => ?_)
    obtain ⟨d1, d2⟩ := hd
    have d6 : d.1 1 6 = nI k := (d2.1 1 6 rfl).trans g2
    rw [d6, d1]
    refine wpt (by simp (disch := first | omega | decide) only [↓neg1, nlit, rI, rL, rI2, rL1, nI_add, pk_mul, sbT, dvT, nmd, ixT, ↓ibT, ltT, ltF, leT, leF, eqT, eqF, nM_ltT, nM_ltF, nM_leT, nM_leF, nM_eqF, nM_eqF', nbT0, nbT1, oI_s, oI_n, natF, natT, nltT, nltF, nleT, nleF, ↓reduceIte, lgc, not_true_eq_false, not_false_eq_true, or_false, false_or, or_true, true_or, and_true, true_and, and_false, false_and, ne_eq, eq_self, or_self, and_self]) ?_
    rw [ix_n (by omega)]
    refine wpl ?_
    have s9 : sx qLx c (pI d 4 k (nI (spE lxB b L (pre b L k)))) := sx_pI (sx_trans g5 (wLx d2 (fun A j z => by have := of_decide_eq_true z; omega))) (decide_eq_true (by omega))
    have W9 : LXW (pI d 4 k (nI (spE lxB b L (pre b L k)))) b L k := fun j hj => by
      obtain ⟨h1, h2, h3⟩ := g4 j hj
      refine ⟨?_, ?_, fun z => ?_⟩
      · rw [rI, if_neg (by omega), d2.1 3 j rfl]
        exact h1
      · rw [rI, if_neg (by omega), d2.1 4 j rfl]
        exact h2
      · show d.2 5 j = _
        rw [d2.2 5 j rfl]
        exact h3 z
    have q4 : (pI d 4 k (nI (spE lxB b L (pre b L k)))).1 4 k = nI (psn b L k) := by rw [rI, if_pos ⟨rfl, rfl⟩]; rfl
    have q7 : (pI d 4 k (nI (spE lxB b L (pre b L k)))).1 1 7 = nI (psn b L k) := by rw [rI, if_neg (by omega)]; exact d1
    have q6 : (pI d 4 k (nI (spE lxB b L (pre b L k)))).1 1 6 = nI k := by rw [rI, if_neg (by omega)]; exact d6
    generalize pI d 4 k (nI (spE lxB b L (pre b L k))) = z at *
    have hTz := TAP_sx hT s9 rfl (fun _ => rfl)
    have hWz : WV z := fun j hj => (s9.2 6 j (decide_eq_false (by omega))).trans (hW j hj)
    rw [q7, hTz.2.1]
    refine wpt (by simp (disch := first | omega | decide) only [↓neg1, nlit, rI, rL, rI2, rL1, nI_add, pk_mul, sbT, dvT, nmd, ixT, ↓ibT, ltT, ltF, leT, leF, eqT, eqF, nM_ltT, nM_ltF, nM_leT, nM_leF, nM_eqF, nM_eqF', nbT0, nbT1, oI_s, oI_n, natF, natT, nltT, nltF, nleT, nleF, ↓reduceIte, lgc, not_true_eq_false, not_false_eq_true, or_false, false_or, or_true, true_or, and_true, true_and, and_false, false_and, ne_eq, eq_self, or_self, and_self]) (wpc (e171 hn hWz hTz p1 q7 q6 (by omega)) (fun r hr => ?_))
    obtain ⟨r1, r2, r3, r4, r5⟩ := hr
    have r6 : r.2.1 1 6 = nI k := (r5.1 1 6 (decide_eq_false (by omega))).trans q6
    rw [if_pos p2] at r1
    refine wpf (by rw [r1]; decide) (wpl ?_)
    rw [r6, nI_1]
    refine wpl ⟨rfl, ?_, ?_, fun j hj => ?_, ?_⟩
    · show (pI r.2 1 6 _).1 1 6 = _
      rw [rI, if_pos ⟨rfl, rfl⟩]
    · show (pI r.2 1 6 _).1 1 7 = _
      rw [rI, if_neg (by omega)]
      exact r2
    · show (pI r.2 1 6 _).1 3 j = _ ∧ (pI r.2 1 6 _).1 4 j = _ ∧ (_ → r.2.2 5 j = _)
      rw [rI, if_neg (by omega), rI, if_neg (by omega)]
      by_cases e : j = k
      · subst e
        exact ⟨r3, (r5.1 4 j (decide_eq_false (by omega))).trans q4, r4⟩
      · exact LXW_sx W9 r5 j (by omega)
    · exact sx_pI (sx_trans s9 (wLx r5 (fun A j z => by have := of_decide_eq_true z; omega))) rfl
  · rintro ⟨k0, w⟩ ⟨g1, g2, g3, g4, g5⟩
    dsimp only at g1 g2 g3 g4 g5
    subst g1
    dsimp only
    refine wpf (by simp (disch := first | omega | decide) only [↓neg1, nlit, rI, rL, rI2, rL1, nI_add, pk_mul, sbT, dvT, nmd, ixT, ↓ibT, ltT, ltF, leT, leF, eqT, eqF, nM_ltT, nM_ltF, nM_leT, nM_leF, nM_eqF, nM_eqF', nbT0, nbT1, oI_s, oI_n, natF, natT, nltT, nltF, nleT, nleF, ↓reduceIte, lgc, not_true_eq_false, not_false_eq_true, or_false, false_or, or_true, true_or, and_true, true_and, and_false, false_and, ne_eq, eq_self, or_self, and_self]) ?_
    refine wpc (e26 hn (TAP_sx hT g5 rfl (fun _ => rfl)) hN.1 g3) (fun d hd => ?_)
    obtain ⟨d1, d2⟩ := hd
    have d6 : d.1 1 6 = nI N := (d2.1 1 6 rfl).trans g2
    rw [d6, d1]
    refine wpt (by simp (disch := first | omega | decide) only [↓neg1, nlit, rI, rL, rI2, rL1, nI_add, pk_mul, sbT, dvT, nmd, ixT, ↓ibT, ltT, ltF, leT, leF, eqT, eqF, nM_ltT, nM_ltF, nM_leT, nM_leF, nM_eqF, nM_eqF', nbT0, nbT1, oI_s, oI_n, natF, natT, nltT, nltF, nleT, nleF, ↓reduceIte, lgc, not_true_eq_false, not_false_eq_true, or_false, false_or, or_true, true_or, and_true, true_and, and_false, false_and, ne_eq, eq_self, or_self, and_self]) ?_
    rw [ix_n (by omega)]
    refine wpl ?_
    have s9 : sx qLx c (pI d 4 N (nI (spE lxB b L (pre b L N)))) := sx_pI (sx_trans g5 (wLx d2 (fun A j z => by have := of_decide_eq_true z; omega))) (decide_eq_true (by omega))
    have W9 : LXW (pI d 4 N (nI (spE lxB b L (pre b L N)))) b L N := fun j hj => by
      obtain ⟨h1, h2, h3⟩ := g4 j hj
      refine ⟨?_, ?_, fun z => ?_⟩
      · rw [rI, if_neg (by omega), d2.1 3 j rfl]
        exact h1
      · rw [rI, if_neg (by omega), d2.1 4 j rfl]
        exact h2
      · show d.2 5 j = _
        rw [d2.2 5 j rfl]
        exact h3 z
    have q4 : (pI d 4 N (nI (spE lxB b L (pre b L N)))).1 4 N = nI (psn b L N) := by rw [rI, if_pos ⟨rfl, rfl⟩]; rfl
    have q7 : (pI d 4 N (nI (spE lxB b L (pre b L N)))).1 1 7 = nI (psn b L N) := by rw [rI, if_neg (by omega)]; exact d1
    have q6 : (pI d 4 N (nI (spE lxB b L (pre b L N)))).1 1 6 = nI N := by rw [rI, if_neg (by omega)]; exact d6
    generalize pI d 4 N (nI (spE lxB b L (pre b L N))) = z at *
    have hTz := TAP_sx hT s9 rfl (fun _ => rfl)
    have hWz : WV z := fun j hj => (s9.2 6 j (decide_eq_false (by omega))).trans (hW j hj)
    rw [q7, hTz.2.1]
    rcases x2 with x2 | ⟨x2, x3⟩
    · exact wpf (by rw [x2]; simp (disch := first | omega | decide) only [↓neg1, nlit, rI, rL, rI2, rL1, nI_add, pk_mul, sbT, dvT, nmd, ixT, ↓ibT, ltT, ltF, leT, leF, eqT, eqF, nM_ltT, nM_ltF, nM_leT, nM_leF, nM_eqF, nM_eqF', nbT0, nbT1, oI_s, oI_n, natF, natT, nltT, nltF, nleT, nleF, ↓reduceIte, lgc, not_true_eq_false, not_false_eq_true, or_false, false_or, or_true, true_or, and_true, true_and, and_false, false_and, ne_eq, eq_self, or_self, and_self]) ⟨z, W9, s9, q6, q4, Or.inl ⟨x2, rfl⟩⟩
    · refine wpt (by simp (disch := first | omega | decide) only [↓neg1, nlit, rI, rL, rI2, rL1, nI_add, pk_mul, sbT, dvT, nmd, ixT, ↓ibT, ltT, ltF, leT, leF, eqT, eqF, nM_ltT, nM_ltF, nM_leT, nM_leF, nM_eqF, nM_eqF', nbT0, nbT1, oI_s, oI_n, natF, natT, nltT, nltF, nleT, nleF, ↓reduceIte, lgc, not_true_eq_false, not_false_eq_true, or_false, false_or, or_true, true_or, and_true, true_and, and_false, false_and, ne_eq, eq_self, or_self, and_self]) (wpc (e171 hn hWz hTz x2 q7 q6 (by omega)) (fun r hr => ?_))
      obtain ⟨r1, r2, r3, r4, r5⟩ := hr
      rw [if_neg (by rw [x3]; decide)] at r1
      exact wpt r1 ⟨r.2, LXW_sx W9 r5, sx_trans s9 (wLx r5 (fun A j z => by have := of_decide_eq_true z; omega)), (r5.1 1 6 (decide_eq_false (by omega))).trans q6, (r5.1 4 N (decide_eq_false (by omega))).trans q4, Or.inr ⟨x2, x3, rfl⟩⟩
  · show (pI (pI c 1 7 0) 1 6 0).1 1 6 = _
    rw [rI, if_pos ⟨rfl, rfl⟩]
    rfl
  · show (pI (pI c 1 7 0) 1 6 0).1 1 7 = _
    rw [rI, if_neg (by omega), rI, if_pos ⟨rfl, rfl⟩]
    rfl
  · obtain ⟨d, a1, a2, a3, a4, a5⟩ := hr
    rcases a5 with ⟨a5, rfl⟩ | ⟨a5, a6, rfl⟩
    · show wp (if ib (d.1 1 6) 4001 then _ else none) _
      rw [a3]
      refine wpt (by simp (disch := first | omega | decide) only [↓neg1, nlit, rI, rL, rI2, rL1, nI_add, pk_mul, sbT, dvT, nmd, ixT, ↓ibT, ltT, ltF, leT, leF, eqT, eqF, nM_ltT, nM_ltF, nM_leT, nM_leF, nM_eqF, nM_eqF', nbT0, nbT1, oI_s, oI_n, natF, natT, nltT, nltF, nleT, nleF, ↓reduceIte, lgc, not_true_eq_false, not_false_eq_true, or_false, false_or, or_true, true_or, and_true, true_and, and_false, false_and, ne_eq, eq_self, or_self, and_self]) ?_
      rw [ix_n (by omega)]
      refine wpl ⟨fun j hj => ?_, sx_pI a2 (decide_eq_true (by omega)), Or.inl ⟨a5, rfl, ?_, ?_⟩⟩
      · obtain ⟨h1, h2, h3⟩ := a1 j hj
        refine ⟨?_, ?_, h3⟩
        · rw [rI, if_neg (by omega)]
          exact h1
        · rw [rI, if_neg (by omega)]
          exact h2
      · rw [rI, if_pos ⟨rfl, rfl⟩]
        rfl
      · rw [rI, if_neg (by omega), ← a5]
        exact a4
    · show wp (if ib (d.1 1 6) 4001 then _ else none) _
      rw [a3]
      refine wpt (by simp (disch := first | omega | decide) only [↓neg1, nlit, rI, rL, rI2, rL1, nI_add, pk_mul, sbT, dvT, nmd, ixT, ↓ibT, ltT, ltF, leT, leF, eqT, eqF, nM_ltT, nM_ltF, nM_leT, nM_leF, nM_eqF, nM_eqF', nbT0, nbT1, oI_s, oI_n, natF, natT, nltT, nltF, nleT, nleF, ↓reduceIte, lgc, not_true_eq_false, not_false_eq_true, or_false, false_or, or_true, true_or, and_true, true_and, and_false, false_and, ne_eq, eq_self, or_self, and_self]) ?_
      rw [ix_n (by omega)]
      exact ⟨a1, a2, Or.inr ⟨a5, a6, a4⟩⟩
end LXA
