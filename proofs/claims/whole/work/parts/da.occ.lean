/-! READING an ORDER: the class closes what is told -/
section OCC
variable {n m a b k o N : Nat} {c d w : cS} {R W : Nat → Nat → Bool} {p q : Nat → Bool} {x y : Int32}
/-- the low N bits of x say where p holds; it has no others -/
def BRb (x : Int32) (N : Nat) (p : Nat → Bool) : Prop := ∃ u, u < 2 ^ N ∧ x = nI u ∧ ∀ b, b < N → u.testBit b = p b
theorem BRb_or (h : BRb x N p) (g : BRb y N q) : BRb (x ||| y) N (fun b => p b || q b) := by
  obtain ⟨u, h1, h2, h3⟩ := h
  obtain ⟨v, g1, g2, g3⟩ := g
  refine ⟨u ||| v, Nat.or_lt_two_pow h1 g1, by rw [h2, g2, nI_or], fun b hb => ?_⟩
  rw [Nat.testBit_or, h3 b hb, g3 b hb]
theorem BRb_and (h : BRb x N p) (g : BRb y N q) : BRb (x &&& y) N (fun b => p b && q b) := by
  obtain ⟨u, h1, h2, h3⟩ := h
  obtain ⟨v, g1, g2, g3⟩ := g
  refine ⟨u &&& v, Nat.and_lt_two_pow u g1, by rw [h2, g2, nI_and], fun b hb => ?_⟩
  rw [Nat.testBit_and, h3 b hb, g3 b hb]
theorem BRb_cg (h : BRb x N p) (hp : ∀ b, b < N → p b = q b) : BRb x N q := by
  obtain ⟨u, h1, h2, h3⟩ := h
  exact ⟨u, h1, h2, fun b hb => (h3 b hb).trans (hp b hb)⟩
theorem BRb_0 : BRb 0 N (fun _ => false) := ⟨0, Nat.two_pow_pos N, rfl, fun b _ => Nat.zero_testBit b⟩
theorem BRb_1 (hb : b < N) (hN : N ≤ 12) : BRb (1 <<< (nI b &&& 31)) N (fun j => decide (j = b)) := by
  refine ⟨2 ^ b, Nat.pow_lt_pow_right (by decide) hb, ?_, fun j hj => ?_⟩
  · have := pk_shlN (n := 1) (nI b &&& 31) b (shn (by omega)) (by
      have : 2 ^ b ≤ 2 ^ 12 := Nat.pow_le_pow_right (by decide) (by omega)
      omega)
    rw [Nat.one_mul] at this
    exact this
  · rw [Nat.testBit_two_pow]
    show decide (b = j) = decide (j = b)
    by_cases e : j = b
    · rw [decide_eq_true e, decide_eq_true e.symm]
    · rw [decide_eq_false e, decide_eq_false (fun z => e z.symm)]
theorem BRb_up (h : BRb x N p) (hp : p N = false) : BRb x (N + 1) p := by
  obtain ⟨u, h1, h2, h3⟩ := h
  refine ⟨u, Nat.lt_of_lt_of_le h1 (Nat.pow_le_pow_right (by decide) (by omega)), h2, fun b hb => ?_⟩
  by_cases e : b = N
  · rw [e, hp]
    exact Nat.testBit_lt_two_pow h1
  · exact h3 b (by omega)
theorem BRb_31 (h : BRb x N p) (hN : N ≤ 12) : ∃ u, u < 2 ^ 31 ∧ u < 2 ^ N ∧ x = nI u ∧ ∀ b, b < N → u.testBit b = p b := by
  obtain ⟨u, h1, h2, h3⟩ := h
  have : 2 ^ N ≤ 2 ^ 12 := Nat.pow_le_pow_right (by decide) hN
  exact ⟨u, by omega, h1, h2, h3⟩
theorem e237b (ha : a < 12) (hb : b < N) (hN : N ≤ 12) (h : BRb (c.1 (oA o + 2) a) N p) : d_237 n o (nI a) (nI b) c = some (if p b = true then 1 else 0) := by
  obtain ⟨u, h1, h2, h3, h4⟩ := BRb_31 h hN
  rw [e237 ha (by omega) h1 h3, h4 b hb]
/-- rows -/
def ROWb (c : cS) (A N : Nat) (W : Nat → Nat → Bool) : Prop := ∀ a, a < N → BRb (c.1 A a) N (W a)
def q2 (o A j : Nat) : Bool := decide (A = oA o + 2)
def q23 (o A j : Nat) : Bool := decide (A = oA o + 2 ∨ A = oA o + 3)
theorem e242 (hn : 100 ≤ n) (hN : N ≤ 12) (h1 : c.1 (oA o) 1 = nI N) (hR : ROWb c (oA o + 2) N R) : wp (d_242 n o c) (fun d => ROWb d (oA o + 2) N (wcl R N) ∧ ROWb d (oA o + 3) N (trn (wcl R N)) ∧ sx (q23 o) c d) := by
  unfold d_242
  refine wpc (K' := fun d : cS => ROWb d (oA o + 2) N (wcl R N) ∧ sx (q23 o) c d) (whl_cnt (fun k (st : Int32 × cS) => st.1 = nI k ∧ ROWb st.2 (oA o + 2) N (wcl R k) ∧ sx (q23 o) c st.2) N ?_ ?_ (by omega) ⟨rfl, hR, sx_rfl⟩) (fun x hx => ?_)
  · rintro k ⟨k0, w⟩ hk ⟨g1, g2, g3⟩
    dsimp only at g1 g2 g3
    subst g1
    dsimp only
    have w1 : w.1 (oA o) 1 = nI N := (g3.1 (oA o) 1 (decide_eq_false (by omega))).trans h1
    rw [w1]
    refine wpf (by simp (disch := first | omega | decide) only [↓neg1, nlit, rI, rL, rI2, rL1, nI_add, pk_mul, sbT, dvT, nmd, ixT, ↓ibT, ltT, ltF, leT, leF, eqT, eqF, nM_ltT, nM_ltF, nM_leT, nM_leF, nM_eqF, nM_eqF', nbT0, nbT1, oI_s, oI_n, natF, natT, nltT, nltF, nleT, nleF, ↓reduceIte, lgc, not_true_eq_false, not_false_eq_true, or_false, false_or, or_true, true_or, and_true, true_and, and_false, false_and, ne_eq, eq_self, or_self, and_self]) ?_
    refine wpc (K' := fun d : cS => ROWb d (oA o + 2) N (wcl R (k + 1)) ∧ sx (q23 o) c d) (whl_cnt (fun j (st : Int32 × cS) => st.1 = nI j ∧ (∀ a, a < N → BRb (st.2.1 (oA o + 2) a) N (if a < j then wcl R (k + 1) a else wcl R k a)) ∧ sx (q23 o) c st.2) N ?_ ?_ (by omega) ⟨rfl, fun a ha => by rw [if_neg (by omega)]; exact g2 a ha, g3⟩) (fun x hx => ?_)
    · rintro j ⟨j0, v⟩ hj ⟨y1, y2, y3⟩
      dsimp only at y1 y2 y3
      subst y1
      dsimp only
      have v1 : v.1 (oA o) 1 = nI N := (y3.1 (oA o) 1 (decide_eq_false (by omega))).trans h1
      rw [v1]
      have hrj := y2 j hj
      rw [if_neg (by omega)] at hrj
      have hrk : BRb (v.1 (oA o + 2) k) N (wcl R k k) := by
        have := y2 k hk
        by_cases e : k < j
        · rw [if_pos e] at this
          exact BRb_cg this (fun b _ => wcl_row)
        · rw [if_neg e] at this
          exact this
      refine wpf (by simp (disch := first | omega | decide) only [↓neg1, nlit, rI, rL, rI2, rL1, nI_add, pk_mul, sbT, dvT, nmd, ixT, ↓ibT, ltT, ltF, leT, leF, eqT, eqF, nM_ltT, nM_ltF, nM_leT, nM_leF, nM_eqF, nM_eqF', nbT0, nbT1, oI_s, oI_n, natF, natT, nltT, nltF, nleT, nleF, ↓reduceIte, lgc, not_true_eq_false, not_false_eq_true, or_false, false_or, or_true, true_or, and_true, true_and, and_false, false_and, ne_eq, eq_self, or_self, and_self]) (wpe (e237b (by omega) hk hN hrj) (wpjQ (fun z : cS => (∀ a, a < N → BRb (z.1 (oA o + 2) a) N (if a < j + 1 then wcl R (k + 1) a else wcl R k a)) ∧ sx (q23 o) c z) (fun z hz => wpl ⟨nI_1 j, hz.1, hz.2⟩) ?_))
      intro Q' k' hk'
      by_cases e : wcl R k j k = true
      · refine wpf (by rw [if_pos e]; decide) (wpt (by simp (disch := first | omega | decide) only [↓neg1, nlit, rI, rL, rI2, rL1, nI_add, pk_mul, sbT, dvT, nmd, ixT, ↓ibT, ltT, ltF, leT, leF, eqT, eqF, nM_ltT, nM_ltF, nM_leT, nM_leF, nM_eqF, nM_eqF', nbT0, nbT1, oI_s, oI_n, natF, natT, nltT, nltF, nleT, nleF, ↓reduceIte, lgc, not_true_eq_false, not_false_eq_true, or_false, false_or, or_true, true_or, and_true, true_and, and_false, false_and, ne_eq, eq_self, or_self, and_self]) (wpt (by simp (disch := first | omega | decide) only [↓neg1, nlit, rI, rL, rI2, rL1, nI_add, pk_mul, sbT, dvT, nmd, ixT, ↓ibT, ltT, ltF, leT, leF, eqT, eqF, nM_ltT, nM_ltF, nM_leT, nM_leF, nM_eqF, nM_eqF', nbT0, nbT1, oI_s, oI_n, natF, natT, nltT, nltF, nleT, nleF, ↓reduceIte, lgc, not_true_eq_false, not_false_eq_true, or_false, false_or, or_true, true_or, and_true, true_and, and_false, false_and, ne_eq, eq_self, or_self, and_self]) (wpt (by simp (disch := first | omega | decide) only [↓neg1, nlit, rI, rL, rI2, rL1, nI_add, pk_mul, sbT, dvT, nmd, ixT, ↓ibT, ltT, ltF, leT, leF, eqT, eqF, nM_ltT, nM_ltF, nM_leT, nM_leF, nM_eqF, nM_eqF', nbT0, nbT1, oI_s, oI_n, natF, natT, nltT, nltF, nleT, nleF, ↓reduceIte, lgc, not_true_eq_false, not_false_eq_true, or_false, false_or, or_true, true_or, and_true, true_and, and_false, false_and, ne_eq, eq_self, or_self, and_self]) ?_)))
        rw [ix_n (by omega), ix_n (by omega)]
        refine wpl (hk' _ ⟨fun a ha => ?_, sx_pI y3 (decide_eq_true (by omega))⟩)
        rw [rI]
        by_cases ea : a = j
        · subst ea
          rw [if_pos ⟨rfl, rfl⟩, if_pos (by omega)]
          refine BRb_cg (BRb_or hrj hrk) (fun b _ => ?_)
          show (wcl R k a b || wcl R k k b) = (wcl R k a b || (wcl R k a k && wcl R k k b))
          rw [e, Bool.true_and]
        · rw [if_neg (fun z => ea z.2)]
          have := y2 a ha
          by_cases e3 : a < j
          · rw [if_pos e3] at this
            rw [if_pos (by omega)]
            exact this
          · rw [if_neg e3] at this
            rw [if_neg (by omega)]
            exact this
      · refine wpt (by rw [if_neg e]) (hk' _ ⟨fun a ha => ?_, y3⟩)
        have := y2 a ha
        by_cases ea : a = j
        · subst ea
          rw [if_pos (by omega)]
          refine BRb_cg hrj (fun b _ => ?_)
          show wcl R k a b = (wcl R k a b || (wcl R k a k && wcl R k k b))
          rw [show wcl R k a k = false by simpa using e, Bool.false_and, Bool.or_false]
        · by_cases e3 : a < j
          · rw [if_pos e3] at this
            rw [if_pos (by omega)]
            exact this
          · rw [if_neg e3] at this
            rw [if_neg (by omega)]
            exact this
    · rintro ⟨j0, v⟩ ⟨y1, y2, y3⟩
      dsimp only at y1 y2 y3
      subst y1
      dsimp only
      have v1 : v.1 (oA o) 1 = nI N := (y3.1 (oA o) 1 (decide_eq_false (by omega))).trans h1
      rw [v1]
      refine wpt (by simp (disch := first | omega | decide) only [↓neg1, nlit, rI, rL, rI2, rL1, nI_add, pk_mul, sbT, dvT, nmd, ixT, ↓ibT, ltT, ltF, leT, leF, eqT, eqF, nM_ltT, nM_ltF, nM_leT, nM_leF, nM_eqF, nM_eqF', nbT0, nbT1, oI_s, oI_n, natF, natT, nltT, nltF, nleT, nleF, ↓reduceIte, lgc, not_true_eq_false, not_false_eq_true, or_false, false_or, or_true, true_or, and_true, true_and, and_false, false_and, ne_eq, eq_self, or_self, and_self]) ⟨fun a ha => ?_, y3⟩
      have := y2 a ha
      rw [if_pos ha] at this
      exact this
    · exact wpl ⟨nI_1 k, hx.1, hx.2⟩
  · rintro ⟨k0, w⟩ ⟨g1, g2, g3⟩
    dsimp only at g1 g2 g3
    subst g1
    dsimp only
    have w1 : w.1 (oA o) 1 = nI N := (g3.1 (oA o) 1 (decide_eq_false (by omega))).trans h1
    rw [w1]
    exact wpt (by simp (disch := first | omega | decide) only [↓neg1, nlit, rI, rL, rI2, rL1, nI_add, pk_mul, sbT, dvT, nmd, ixT, ↓ibT, ltT, ltF, leT, leF, eqT, eqF, nM_ltT, nM_ltF, nM_leT, nM_leF, nM_eqF, nM_eqF', nbT0, nbT1, oI_s, oI_n, natF, natT, nltT, nltF, nleT, nleF, ↓reduceIte, lgc, not_true_eq_false, not_false_eq_true, or_false, false_or, or_true, true_or, and_true, true_and, and_false, false_and, ne_eq, eq_self, or_self, and_self]) ⟨g2, g3⟩
  · obtain ⟨x1, x2⟩ := hx
    generalize hWd : wcl R N = W at *
    refine wpc (K' := fun d : cS => ROWb d (oA o + 2) N W ∧ ROWb d (oA o + 3) N (trn W) ∧ sx (q23 o) c d) (whl_cnt (fun k (st : Int32 × cS) => st.1 = nI k ∧ ROWb st.2 (oA o + 2) N W ∧ (∀ b, b < k → BRb (st.2.1 (oA o + 3) b) N (trn W b)) ∧ sx (q23 o) c st.2) N ?_ ?_ (by omega) ⟨rfl, x1, fun b hb => absurd hb (Nat.not_lt_zero _), x2⟩) (fun d hd => hd)
    · rintro k ⟨k0, w⟩ hk ⟨g1, g2, g3, g4⟩
      dsimp only at g1 g2 g3 g4
      subst g1
      dsimp only
      have w1 : w.1 (oA o) 1 = nI N := (g4.1 (oA o) 1 (decide_eq_false (by omega))).trans h1
      rw [w1]
      refine wpf (by simp (disch := first | omega | decide) only [↓neg1, nlit, rI, rL, rI2, rL1, nI_add, pk_mul, sbT, dvT, nmd, ixT, ↓ibT, ltT, ltF, leT, leF, eqT, eqF, nM_ltT, nM_ltF, nM_leT, nM_leF, nM_eqF, nM_eqF', nbT0, nbT1, oI_s, oI_n, natF, natT, nltT, nltF, nleT, nleF, ↓reduceIte, lgc, not_true_eq_false, not_false_eq_true, or_false, false_or, or_true, true_or, and_true, true_and, and_false, false_and, ne_eq, eq_self, or_self, and_self]) (wpt (by simp (disch := first | omega | decide) only [↓neg1, nlit, rI, rL, rI2, rL1, nI_add, pk_mul, sbT, dvT, nmd, ixT, ↓ibT, ltT, ltF, leT, leF, eqT, eqF, nM_ltT, nM_ltF, nM_leT, nM_leF, nM_eqF, nM_eqF', nbT0, nbT1, oI_s, oI_n, natF, natT, nltT, nltF, nleT, nleF, ↓reduceIte, lgc, not_true_eq_false, not_false_eq_true, or_false, false_or, or_true, true_or, and_true, true_and, and_false, false_and, ne_eq, eq_self, or_self, and_self]) ?_)
      rw [ix_n (by omega)]
      refine wpl ?_
      refine wpc (K' := fun d : cS => ROWb d (oA o + 2) N W ∧ (∀ b, b < k + 1 → BRb (d.1 (oA o + 3) b) N (trn W b)) ∧ sx (q23 o) c d) (whl_cnt (fun j (st : Int32 × cS) => st.1 = nI j ∧ ROWb st.2 (oA o + 2) N W ∧ (∀ b, b < k → BRb (st.2.1 (oA o + 3) b) N (trn W b)) ∧ BRb (st.2.1 (oA o + 3) k) N (fun a => decide (a < j) && W a k) ∧ sx (q23 o) c st.2) N ?_ ?_ (by omega) ⟨rfl, fun a ha => ?_, fun b hb => ?_, ?_, sx_pI g4 (decide_eq_true (by omega))⟩) (fun x hx => wpl ⟨nI_1 k, hx.1, hx.2.1, hx.2.2⟩)
      · rintro j ⟨j0, v⟩ hj ⟨y1, y2, y3, y4, y5⟩
        dsimp only at y1 y2 y3 y4 y5
        subst y1
        dsimp only
        have v1 : v.1 (oA o) 1 = nI N := (y5.1 (oA o) 1 (decide_eq_false (by omega))).trans h1
        rw [v1]
        refine wpf (by simp (disch := first | omega | decide) only [↓neg1, nlit, rI, rL, rI2, rL1, nI_add, pk_mul, sbT, dvT, nmd, ixT, ↓ibT, ltT, ltF, leT, leF, eqT, eqF, nM_ltT, nM_ltF, nM_leT, nM_leF, nM_eqF, nM_eqF', nbT0, nbT1, oI_s, oI_n, natF, natT, nltT, nltF, nleT, nleF, ↓reduceIte, lgc, not_true_eq_false, not_false_eq_true, or_false, false_or, or_true, true_or, and_true, true_and, and_false, false_and, ne_eq, eq_self, or_self, and_self]) (wpt (by simp (disch := first | omega | decide) only [↓neg1, nlit, rI, rL, rI2, rL1, nI_add, pk_mul, sbT, dvT, nmd, ixT, ↓ibT, ltT, ltF, leT, leF, eqT, eqF, nM_ltT, nM_ltF, nM_leT, nM_leF, nM_eqF, nM_eqF', nbT0, nbT1, oI_s, oI_n, natF, natT, nltT, nltF, nleT, nleF, ↓reduceIte, lgc, not_true_eq_false, not_false_eq_true, or_false, false_or, or_true, true_or, and_true, true_and, and_false, false_and, ne_eq, eq_self, or_self, and_self]) (wpe (e237b (by omega) hk hN (y2 j hj)) (wpjQ (fun z : Int32 => BRb z N (fun a => decide (a = j) && W a k)) (fun z hz => ?_) ?_)))
        · refine wpt (by simp (disch := first | omega | decide) only [↓neg1, nlit, rI, rL, rI2, rL1, nI_add, pk_mul, sbT, dvT, nmd, ixT, ↓ibT, ltT, ltF, leT, leF, eqT, eqF, nM_ltT, nM_ltF, nM_leT, nM_leF, nM_eqF, nM_eqF', nbT0, nbT1, oI_s, oI_n, natF, natT, nltT, nltF, nleT, nleF, ↓reduceIte, lgc, not_true_eq_false, not_false_eq_true, or_false, false_or, or_true, true_or, and_true, true_and, and_false, false_and, ne_eq, eq_self, or_self, and_self]) ?_
          refine wpl (wpl ⟨nI_1 j, fun a ha => ?_, fun b hb => ?_, ?_, sx_pI y5 (decide_eq_true (by omega))⟩)
          · show BRb ((pI v _ _ _).1 (oA o + 2) a) N (W a)
            rw [rI, if_neg (by omega)]
            exact y2 a ha
          · show BRb ((pI v _ _ _).1 (oA o + 3) b) N (trn W b)
            rw [rI, if_neg (by omega)]
            exact y3 b hb
          · show BRb ((pI v _ _ _).1 (oA o + 3) k) N _
            rw [rI, if_pos ⟨rfl, rfl⟩]
            refine BRb_cg (BRb_or y4 hz) (fun a _ => ?_)
            by_cases e1 : a < j
            · rw [decide_eq_true e1, decide_eq_false (show ¬ a = j by omega), decide_eq_true (show a < j + 1 by omega)]
              simp
            · by_cases e2 : a = j
              · rw [decide_eq_false e1, decide_eq_true e2, decide_eq_true (show a < j + 1 by omega)]
                simp
              · rw [decide_eq_false e1, decide_eq_false e2, decide_eq_false (show ¬ a < j + 1 by omega)]
                simp
        · intro Q' k' hk'
          by_cases e : W j k = true
          · refine wpf (by rw [if_pos e]; decide) (hk' _ (BRb_cg (BRb_1 hj hN) (fun a _ => ?_)))
            by_cases ea : a = j
            · rw [ea, e, decide_eq_true rfl]
              rfl
            · rw [decide_eq_false ea]
              rfl
          · refine wpt (by rw [if_neg e]) (hk' _ (BRb_cg BRb_0 (fun a _ => ?_)))
            by_cases ea : a = j
            · rw [ea, show W j k = false by simpa using e, Bool.and_false]
            · rw [decide_eq_false ea, Bool.false_and]
      · rintro ⟨j0, v⟩ ⟨y1, y2, y3, y4, y5⟩
        dsimp only at y1 y2 y3 y4 y5
        subst y1
        dsimp only
        have v1 : v.1 (oA o) 1 = nI N := (y5.1 (oA o) 1 (decide_eq_false (by omega))).trans h1
        rw [v1]
        refine wpt (by simp (disch := first | omega | decide) only [↓neg1, nlit, rI, rL, rI2, rL1, nI_add, pk_mul, sbT, dvT, nmd, ixT, ↓ibT, ltT, ltF, leT, leF, eqT, eqF, nM_ltT, nM_ltF, nM_leT, nM_leF, nM_eqF, nM_eqF', nbT0, nbT1, oI_s, oI_n, natF, natT, nltT, nltF, nleT, nleF, ↓reduceIte, lgc, not_true_eq_false, not_false_eq_true, or_false, false_or, or_true, true_or, and_true, true_and, and_false, false_and, ne_eq, eq_self, or_self, and_self]) ⟨y2, fun b hb => ?_, y5⟩
        by_cases e : b = k
        · subst e
          refine BRb_cg y4 (fun a ha => ?_)
          rw [decide_eq_true ha, Bool.true_and]
          rfl
        · exact y3 b (by omega)
      · show BRb ((pI w _ _ _).1 (oA o + 2) a) N (W a)
        rw [rI, if_neg (by omega)]
        exact g2 a ha
      · show BRb ((pI w _ _ _).1 (oA o + 3) b) N (trn W b)
        rw [rI, if_neg (by omega)]
        exact g3 b hb
      · show BRb ((pI w _ _ _).1 (oA o + 3) k) N _
        rw [rI, if_pos ⟨rfl, rfl⟩]
        refine BRb_cg BRb_0 (fun a _ => ?_)
        rw [decide_eq_false (Nat.not_lt_zero _), Bool.false_and]
    · rintro ⟨k0, w⟩ ⟨g1, g2, g3, g4⟩
      dsimp only at g1 g2 g3 g4
      subst g1
      dsimp only
      have w1 : w.1 (oA o) 1 = nI N := (g4.1 (oA o) 1 (decide_eq_false (by omega))).trans h1
      rw [w1]
      exact wpt (by simp (disch := first | omega | decide) only [↓neg1, nlit, rI, rL, rI2, rL1, nI_add, pk_mul, sbT, dvT, nmd, ixT, ↓ibT, ltT, ltF, leT, leF, eqT, eqF, nM_ltT, nM_ltF, nM_leT, nM_leF, nM_eqF, nM_eqF', nbT0, nbT1, oI_s, oI_n, natF, natT, nltT, nltF, nleT, nleF, ↓reduceIte, lgc, not_true_eq_false, not_false_eq_true, or_false, false_or, or_true, true_or, and_true, true_and, and_false, false_and, ne_eq, eq_self, or_self, and_self]) ⟨g2, g3, g4⟩
end OCC
