/-! compile: the beginning of both, the end of both -/
section CMPS
variable {n i j N k L : Nat} {c d u v w q : cS} {K P : Nat → Nat} {V : Nat → Int64} {b : Nat → Nat}
def q33 (A l : Nat) : Bool := decide ((A = 133 ∧ 11 ≤ l ∧ l ≤ 13) ∨ A = 144)
theorem e33c (hn : 10000 ≤ n) : wp (d_33 n c) (fun w => w.1 133 11 = nI 0 ∧ w.1 133 12 = nM ∧ w.1 133 13 = nI 0 ∧ (∀ r, r < 2242 → w.1 144 r = nI 0) ∧ sx q33 c w) := by
  unfold d_33
  refine wpl (wpl (wpl (wpc (e153 (n := n) (r := 144) (nr := 2242) (v := 0) hn (by decide)) (fun w hw => ?_))))
  obtain ⟨w1, w2, w3⟩ := hw
  refine wp_of rfl ⟨?_, ?_, ?_, fun r hr => ?_, fun A l z => ?_, fun A l z => ?_⟩
  · rw [w2 133 (by decide), rI, if_neg (by omega), rI, if_neg (by omega), rI, if_pos ⟨rfl, rfl⟩]
    rfl
  · rw [w2 133 (by decide), rI, if_neg (by omega), rI, if_pos ⟨rfl, rfl⟩]
    rfl
  · rw [w2 133 (by decide), rI, if_pos ⟨rfl, rfl⟩]
    rfl
  · rw [w1, if_pos hr]
    rfl
  · have z := of_decide_eq_false z
    rw [w2 A (by omega), rI, if_neg (by omega), rI, if_neg (by omega), rI, if_neg (by omega)]
  · rw [w3]
    rfl
/-- nothing is read -/
def NRD (w : cS) : Prop := (w.1 7 0 = nI 0 ∧ w.1 7 2 = nI 0 ∧ w.1 7 4 = nI 0 ∧ w.1 7 7 = nI 0 ∧ w.1 7 10 = nI 0) ∧ w.1 114 7 = nI 0 ∧ (w.1 133 11 = nI 0 ∧ w.1 133 12 = nM ∧ w.1 133 13 = nI 0) ∧ (∀ r, r < 2242 → w.1 144 r = nI 0) ∧ (w.1 145 4 = nI 0 ∧ w.1 145 5 = nI 0 ∧ w.1 145 7 = nI 0) ∧ w.1 1 1 = nI 0
def q40 (A l : Nat) : Bool := decide ((A = 1 ∧ (l = 1 ∨ l = 6 ∨ l = 7)) ∨ (3 ≤ A ∧ A ≤ 5) ∨ (A = 7 ∧ (l = 0 ∨ l = 2 ∨ l = 4 ∨ l = 7 ∨ l = 10)) ∨ (A = 114 ∧ l = 7) ∨ (A = 133 ∧ 11 ≤ l ∧ l ≤ 13) ∨ A = 144 ∨ (A = 145 ∧ (l = 4 ∨ l = 5 ∨ l = 7)))
theorem e40 (hn : 10000 ≤ n) (hW : WV c) (hT : TAP c b L) (hX : LXN b L N) : wp (d_40 n c) (fun r => ∃ w, NRD w ∧ LXW w b L N ∧ sx q40 c w ∧ ((psn b L N = L ∧ r = .inl w ∧ w.1 3 N = nI 0 ∧ w.1 4 N = nI L) ∨ (psn b L N < L ∧ tkO b L (psn b L N) = false ∧ r = .inr (flC w 1 (nI (psn b L N)))))) := by
  unfold d_40
  refine wpe (show d_36 n c = some (pI (pI (pI (pI (pI c 7 0 0) 7 2 0) 7 4 0) 7 7 0) 7 10 0) from rfl) (wpl (wpc (e33c hn) (fun x2 hx2 => ?_)))
  obtain ⟨a1, a2, a3, a4, a5⟩ := hx2
  have A2 : ∀ A l, ¬ ((A = 133 ∧ 11 ≤ l ∧ l ≤ 13) ∨ A = 144) → x2.1 A l = (pI (pI (pI (pI (pI (pI c 7 0 0) 7 2 0) 7 4 0) 7 7 0) 7 10 0) 114 7 0).1 A l := fun A l z => a5.1 _ _ (decide_eq_false z)
  have x7 : x2.1 7 0 = nI 0 ∧ x2.1 7 2 = nI 0 ∧ x2.1 7 4 = nI 0 ∧ x2.1 7 7 = nI 0 ∧ x2.1 7 10 = nI 0 ∧ x2.1 114 7 = nI 0 := by
    refine ⟨?_, ?_, ?_, ?_, ?_, ?_⟩
    · rw [A2 _ _ (by omega), rI, if_neg (by omega), rI, if_neg (by omega), rI, if_neg (by omega), rI, if_neg (by omega), rI, if_neg (by omega), rI, if_pos ⟨rfl, rfl⟩]
      rfl
    · rw [A2 _ _ (by omega), rI, if_neg (by omega), rI, if_neg (by omega), rI, if_neg (by omega), rI, if_neg (by omega), rI, if_pos ⟨rfl, rfl⟩]
      rfl
    · rw [A2 _ _ (by omega), rI, if_neg (by omega), rI, if_neg (by omega), rI, if_neg (by omega), rI, if_pos ⟨rfl, rfl⟩]
      rfl
    · rw [A2 _ _ (by omega), rI, if_neg (by omega), rI, if_neg (by omega), rI, if_pos ⟨rfl, rfl⟩]
      rfl
    · rw [A2 _ _ (by omega), rI, if_neg (by omega), rI, if_pos ⟨rfl, rfl⟩]
      rfl
    · rw [A2 _ _ (by omega), rI, if_pos ⟨rfl, rfl⟩]
      rfl
  have s2 : sx q40 c x2 := sx_trans (sx_pI (sx_pI (sx_pI (sx_pI (sx_pI (sx_pI sx_rfl (by decide)) (by decide)) (by decide)) (by decide)) (by decide)) (by decide)) (sx_wide a5 (fun A l z => by
    have := of_decide_eq_false z
    exact decide_eq_false (by omega)))
  refine wpl (wpl (wpl ?_))
  obtain ⟨x3, hx3⟩ : ∃ x3, x3 = pI (pI (pI x2 145 4 0) 145 5 0) 145 7 0 := ⟨_, rfl⟩
  rw [← hx3]
  have B3 : ∀ A l, ¬ (A = 145 ∧ (l = 4 ∨ l = 5 ∨ l = 7)) → x3.1 A l = x2.1 A l := fun A l z => by
    rw [hx3, rI, if_neg (by omega), rI, if_neg (by omega), rI, if_neg (by omega)]
  have y5 : x3.1 145 4 = nI 0 ∧ x3.1 145 5 = nI 0 ∧ x3.1 145 7 = nI 0 := by
    rw [hx3]
    refine ⟨?_, ?_, ?_⟩
    · rw [rI, if_neg (by omega), rI, if_neg (by omega), rI, if_pos ⟨rfl, rfl⟩]
      rfl
    · rw [rI, if_neg (by omega), rI, if_pos ⟨rfl, rfl⟩]
      rfl
    · rw [rI, if_pos ⟨rfl, rfl⟩]
      rfl
  have s3 : sx q40 c x3 := by
    rw [hx3]
    exact sx_pI (sx_pI (sx_pI s2 (by decide)) (by decide)) (by decide)
  have x3b : x3.1 1 1 = c.1 1 1 ∧ (∀ l, x3.1 2 l = c.1 2 l) ∧ ∀ l, x3.2 6 l = c.2 6 l := by
    refine ⟨?_, fun l => s3.1 _ _ (decide_eq_false (by omega)), fun l => s3.2 _ _ (decide_eq_false (by omega))⟩
    rw [B3 _ _ (by omega), A2 _ _ (by omega), rI, if_neg (by omega), rI, if_neg (by omega), rI, if_neg (by omega), rI, if_neg (by omega), rI, if_neg (by omega), rI, if_neg (by omega)]
  have hW3 : WV x3 := fun w hw => by
    rw [x3b.2.2 w]
    exact hW w hw
  have hT3 : TAP x3 b L := ⟨hT.1, by rw [x3b.1]; exact hT.2.1, fun j hj => ⟨(hT.2.2 j hj).1, by rw [x3b.2.1 j]; exact (hT.2.2 j hj).2⟩⟩
  refine wpc (e25 hn hW3 hT3 hX) (fun r hr => ?_)
  obtain ⟨r1, r2, r3⟩ := hr
  refine wpl (wpj ?_)
  obtain ⟨w, hw⟩ : ∃ w, w = pI r.2 1 1 0 := ⟨_, rfl⟩
  rw [← hw]
  have C4 : ∀ A l, ¬ (A = 1 ∧ (l = 1 ∨ l = 6 ∨ l = 7)) → ¬ (3 ≤ A ∧ A ≤ 5) → w.1 A l = x3.1 A l := fun A l z1 z2 => by
    rw [hw, rI, if_neg (by omega)]
    exact r2.1 _ _ (decide_eq_false (by omega))
  have C5 : ∀ A l, 3 ≤ A → w.1 A l = r.2.1 A l := fun A l z => by rw [hw, rI, if_neg (by omega)]
  have hN : NRD w := by
    refine ⟨⟨?_, ?_, ?_, ?_, ?_⟩, ?_, ⟨?_, ?_, ?_⟩, fun r hr => ?_, ⟨?_, ?_, ?_⟩, ?_⟩
    · rw [C4 _ _ (by omega) (by omega), B3 _ _ (by omega)]; exact x7.1
    · rw [C4 _ _ (by omega) (by omega), B3 _ _ (by omega)]; exact x7.2.1
    · rw [C4 _ _ (by omega) (by omega), B3 _ _ (by omega)]; exact x7.2.2.1
    · rw [C4 _ _ (by omega) (by omega), B3 _ _ (by omega)]; exact x7.2.2.2.1
    · rw [C4 _ _ (by omega) (by omega), B3 _ _ (by omega)]; exact x7.2.2.2.2.1
    · rw [C4 _ _ (by omega) (by omega), B3 _ _ (by omega)]; exact x7.2.2.2.2.2
    · rw [C4 _ _ (by omega) (by omega), B3 _ _ (by omega)]; exact a1
    · rw [C4 _ _ (by omega) (by omega), B3 _ _ (by omega)]; exact a2
    · rw [C4 _ _ (by omega) (by omega), B3 _ _ (by omega)]; exact a3
    · rw [C4 _ _ (by omega) (by omega), B3 _ _ (by omega)]; exact a4 r hr
    · rw [C4 _ _ (by omega) (by omega)]; exact y5.1
    · rw [C4 _ _ (by omega) (by omega)]; exact y5.2.1
    · rw [C4 _ _ (by omega) (by omega)]; exact y5.2.2
    · rw [hw, rI, if_pos ⟨rfl, rfl⟩]
      rfl
  have hLX : LXW w b L N := fun j hj => by
    obtain ⟨g1, g2, g3⟩ := r1 j hj
    exact ⟨by rw [C5 _ _ (by omega)]; exact g1, by rw [C5 _ _ (by omega)]; exact g2, fun z => by rw [hw]; exact g3 z⟩
  have s4 : sx q40 c w := by
    rw [hw]
    exact sx_pI (sx_trans s3 (sx_wide r2 (fun A l z => by
      have := of_decide_eq_false z
      exact decide_eq_false (by omega)))) (by decide)
  rcases r3 with ⟨z1, z2, z3, z4⟩ | ⟨z1, z2, z3⟩
  · rw [z2]
    exact wpt (by decide) (wp_of rfl ⟨w, hN, hLX, s4, Or.inl ⟨z1, rfl, by rw [C5 _ _ (by omega)]; exact z3, by rw [C5 _ _ (by omega)]; exact z4⟩⟩)
  · rw [z3]
    have hL := hT.1
    exact wpf (nI_pos (by omega)) (wpe e41 (wpSr (wp_of rfl ⟨w, hN, hLX, s4, Or.inr ⟨z1, z2, rfl⟩⟩)))
/-- the reference's beginning -/
def uR0 (u : cS) : cS := pI (pI (pI (pI (pI u 174 2 0) 174 13 0) 174 11 0) 174 12 0) 174 14 0
def qU0 (A l : Nat) : Bool := decide ((A = 174 ∧ (l = 2 ∨ (11 ≤ l ∧ l ≤ 14) ∨ l = 106 ∨ l = 111 ∨ l = 97 ∨ l = 102 ∨ l = 130 ∨ l = 7)) ∨ (178 ≤ A ∧ A ≤ 180))
/-- the reference's end: founds at the top -/
def fnL (n : Nat) (s33 : Int32 × cS) : Option ((Int32 × cS) ⊕ cS) :=
              if (s33.2.1 174 15) ≤ s33.1 then
                some (.inr s33.2)
              else
                Option.bind (whl (R := (cS)) (fun s35 : Int32 × cS =>
                  if 1200 ≤ s35.1 then
                    some (.inr s35.2)
                  else
                    if ib s33.1 4 then
                    if ib ((1200 * s33.1) + s35.1) 4800 then
                    lt (pI s35.2 235 (ix ((1200 * s33.1) + s35.1)) (s35.2.1 187 (ix s33.1))) (fun c38 =>
                    lt (s35.1 + 1 : Int32) (fun v41 =>
                    some (.inl (v41, c38))))
                    else none
                    else none) n (0, s33.2))
                (fun x43 : cS =>
                  lt (s33.1 + 1 : Int32) (fun v45 =>
                  some (.inl (v45, x43))))
def enR (n : Nat) (x26 : cS) : Option (Int32 × cS) :=
        jn (fun p27 : Int32 =>
          lt (pI x26 174 0 p27) (fun c28 =>
          if (c28.1 174 13) = 0 then
            lt (pI c28 174 14 1) (fun c30 =>
            Option.bind (whl (fnL n) n (0, c30))
            (fun x47 : cS =>
              some ((x47.1 174 37), x47)))
          else
            some (0, c28)))
        (fun j108 =>
        if (x26.1 174 13) = 0 then
          j108 0
        else
          j108 1)
theorem d106_s : d_106 n u = Option.bind (d_133 n (uR0 u)) (fun r14 =>
  Option.bind (d_99 n (u.1 174 2) r14) (fun r15 =>
  jn (fun p16 : cS =>
    jn (fun p17 : cS =>
      Option.bind (whl (dmR n) n (0, p17)) (enR n))
    (fun j61 =>
    if (p16.1 174 13) = 0 then
      Option.bind (d_415 n p16) (fun r48 =>
      j61 r48)
    else
      j61 p16))
  (fun j50 =>
  if (r15.1 174 13) = 0 then
    Option.bind (d_104 n r15) (fun r49 =>
    j50 r49)
  else
    j50 r15))) := rfl
theorem fn_in {o : Nat} (hn : 10000 ≤ n) (ho : o < 4) : wp (whl (R := (cS)) (fun s35 : Int32 × cS =>
                  if 1200 ≤ s35.1 then
                    some (.inr s35.2)
                  else
                    if ib (nI o) 4 then
                    if ib ((1200 * (nI o)) + s35.1) 4800 then
                    lt (pI s35.2 235 (ix ((1200 * (nI o)) + s35.1)) (s35.2.1 187 (ix (nI o)))) (fun c38 =>
                    lt (s35.1 + 1 : Int32) (fun v41 =>
                    some (.inl (v41, c38))))
                    else none
                    else none) n (0, u)) (fun w => (∀ p, p < 1200 → w.1 235 (1200 * o + p) = u.1 187 o) ∧ sx (fun A l => decide (A = 235 ∧ 1200 * o ≤ l ∧ l < 1200 * o + 1200)) u w) := by
  refine whl_cnt (fun k (s : Int32 × cS) => s.1 = nI k ∧ (∀ p, p < k → s.2.1 235 (1200 * o + p) = u.1 187 o) ∧ sx (fun A l => decide (A = 235 ∧ 1200 * o ≤ l ∧ l < 1200 * o + 1200)) u s.2) 1200 ?_ ?_ (by omega) ⟨rfl, fun p hp => absurd hp (Nat.not_lt_zero _), sx_rfl⟩
  · rintro k ⟨x, s⟩ hk ⟨g1, g2, g3⟩
    dsimp only at g1 g2 g3
    subst g1
    dsimp only
    have e1 : (1200 : Int32) * nI o + nI k = nI (1200 * o + k) := by rw [show (1200 : Int32) = nI 1200 from rfl, pk_mul, nI_add]
    rw [e1, show ix (nI (1200 * o + k)) = 1200 * o + k from ix_n (by omega), show ix (nI o) = o from ix_n (by omega)]
    have s87 : s.1 187 o = u.1 187 o := g3.1 _ _ (decide_eq_false (by omega))
    rw [s87]
    refine wpf (by simp (disch := first | omega | decide) only [↓neg1, nlit, rI, rL, rI2, rL1, nI_add, pk_mul, sbT, dvT, nmd, ixT, ↓ibT, ltT, ltF, leT, leF, eqT, eqF, nM_ltT, nM_ltF, nM_leT, nM_leF, nM_eqF, nM_eqF', nbT0, nbT1, oI_s, oI_n, natF, natT, nltT, nltF, nleT, nleF, ↓reduceIte, lgc, not_true_eq_false, not_false_eq_true, or_false, false_or, or_true, true_or, and_true, true_and, and_false, false_and, ne_eq, eq_self, or_self, and_self]) (wpt (ib_n ho (by decide)) (wpt (ib_n (by omega) (by decide)) (wpl (wpl ⟨nI_1 k, fun p hp => ?_, sx_pI g3 (decide_eq_true (by omega))⟩))))
    show (pI s 235 (1200 * o + k) (u.1 187 o)).1 235 (1200 * o + p) = _
    rw [rI]
    by_cases e : p = k
    · rw [if_pos ⟨rfl, by omega⟩]
    · rw [if_neg (by omega)]
      exact g2 p (by omega)
  · rintro ⟨x, s⟩ ⟨g1, g2, g3⟩
    dsimp only at g1 g2 g3
    subst g1
    dsimp only
    exact wpt (by decide) (wp_of rfl ⟨g2, g3⟩)
theorem fn_all {oc : Nat} (hn : 10000 ≤ n) (hoc : oc ≤ 4) (h15 : u.1 174 15 = nI oc) : wp (whl (fnL n) n (0, u)) (fun w => (∀ o p, o < oc → p < 1200 → w.1 235 (1200 * o + p) = u.1 187 o) ∧ sx (fun A _ => decide (A = 235)) u w) := by
  refine whl_cnt (fun k (s : Int32 × cS) => s.1 = nI k ∧ (∀ o p, o < k → p < 1200 → s.2.1 235 (1200 * o + p) = u.1 187 o) ∧ sx (fun A _ => decide (A = 235)) u s.2) oc ?_ ?_ (by omega) ⟨rfl, fun o p ho => absurd ho (Nat.not_lt_zero _), sx_rfl⟩
  · rintro k ⟨x, s⟩ hk ⟨g1, g2, g3⟩
    dsimp only at g1 g2 g3
    subst g1
    unfold fnL
    dsimp only
    rw [show s.1 174 15 = nI oc by rw [g3.1 _ _ rfl]; exact h15]
    refine wpf (by simp (disch := first | omega | decide) only [↓neg1, nlit, rI, rL, rI2, rL1, nI_add, pk_mul, sbT, dvT, nmd, ixT, ↓ibT, ltT, ltF, leT, leF, eqT, eqF, nM_ltT, nM_ltF, nM_leT, nM_leF, nM_eqF, nM_eqF', nbT0, nbT1, oI_s, oI_n, natF, natT, nltT, nltF, nleT, nleF, ↓reduceIte, lgc, not_true_eq_false, not_false_eq_true, or_false, false_or, or_true, true_or, and_true, true_and, and_false, false_and, ne_eq, eq_self, or_self, and_self]) (wpc (fn_in (n := n) (u := s) (o := k) hn (by omega)) (fun w hw => wpl ⟨nI_1 k, fun o p ho hp => ?_, sx_trans g3 (sx_wide hw.2 (fun A l z => by
      have := of_decide_eq_false z
      exact decide_eq_false (by omega)))⟩))
    by_cases e : o = k
    · rw [e, hw.1 p hp]
      exact g3.1 _ _ rfl
    · rw [hw.2.1 _ _ (decide_eq_false (by omega))]
      exact g2 o p (by omega) hp
  · rintro ⟨x, s⟩ ⟨g1, g2, g3⟩
    dsimp only at g1 g2 g3
    subst g1
    unfold fnL
    dsimp only
    rw [show s.1 174 15 = nI oc by rw [g3.1 _ _ rfl]; exact h15]
    exact wpt (by simp (disch := first | omega | decide) only [↓neg1, nlit, rI, rL, rI2, rL1, nI_add, pk_mul, sbT, dvT, nmd, ixT, ↓ibT, ltT, ltF, leT, leF, eqT, eqF, nM_ltT, nM_ltF, nM_leT, nM_leF, nM_eqF, nM_eqF', nbT0, nbT1, oI_s, oI_n, natF, natT, nltT, nltF, nleT, nleF, ↓reduceIte, lgc, not_true_eq_false, not_false_eq_true, or_false, false_or, or_true, true_or, and_true, true_and, and_false, false_and, ne_eq, eq_self, or_self, and_self]) (wp_of rfl ⟨g2, g3⟩)
/-! the class's end -/
theorem e177c {o cc : Nat} {x : Int32} (hn : 10000 ≤ n) (ho : o < 4) (hcc : cc ≤ 12) (h10 : c.1 7 10 = nI cc) : wp (d_177 n (nI o) x c) (fun w => (∀ p, p < 100 * cc → w.1 148 (p * 4 + o) = x) ∧ sx (fun A l => decide (A = 148 ∧ l % 4 = o)) c w) := by
  unfold d_177
  refine wpc (K' := fun w : cS => (∀ p, p < 100 * cc → w.1 148 (p * 4 + o) = x) ∧ sx (fun A l => decide (A = 148 ∧ l % 4 = o)) c w) (whl_cnt (fun k (s : Int32 × cS) => s.1 = nI k ∧ (∀ p, p < k → s.2.1 148 (p * 4 + o) = x) ∧ sx (fun A l => decide (A = 148 ∧ l % 4 = o)) c s.2) (100 * cc) ?_ ?_ (by omega) ⟨rfl, fun p hp => absurd hp (Nat.not_lt_zero _), sx_rfl⟩) (fun w hw => wp_of rfl hw)
  · rintro k ⟨y, s⟩ hk ⟨g1, g2, g3⟩
    dsimp only at g1 g2 g3
    subst g1
    dsimp only
    have e1 : nI k * 4 + nI o = nI (k * 4 + o) := by rw [show (4 : Int32) = nI 4 from rfl, pk_mul, nI_add]
    have e2 : (100 : Int32) * nI cc = nI (100 * cc) := by rw [show (100 : Int32) = nI 100 from rfl, pk_mul]
    rw [show s.1 7 10 = nI cc by rw [g3.1 _ _ (decide_eq_false (by omega))]; exact h10, e1, e2, show ix (nI (k * 4 + o)) = k * 4 + o from ix_n (by omega)]
    refine wpf (by simp (disch := first | omega | decide) only [↓neg1, nlit, rI, rL, rI2, rL1, nI_add, pk_mul, sbT, dvT, nmd, ixT, ↓ibT, ltT, ltF, leT, leF, eqT, eqF, nM_ltT, nM_ltF, nM_leT, nM_leF, nM_eqF, nM_eqF', nbT0, nbT1, oI_s, oI_n, natF, natT, nltT, nltF, nleT, nleF, ↓reduceIte, lgc, not_true_eq_false, not_false_eq_true, or_false, false_or, or_true, true_or, and_true, true_and, and_false, false_and, ne_eq, eq_self, or_self, and_self]) (wpt (ib_n (by omega) (by decide)) (wpl (wpl ⟨nI_1 k, fun p hp => ?_, sx_pI g3 (decide_eq_true (by omega))⟩)))
    show (pI s 148 (k * 4 + o) x).1 148 (p * 4 + o) = _
    rw [rI]
    by_cases e : p = k
    · rw [if_pos ⟨rfl, by omega⟩]
    · rw [if_neg (by omega)]
      exact g2 p (by omega)
  · rintro ⟨y, s⟩ ⟨g1, g2, g3⟩
    dsimp only at g1 g2 g3
    subst g1
    dsimp only
    have e2 : (100 : Int32) * nI cc = nI (100 * cc) := by rw [show (100 : Int32) = nI 100 from rfl, pk_mul]
    rw [show s.1 7 10 = nI cc by rw [g3.1 _ _ (decide_eq_false (by omega))]; exact h10, e2]
    exact wpt (by simp (disch := first | omega | decide) only [↓neg1, nlit, rI, rL, rI2, rL1, nI_add, pk_mul, sbT, dvT, nmd, ixT, ↓ibT, ltT, ltF, leT, leF, eqT, eqF, nM_ltT, nM_ltF, nM_leT, nM_leF, nM_eqF, nM_eqF', nbT0, nbT1, oI_s, oI_n, natF, natT, nltT, nltF, nleT, nleF, ↓reduceIte, lgc, not_true_eq_false, not_false_eq_true, or_false, false_or, or_true, true_or, and_true, true_and, and_false, false_and, ne_eq, eq_self, or_self, and_self]) (wp_of rfl ⟨g2, g3⟩)
theorem e176 {oc cc : Nat} (hn : 10000 ≤ n) (hoc : oc ≤ 4) (hcc : cc ≤ 12) (h2 : c.1 7 2 = nI oc) (h10 : c.1 7 10 = nI cc) : wp (d_176 n c) (fun w => w.1 146 8 = nI 1 ∧ (∀ o p, o < oc → p < 100 * cc → w.1 148 (p * 4 + o) = c.1 (oA o) 2) ∧ sx (fun A l => decide ((A = 146 ∧ l = 8) ∨ A = 148)) c w) := by
  unfold d_176
  refine wpl ?_
  refine wpc (K' := fun w : cS => w.1 146 8 = nI 1 ∧ (∀ o p, o < oc → p < 100 * cc → w.1 148 (p * 4 + o) = c.1 (oA o) 2) ∧ sx (fun A l => decide ((A = 146 ∧ l = 8) ∨ A = 148)) c w) (whl_cnt (fun k (s : Int32 × cS) => s.1 = nI k ∧ s.2.1 146 8 = nI 1 ∧ (∀ o p, o < k → p < 100 * cc → s.2.1 148 (p * 4 + o) = c.1 (oA o) 2) ∧ sx (fun A l => decide ((A = 146 ∧ l = 8) ∨ A = 148)) c s.2) oc ?_ ?_ (by omega) ⟨rfl, by rw [rI, if_pos ⟨rfl, rfl⟩]; rfl, fun o p ho => absurd ho (Nat.not_lt_zero _), sx_pI sx_rfl (by decide)⟩) (fun w hw => wp_of rfl hw)
  · rintro k ⟨y, s⟩ hk ⟨g1, g0, g2, g3⟩
    dsimp only at g1 g0 g2 g3
    subst g1
    dsimp only
    have S : ∀ A l, ¬ ((A = 146 ∧ l = 8) ∨ A = 148) → s.1 A l = c.1 A l := fun A l z => g3.1 _ _ (decide_eq_false z)
    rw [S 7 2 (by omega), h2, show ix (nI k) = k from ix_n (by omega), S (oA k) 2 (by unfold oA; omega)]
    refine wpf (by simp (disch := first | omega | decide) only [↓neg1, nlit, rI, rL, rI2, rL1, nI_add, pk_mul, sbT, dvT, nmd, ixT, ↓ibT, ltT, ltF, leT, leF, eqT, eqF, nM_ltT, nM_ltF, nM_leT, nM_leF, nM_eqF, nM_eqF', nbT0, nbT1, oI_s, oI_n, natF, natT, nltT, nltF, nleT, nleF, ↓reduceIte, lgc, not_true_eq_false, not_false_eq_true, or_false, false_or, or_true, true_or, and_true, true_and, and_false, false_and, ne_eq, eq_self, or_self, and_self]) (wpt (ib_n (by omega) (by decide)) (wpc (e177c (n := n) (o := k) (cc := cc) (x := c.1 (oA k) 2) hn (by omega) hcc (by rw [S _ _ (by omega)]; exact h10)) (fun w hw => wpl ⟨nI_1 k, ?_, fun o p ho hp => ?_, sx_trans g3 (sx_wide hw.2 (fun A l z => by
      have := of_decide_eq_false z
      exact decide_eq_false (by omega)))⟩)))
    · rw [hw.2.1 _ _ (decide_eq_false (by omega))]
      exact g0
    · by_cases e : o = k
      · rw [e]
        exact hw.1 p hp
      · rw [hw.2.1 _ _ (decide_eq_false (by omega))]
        exact g2 o p (by omega) hp
  · rintro ⟨y, s⟩ ⟨g1, g0, g2, g3⟩
    dsimp only at g1 g0 g2 g3
    subst g1
    dsimp only
    rw [show s.1 7 2 = nI oc by rw [g3.1 _ _ (decide_eq_false (by omega))]; exact h2]
    exact wpt (by simp (disch := first | omega | decide) only [↓neg1, nlit, rI, rL, rI2, rL1, nI_add, pk_mul, sbT, dvT, nmd, ixT, ↓ibT, ltT, ltF, leT, leF, eqT, eqF, nM_ltT, nM_ltF, nM_leT, nM_leF, nM_eqF, nM_eqF', nbT0, nbT1, oI_s, oI_n, natF, natT, nltT, nltF, nleT, nleF, ↓reduceIte, lgc, not_true_eq_false, not_false_eq_true, or_false, false_or, or_true, true_or, and_true, true_and, and_false, false_and, ne_eq, eq_self, or_self, and_self]) (wp_of rfl ⟨g0, g2, g3⟩)
end CMPS
